-- StepsAheadModel.terms(II)I
theorem PT_151 : PT 151 = pt151 := rfl
theorem k151_0 : lkp pt151 0 = iP 1 (fAld 0) := rfl
theorem k151_1 : lkp pt151 1 = iP 2 (fIld 1) := rfl
theorem k151_2 : lkp pt151 2 = iCK 5 12 132 2 2 1 := rfl
theorem k151_5 : lkp pt151 5 = iB 8 18 (b1 (fun x => decide (x = 0))) := rfl
theorem k151_8 : lkp pt151 8 = iP 9 (fIld 2) := rfl
theorem k151_9 : lkp pt151 9 = iP 10 fI2l := rfl
theorem k151_10 : lkp pt151 10 = iP 11 (fK (.inr (.inl 0))) := rfl
theorem k151_11 : lkp pt151 11 = iP 12 (fK (.inr (.inl 1))) := rfl
theorem k151_12 : lkp pt151 12 = iC 15 130 6 3 1 := rfl
theorem k151_15 : lkp pt151 15 = iB 18 21 (b1 (fun x => decide (x ≠ 0))) := rfl
theorem k151_18 : lkp pt151 18 = iP 20 (fK (.inl (-1000001))) := rfl
theorem k151_20 : lkp pt151 20 = iRet rI := rfl
theorem k151_21 : lkp pt151 21 = iP 22 (fAld 0) := rfl
theorem k151_22 : lkp pt151 22 = iP 23 (fIld 1) := rfl
theorem k151_23 : lkp pt151 23 = iP 24 (fIld 2) := rfl
theorem k151_24 : lkp pt151 24 = iCK 27 12 152 3 3 1 := rfl
theorem k151_27 : lkp pt151 27 = iP 28 (fIst 3) := rfl
theorem k151_28 : lkp pt151 28 = iP 29 (fIld 3) := rfl
theorem k151_29 : lkp pt151 29 = iB 32 36 (b1 (fun x => decide (x = 0))) := rfl
theorem k151_32 : lkp pt151 32 = iP 33 (fIld 3) := rfl
theorem k151_33 : lkp pt151 33 = iP 45 fGo := rfl
theorem k151_36 : lkp pt151 36 = iP 37 (fAld 0) := rfl
theorem k151_37 : lkp pt151 37 = iP 38 (fK (.inl 2)) := rfl
theorem k151_38 : lkp pt151 38 = iP 39 (fIld 1) := rfl
theorem k151_39 : lkp pt151 39 = iP 40 (f2I (fun x y => x * y)) := rfl
theorem k151_40 : lkp pt151 40 = iP 41 (fIld 2) := rfl
theorem k151_41 : lkp pt151 41 = iP 42 (f2I (fun x y => x + y)) := rfl
theorem k151_42 : lkp pt151 42 = iCK 45 12 164 4 2 1 := rfl
theorem k151_45 : lkp pt151 45 = iRet rI := rfl
theorem b151_0 {G : AG} (hG : FIX G) (x0 : Nat) (x1 : Int32) (x2 : Int32) (H : Hp) : G 151 0 [some (.inr (.inr x0)), some (.inl x1), some (.inl x2), none] [] H = (bif Nat.beq (H.1 x0).1 12 then (G 132 0 [some (.inr (.inr x0)), some (.inl x1)] [] H).bind fun u1 => (asI u1.1).bind fun i2 => bif decide ((i2 : Int32) = 0) then G 151 18 [some (.inr (.inr x0)), some (.inl x1), some (.inl x2), none] [] u1.2 else (G 130 0 [some (.inr (.inl x2.toInt64)), none, some (.inr (.inl 0)), none, some (.inr (.inl 1)), none] [] u1.2).bind fun u3 => (asI u3.1).bind fun i4 => bif decide ((i4 : Int32) ≠ 0) then bif Nat.beq (u3.2.1 x0).1 12 then (G 152 0 [some (.inr (.inr x0)), some (.inl x1), some (.inl x2)] [] u3.2).bind fun u5 => (asI u5.1).bind fun i6 => bif decide ((i6 : Int32) = 0) then bif Nat.beq (u5.2.1 x0).1 12 then (G 164 0 [some (.inr (.inr x0)), some (.inl (((2 * x1) + x2))), none, none] [] u5.2).bind fun u7 => (asI u7.1).bind fun i8 => G 151 45 [some (.inr (.inr x0)), some (.inl x1), some (.inl x2), some (.inl i6)] [.inl i8] u7.2 else none else G 151 45 [some (.inr (.inr x0)), some (.inl x1), some (.inl x2), some (.inl i6)] [.inl i6] u5.2 else none else G 151 18 [some (.inr (.inr x0)), some (.inl x1), some (.inl x2), none] [] u3.2 else none) := by
  refine Eq.trans (e1 hG PT_151 k151_0 _ _ _) ?_
  show G 151 1 [some (.inr (.inr x0)), some (.inl x1), some (.inl x2), none] [.inr (.inr x0)] H = _
  refine Eq.trans (e1 hG PT_151 k151_1 _ _ _) ?_
  show G 151 2 [some (.inr (.inr x0)), some (.inl x1), some (.inl x2), none] [.inl x1, .inr (.inr x0)] H = _
  refine Eq.trans (e1 hG PT_151 k151_2 _ _ _) ?_
  refine bfc ?_ ?_
  · refine bdc fun u1 => ?_
    refine bdc fun i2 => ?_
    show G 151 5 [some (.inr (.inr x0)), some (.inl x1), some (.inl x2), none] [.inl i2] u1.2 = _
    refine Eq.trans (e1 hG PT_151 k151_5 _ _ _) ?_
    refine bfc ?_ ?_
    · rfl
    · show G 151 8 [some (.inr (.inr x0)), some (.inl x1), some (.inl x2), none] [] u1.2 = _
      refine Eq.trans (e1 hG PT_151 k151_8 _ _ _) ?_
      show G 151 9 [some (.inr (.inr x0)), some (.inl x1), some (.inl x2), none] [.inl x2] u1.2 = _
      refine Eq.trans (e1 hG PT_151 k151_9 _ _ _) ?_
      show G 151 10 [some (.inr (.inr x0)), some (.inl x1), some (.inl x2), none] [.inr (.inl x2.toInt64)] u1.2 = _
      refine Eq.trans (e1 hG PT_151 k151_10 _ _ _) ?_
      show G 151 11 [some (.inr (.inr x0)), some (.inl x1), some (.inl x2), none] [.inr (.inl 0), .inr (.inl x2.toInt64)] u1.2 = _
      refine Eq.trans (e1 hG PT_151 k151_11 _ _ _) ?_
      show G 151 12 [some (.inr (.inr x0)), some (.inl x1), some (.inl x2), none] [.inr (.inl 1), .inr (.inl 0), .inr (.inl x2.toInt64)] u1.2 = _
      refine Eq.trans (e1 hG PT_151 k151_12 _ _ _) ?_
      refine bdc fun u3 => ?_
      refine bdc fun i4 => ?_
      show G 151 15 [some (.inr (.inr x0)), some (.inl x1), some (.inl x2), none] [.inl i4] u3.2 = _
      refine Eq.trans (e1 hG PT_151 k151_15 _ _ _) ?_
      refine bfc ?_ ?_
      · show G 151 21 [some (.inr (.inr x0)), some (.inl x1), some (.inl x2), none] [] u3.2 = _
        refine Eq.trans (e1 hG PT_151 k151_21 _ _ _) ?_
        show G 151 22 [some (.inr (.inr x0)), some (.inl x1), some (.inl x2), none] [.inr (.inr x0)] u3.2 = _
        refine Eq.trans (e1 hG PT_151 k151_22 _ _ _) ?_
        show G 151 23 [some (.inr (.inr x0)), some (.inl x1), some (.inl x2), none] [.inl x1, .inr (.inr x0)] u3.2 = _
        refine Eq.trans (e1 hG PT_151 k151_23 _ _ _) ?_
        show G 151 24 [some (.inr (.inr x0)), some (.inl x1), some (.inl x2), none] [.inl x2, .inl x1, .inr (.inr x0)] u3.2 = _
        refine Eq.trans (e1 hG PT_151 k151_24 _ _ _) ?_
        refine bfc ?_ ?_
        · refine bdc fun u5 => ?_
          refine bdc fun i6 => ?_
          show G 151 27 [some (.inr (.inr x0)), some (.inl x1), some (.inl x2), none] [.inl i6] u5.2 = _
          refine Eq.trans (e1 hG PT_151 k151_27 _ _ _) ?_
          show G 151 28 [some (.inr (.inr x0)), some (.inl x1), some (.inl x2), some (.inl i6)] [] u5.2 = _
          refine Eq.trans (e1 hG PT_151 k151_28 _ _ _) ?_
          show G 151 29 [some (.inr (.inr x0)), some (.inl x1), some (.inl x2), some (.inl i6)] [.inl i6] u5.2 = _
          refine Eq.trans (e1 hG PT_151 k151_29 _ _ _) ?_
          refine bfc ?_ ?_
          · show G 151 36 [some (.inr (.inr x0)), some (.inl x1), some (.inl x2), some (.inl i6)] [] u5.2 = _
            refine Eq.trans (e1 hG PT_151 k151_36 _ _ _) ?_
            show G 151 37 [some (.inr (.inr x0)), some (.inl x1), some (.inl x2), some (.inl i6)] [.inr (.inr x0)] u5.2 = _
            refine Eq.trans (e1 hG PT_151 k151_37 _ _ _) ?_
            show G 151 38 [some (.inr (.inr x0)), some (.inl x1), some (.inl x2), some (.inl i6)] [.inl 2, .inr (.inr x0)] u5.2 = _
            refine Eq.trans (e1 hG PT_151 k151_38 _ _ _) ?_
            show G 151 39 [some (.inr (.inr x0)), some (.inl x1), some (.inl x2), some (.inl i6)] [.inl x1, .inl 2, .inr (.inr x0)] u5.2 = _
            refine Eq.trans (e1 hG PT_151 k151_39 _ _ _) ?_
            show G 151 40 [some (.inr (.inr x0)), some (.inl x1), some (.inl x2), some (.inl i6)] [.inl (2 * x1), .inr (.inr x0)] u5.2 = _
            refine Eq.trans (e1 hG PT_151 k151_40 _ _ _) ?_
            show G 151 41 [some (.inr (.inr x0)), some (.inl x1), some (.inl x2), some (.inl i6)] [.inl x2, .inl (2 * x1), .inr (.inr x0)] u5.2 = _
            refine Eq.trans (e1 hG PT_151 k151_41 _ _ _) ?_
            show G 151 42 [some (.inr (.inr x0)), some (.inl x1), some (.inl x2), some (.inl i6)] [.inl ((2 * x1) + x2), .inr (.inr x0)] u5.2 = _
            refine Eq.trans (e1 hG PT_151 k151_42 _ _ _) ?_
            refine bfc ?_ ?_
            · refine bdc fun u7 => ?_
              refine bdc fun i8 => ?_
              rfl
            · rfl
          · show G 151 32 [some (.inr (.inr x0)), some (.inl x1), some (.inl x2), some (.inl i6)] [] u5.2 = _
            refine Eq.trans (e1 hG PT_151 k151_32 _ _ _) ?_
            show G 151 33 [some (.inr (.inr x0)), some (.inl x1), some (.inl x2), some (.inl i6)] [.inl i6] u5.2 = _
            refine Eq.trans (e1 hG PT_151 k151_33 _ _ _) ?_
            rfl
        · rfl
      · rfl
  · rfl
theorem b151_18 {G : AG} (hG : FIX G) (x0 : Nat) (x1 : Int32) (x2 : Int32) (H : Hp) : G 151 18 [some (.inr (.inr x0)), some (.inl x1), some (.inl x2), none] [] H = (some (some (.inl ((-1000001))), H)) := by
  refine Eq.trans (e1 hG PT_151 k151_18 _ _ _) ?_
  show G 151 20 [some (.inr (.inr x0)), some (.inl x1), some (.inl x2), none] [.inl (-1000001)] H = _
  exact e1 hG PT_151 k151_20 _ _ _
theorem b151_45 {G : AG} (hG : FIX G) (x0 : Nat) (x1 : Int32) (x2 : Int32) (x3 : Int32) (s0 : Int32) (H : Hp) : G 151 45 [some (.inr (.inr x0)), some (.inl x1), some (.inl x2), some (.inl x3)] [.inl s0] H = (some (some (.inl s0), H)) := by
  exact e1 hG PT_151 k151_45 _ _ _
-- StepsAheadModel.refusal(II)I
theorem PT_152 : PT 152 = pt152 := rfl
theorem k152_0 : lkp pt152 0 = iP 1 (fAld 0) := rfl
theorem k152_1 : lkp pt152 1 = iCK 4 12 153 3 1 0 := rfl
theorem k152_4 : lkp pt152 4 = iP 5 (fAld 0) := rfl
theorem k152_5 : lkp pt152 5 = iRR 8 (gtR 68) := rfl
theorem k152_8 : lkp pt152 8 = iP 9 (fIld 1) := rfl
theorem k152_9 : lkp pt152 9 = iRI 10 qAZ := rfl
theorem k152_10 : lkp pt152 10 = iB 13 18 (b1 (fun x => decide (x ≠ 0))) := rfl
theorem k152_13 : lkp pt152 13 = iP 15 (fK (.inl (-1000002))) := rfl
theorem k152_15 : lkp pt152 15 = iP 37 fGo := rfl
theorem k152_18 : lkp pt152 18 = iP 19 (fAld 0) := rfl
theorem k152_19 : lkp pt152 19 = iRR 22 (gtR 70) := rfl
theorem k152_22 : lkp pt152 22 = iP 23 (fK (.inl 2)) := rfl
theorem k152_23 : lkp pt152 23 = iP 24 (fIld 1) := rfl
theorem k152_24 : lkp pt152 24 = iP 25 (f2I (fun x y => x * y)) := rfl
theorem k152_25 : lkp pt152 25 = iP 26 (fIld 2) := rfl
theorem k152_26 : lkp pt152 26 = iP 27 (f2I (fun x y => x + y)) := rfl
theorem k152_27 : lkp pt152 27 = iRI 28 qAZ := rfl
theorem k152_28 : lkp pt152 28 = iB 31 36 (b1 (fun x => decide (x = 0))) := rfl
theorem k152_31 : lkp pt152 31 = iP 33 (fK (.inl (-1000003))) := rfl
theorem k152_33 : lkp pt152 33 = iP 37 fGo := rfl
theorem k152_36 : lkp pt152 36 = iP 37 (fK (.inl 0)) := rfl
theorem k152_37 : lkp pt152 37 = iRet rI := rfl
theorem b152_0 {G : AG} (hG : FIX G) (x0 : Nat) (x1 : Int32) (x2 : Int32) (H : Hp) : G 152 0 [some (.inr (.inr x0)), some (.inl x1), some (.inl x2)] [] H = (bif Nat.beq (H.1 x0).1 12 then (G 153 0 [some (.inr (.inr x0)), none, none] [] H).bind fun u1 => (asV u1.1).bind fun _ => (hgR u1.2 x0 68).bind fun r2 => (hAZ u1.2 r2 x1).bind fun i3 => bif decide ((i3 : Int32) ≠ 0) then (hgR u1.2 x0 70).bind fun r4 => (hAZ u1.2 r4 (((2 * x1) + x2))).bind fun i5 => bif decide ((i5 : Int32) = 0) then G 152 37 [some (.inr (.inr x0)), some (.inl x1), some (.inl x2)] [.inl 0] u1.2 else G 152 37 [some (.inr (.inr x0)), some (.inl x1), some (.inl x2)] [.inl (-1000003)] u1.2 else G 152 37 [some (.inr (.inr x0)), some (.inl x1), some (.inl x2)] [.inl (-1000002)] u1.2 else none) := by
  refine Eq.trans (e1 hG PT_152 k152_0 _ _ _) ?_
  show G 152 1 [some (.inr (.inr x0)), some (.inl x1), some (.inl x2)] [.inr (.inr x0)] H = _
  refine Eq.trans (e1 hG PT_152 k152_1 _ _ _) ?_
  refine bfc ?_ ?_
  · refine bdc fun u1 => ?_
    refine bdc fun _ => ?_
    show G 152 4 [some (.inr (.inr x0)), some (.inl x1), some (.inl x2)] [] u1.2 = _
    refine Eq.trans (e1 hG PT_152 k152_4 _ _ _) ?_
    show G 152 5 [some (.inr (.inr x0)), some (.inl x1), some (.inl x2)] [.inr (.inr x0)] u1.2 = _
    refine Eq.trans (e1 hG PT_152 k152_5 _ _ _) ?_
    refine bdc fun r2 => ?_
    show G 152 8 [some (.inr (.inr x0)), some (.inl x1), some (.inl x2)] [.inr (.inr r2)] u1.2 = _
    refine Eq.trans (e1 hG PT_152 k152_8 _ _ _) ?_
    show G 152 9 [some (.inr (.inr x0)), some (.inl x1), some (.inl x2)] [.inl x1, .inr (.inr r2)] u1.2 = _
    refine Eq.trans (e1 hG PT_152 k152_9 _ _ _) ?_
    refine bdc fun i3 => ?_
    show G 152 10 [some (.inr (.inr x0)), some (.inl x1), some (.inl x2)] [.inl i3] u1.2 = _
    refine Eq.trans (e1 hG PT_152 k152_10 _ _ _) ?_
    refine bfc ?_ ?_
    · show G 152 18 [some (.inr (.inr x0)), some (.inl x1), some (.inl x2)] [] u1.2 = _
      refine Eq.trans (e1 hG PT_152 k152_18 _ _ _) ?_
      show G 152 19 [some (.inr (.inr x0)), some (.inl x1), some (.inl x2)] [.inr (.inr x0)] u1.2 = _
      refine Eq.trans (e1 hG PT_152 k152_19 _ _ _) ?_
      refine bdc fun r4 => ?_
      show G 152 22 [some (.inr (.inr x0)), some (.inl x1), some (.inl x2)] [.inr (.inr r4)] u1.2 = _
      refine Eq.trans (e1 hG PT_152 k152_22 _ _ _) ?_
      show G 152 23 [some (.inr (.inr x0)), some (.inl x1), some (.inl x2)] [.inl 2, .inr (.inr r4)] u1.2 = _
      refine Eq.trans (e1 hG PT_152 k152_23 _ _ _) ?_
      show G 152 24 [some (.inr (.inr x0)), some (.inl x1), some (.inl x2)] [.inl x1, .inl 2, .inr (.inr r4)] u1.2 = _
      refine Eq.trans (e1 hG PT_152 k152_24 _ _ _) ?_
      show G 152 25 [some (.inr (.inr x0)), some (.inl x1), some (.inl x2)] [.inl (2 * x1), .inr (.inr r4)] u1.2 = _
      refine Eq.trans (e1 hG PT_152 k152_25 _ _ _) ?_
      show G 152 26 [some (.inr (.inr x0)), some (.inl x1), some (.inl x2)] [.inl x2, .inl (2 * x1), .inr (.inr r4)] u1.2 = _
      refine Eq.trans (e1 hG PT_152 k152_26 _ _ _) ?_
      show G 152 27 [some (.inr (.inr x0)), some (.inl x1), some (.inl x2)] [.inl ((2 * x1) + x2), .inr (.inr r4)] u1.2 = _
      refine Eq.trans (e1 hG PT_152 k152_27 _ _ _) ?_
      refine bdc fun i5 => ?_
      show G 152 28 [some (.inr (.inr x0)), some (.inl x1), some (.inl x2)] [.inl i5] u1.2 = _
      refine Eq.trans (e1 hG PT_152 k152_28 _ _ _) ?_
      refine bfc ?_ ?_
      · show G 152 36 [some (.inr (.inr x0)), some (.inl x1), some (.inl x2)] [] u1.2 = _
        refine Eq.trans (e1 hG PT_152 k152_36 _ _ _) ?_
        rfl
      · show G 152 31 [some (.inr (.inr x0)), some (.inl x1), some (.inl x2)] [] u1.2 = _
        refine Eq.trans (e1 hG PT_152 k152_31 _ _ _) ?_
        show G 152 33 [some (.inr (.inr x0)), some (.inl x1), some (.inl x2)] [.inl (-1000003)] u1.2 = _
        refine Eq.trans (e1 hG PT_152 k152_33 _ _ _) ?_
        rfl
    · show G 152 13 [some (.inr (.inr x0)), some (.inl x1), some (.inl x2)] [] u1.2 = _
      refine Eq.trans (e1 hG PT_152 k152_13 _ _ _) ?_
      show G 152 15 [some (.inr (.inr x0)), some (.inl x1), some (.inl x2)] [.inl (-1000002)] u1.2 = _
      refine Eq.trans (e1 hG PT_152 k152_15 _ _ _) ?_
      rfl
  · rfl
theorem b152_37 {G : AG} (hG : FIX G) (x0 : Nat) (x1 : Int32) (x2 : Int32) (s0 : Int32) (H : Hp) : G 152 37 [some (.inr (.inr x0)), some (.inl x1), some (.inl x2)] [.inl s0] H = (some (some (.inl s0), H)) := by
  exact e1 hG PT_152 k152_37 _ _ _
-- StepsAheadModel.know()V
theorem PT_153 : PT 153 = pt153 := rfl
theorem k153_0 : lkp pt153 0 = iP 1 (fAld 0) := rfl
theorem k153_1 : lkp pt153 1 = iRI 4 (gtI 60) := rfl
theorem k153_4 : lkp pt153 4 = iB 7 8 (b1 (fun x => decide (x = 0))) := rfl
theorem k153_7 : lkp pt153 7 = iRet rV := rfl
theorem k153_8 : lkp pt153 8 = iP 9 (fAld 0) := rfl
theorem k153_9 : lkp pt153 9 = iP 10 (fK (.inl 1)) := rfl
theorem k153_10 : lkp pt153 10 = iW 13 (ptZ 60) := rfl
theorem k153_13 : lkp pt153 13 = iP 14 (fK (.inl 0)) := rfl
theorem k153_14 : lkp pt153 14 = iP 15 (fIst 1) := rfl
theorem k153_15 : lkp pt153 15 = iP 16 (fIld 1) := rfl
theorem k153_16 : lkp pt153 16 = iP 17 (fAld 0) := rfl
theorem k153_17 : lkp pt153 17 = iRI 20 (gtI 50) := rfl
theorem k153_20 : lkp pt153 20 = iB 23 194 (b2 (fun x y => decide (y ≤ x))) := rfl
theorem k153_23 : lkp pt153 23 = iP 24 (fAld 0) := rfl
theorem k153_24 : lkp pt153 24 = iP 25 (fIld 1) := rfl
theorem k153_25 : lkp pt153 25 = iP 26 (fAld 0) := rfl
theorem k153_26 : lkp pt153 26 = iRR 29 (gtR 51) := rfl
theorem k153_29 : lkp pt153 29 = iP 30 (fIld 1) := rfl
theorem k153_30 : lkp pt153 30 = iRI 31 qAI := rfl
theorem k153_31 : lkp pt153 31 = iCK 34 12 135 5 3 0 := rfl
theorem k153_34 : lkp pt153 34 = iP 35 (fAld 0) := rfl
theorem k153_35 : lkp pt153 35 = iRR 38 (gtR 69) := rfl
theorem k153_38 : lkp pt153 38 = iP 39 (fIld 1) := rfl
theorem k153_39 : lkp pt153 39 = iP 40 (fAld 0) := rfl
theorem k153_40 : lkp pt153 40 = iRI 43 (gtI 63) := rfl
theorem k153_43 : lkp pt153 43 = iB 46 50 (b1 (fun x => decide (x ≠ 0))) := rfl
theorem k153_46 : lkp pt153 46 = iP 47 (fK (.inl 1)) := rfl
theorem k153_47 : lkp pt153 47 = iP 51 fGo := rfl
theorem k153_50 : lkp pt153 50 = iP 51 (fK (.inl 0)) := rfl
theorem k153_51 : lkp pt153 51 = iW 52 wAZ := rfl
theorem k153_52 : lkp pt153 52 = iP 53 (fAld 0) := rfl
theorem k153_53 : lkp pt153 53 = iRR 56 (gtR 68) := rfl
theorem k153_56 : lkp pt153 56 = iP 57 (fIld 1) := rfl
theorem k153_57 : lkp pt153 57 = iP 58 (fAld 0) := rfl
theorem k153_58 : lkp pt153 58 = iRI 61 (gtI 63) := rfl
theorem k153_61 : lkp pt153 61 = iB 64 68 (b1 (fun x => decide (x ≠ 0))) := rfl
theorem k153_64 : lkp pt153 64 = iP 65 (fK (.inl 1)) := rfl
theorem k153_65 : lkp pt153 65 = iP 69 fGo := rfl
theorem k153_68 : lkp pt153 68 = iP 69 (fK (.inl 0)) := rfl
theorem k153_69 : lkp pt153 69 = iW 70 wAZ := rfl
theorem k153_70 : lkp pt153 70 = iP 71 (fK (.inl 0)) := rfl
theorem k153_71 : lkp pt153 71 = iP 72 (fIst 2) := rfl
theorem k153_72 : lkp pt153 72 = iP 73 (fIld 2) := rfl
theorem k153_73 : lkp pt153 73 = iP 74 (fAld 0) := rfl
theorem k153_74 : lkp pt153 74 = iRR 77 (gtR 51) := rfl
theorem k153_77 : lkp pt153 77 = iP 78 (fIld 1) := rfl
theorem k153_78 : lkp pt153 78 = iRI 79 qAI := rfl
theorem k153_79 : lkp pt153 79 = iB 82 142 (b2 (fun x y => decide (y ≤ x))) := rfl
theorem k153_82 : lkp pt153 82 = iP 83 (fAld 0) := rfl
theorem k153_83 : lkp pt153 83 = iRR 86 (gtR 68) := rfl
theorem k153_86 : lkp pt153 86 = iP 87 (fIld 1) := rfl
theorem k153_87 : lkp pt153 87 = iP 88 (fAld 0) := rfl
theorem k153_88 : lkp pt153 88 = iRR 91 (gtR 68) := rfl
theorem k153_91 : lkp pt153 91 = iP 92 (fIld 1) := rfl
theorem k153_92 : lkp pt153 92 = iRI 93 qAZ := rfl
theorem k153_93 : lkp pt153 93 = iB 96 134 (b1 (fun x => decide (x = 0))) := rfl
theorem k153_96 : lkp pt153 96 = iP 97 (fAld 0) := rfl
theorem k153_97 : lkp pt153 97 = iRR 100 (gtR 52) := rfl
theorem k153_100 : lkp pt153 100 = iP 102 (fK (.inl 24)) := rfl
theorem k153_102 : lkp pt153 102 = iP 103 (fIld 1) := rfl
theorem k153_103 : lkp pt153 103 = iP 104 (f2I (fun x y => x * y)) := rfl
theorem k153_104 : lkp pt153 104 = iP 105 (fIld 2) := rfl
theorem k153_105 : lkp pt153 105 = iP 106 (f2I (fun x y => x + y)) := rfl
theorem k153_106 : lkp pt153 106 = iRI 107 qAI := rfl
theorem k153_107 : lkp pt153 107 = iP 108 (fK (.inl 4)) := rfl
theorem k153_108 : lkp pt153 108 = iB 111 130 (b2 (fun x y => decide (x ≠ y))) := rfl
theorem k153_111 : lkp pt153 111 = iP 112 (fAld 0) := rfl
theorem k153_112 : lkp pt153 112 = iRR 115 (gtR 68) := rfl
theorem k153_115 : lkp pt153 115 = iP 116 (fAld 0) := rfl
theorem k153_116 : lkp pt153 116 = iRR 119 (gtR 54) := rfl
theorem k153_119 : lkp pt153 119 = iP 121 (fK (.inl 24)) := rfl
theorem k153_121 : lkp pt153 121 = iP 122 (fIld 1) := rfl
theorem k153_122 : lkp pt153 122 = iP 123 (f2I (fun x y => x * y)) := rfl
theorem k153_123 : lkp pt153 123 = iP 124 (fIld 2) := rfl
theorem k153_124 : lkp pt153 124 = iP 125 (f2I (fun x y => x + y)) := rfl
theorem k153_125 : lkp pt153 125 = iRI 126 qAI := rfl
theorem k153_126 : lkp pt153 126 = iRI 127 qAZ := rfl
theorem k153_127 : lkp pt153 127 = iB 130 134 (b1 (fun x => decide (x = 0))) := rfl
theorem k153_130 : lkp pt153 130 = iP 131 (fK (.inl 1)) := rfl
theorem k153_131 : lkp pt153 131 = iP 135 fGo := rfl
theorem k153_134 : lkp pt153 134 = iP 135 (fK (.inl 0)) := rfl
theorem k153_135 : lkp pt153 135 = iW 136 wAZ := rfl
theorem k153_136 : lkp pt153 136 = iP 139 (fInc 2 1) := rfl
theorem k153_139 : lkp pt153 139 = iP 72 fGo := rfl
theorem k153_142 : lkp pt153 142 = iP 143 (fK (.inl 0)) := rfl
theorem k153_143 : lkp pt153 143 = iP 144 (fIst 2) := rfl
theorem k153_144 : lkp pt153 144 = iP 145 (fIld 2) := rfl
theorem k153_145 : lkp pt153 145 = iP 146 (fK (.inl 2)) := rfl
theorem k153_146 : lkp pt153 146 = iB 149 188 (b2 (fun x y => decide (y ≤ x))) := rfl
theorem k153_149 : lkp pt153 149 = iP 150 (fAld 0) := rfl
theorem k153_150 : lkp pt153 150 = iRR 153 (gtR 70) := rfl
theorem k153_153 : lkp pt153 153 = iP 154 (fK (.inl 2)) := rfl
theorem k153_154 : lkp pt153 154 = iP 155 (fIld 1) := rfl
theorem k153_155 : lkp pt153 155 = iP 156 (f2I (fun x y => x * y)) := rfl
theorem k153_156 : lkp pt153 156 = iP 157 (fIld 2) := rfl
theorem k153_157 : lkp pt153 157 = iP 158 (f2I (fun x y => x + y)) := rfl
theorem k153_158 : lkp pt153 158 = iP 159 (fAld 0) := rfl
theorem k153_159 : lkp pt153 159 = iRR 162 (gtR 68) := rfl
theorem k153_162 : lkp pt153 162 = iP 163 (fIld 1) := rfl
theorem k153_163 : lkp pt153 163 = iRI 164 qAZ := rfl
theorem k153_164 : lkp pt153 164 = iB 167 180 (b1 (fun x => decide (x = 0))) := rfl
theorem k153_167 : lkp pt153 167 = iP 168 (fAld 0) := rfl
theorem k153_168 : lkp pt153 168 = iP 169 (fIld 1) := rfl
theorem k153_169 : lkp pt153 169 = iP 170 (fIld 2) := rfl
theorem k153_170 : lkp pt153 170 = iCK 173 12 154 14 3 1 := rfl
theorem k153_173 : lkp pt153 173 = iB 176 180 (b1 (fun x => decide (x ≠ 0))) := rfl
theorem k153_176 : lkp pt153 176 = iP 177 (fK (.inl 1)) := rfl
theorem k153_177 : lkp pt153 177 = iP 181 fGo := rfl
theorem k153_180 : lkp pt153 180 = iP 181 (fK (.inl 0)) := rfl
theorem k153_181 : lkp pt153 181 = iW 182 wAZ := rfl
theorem k153_182 : lkp pt153 182 = iP 185 (fInc 2 1) := rfl
set_option maxRecDepth 100000 in
theorem k153_185 : lkp pt153 185 = iP 144 fGo := rfl
set_option maxRecDepth 100000 in
theorem k153_188 : lkp pt153 188 = iP 191 (fInc 1 1) := rfl
set_option maxRecDepth 100000 in
theorem k153_191 : lkp pt153 191 = iP 15 fGo := rfl
set_option maxRecDepth 100000 in
theorem k153_194 : lkp pt153 194 = iRet rV := rfl
set_option maxRecDepth 100000 in
theorem b153_0 {G : AG} (hG : FIX G) (x0 : Nat) (H : Hp) : G 153 0 [some (.inr (.inr x0)), none, none] [] H = ((hgI H x0 60).bind fun i1 => bif decide ((i1 : Int32) = 0) then (hpZ H x0 60 1).bind fun H2 => G 153 15 [some (.inr (.inr x0)), some (.inl 0), none] [] H2 else some (none, H)) := by
  refine Eq.trans (e1 hG PT_153 k153_0 _ _ _) ?_
  show G 153 1 [some (.inr (.inr x0)), none, none] [.inr (.inr x0)] H = _
  refine Eq.trans (e1 hG PT_153 k153_1 _ _ _) ?_
  refine bdc fun i1 => ?_
  show G 153 4 [some (.inr (.inr x0)), none, none] [.inl i1] H = _
  refine Eq.trans (e1 hG PT_153 k153_4 _ _ _) ?_
  refine bfc ?_ ?_
  · show G 153 8 [some (.inr (.inr x0)), none, none] [] H = _
    refine Eq.trans (e1 hG PT_153 k153_8 _ _ _) ?_
    show G 153 9 [some (.inr (.inr x0)), none, none] [.inr (.inr x0)] H = _
    refine Eq.trans (e1 hG PT_153 k153_9 _ _ _) ?_
    show G 153 10 [some (.inr (.inr x0)), none, none] [.inl 1, .inr (.inr x0)] H = _
    refine Eq.trans (e1 hG PT_153 k153_10 _ _ _) ?_
    refine bdc fun H2 => ?_
    show G 153 13 [some (.inr (.inr x0)), none, none] [] H2 = _
    refine Eq.trans (e1 hG PT_153 k153_13 _ _ _) ?_
    show G 153 14 [some (.inr (.inr x0)), none, none] [.inl 0] H2 = _
    refine Eq.trans (e1 hG PT_153 k153_14 _ _ _) ?_
    rfl
  · show G 153 7 [some (.inr (.inr x0)), none, none] [] H = _
    exact e1 hG PT_153 k153_7 _ _ _
set_option maxRecDepth 100000 in
theorem b153_15 {G : AG} (hG : FIX G) (x0 : Nat) (x1 : Int32) (o2 : Option AV) (H : Hp) : G 153 15 [some (.inr (.inr x0)), some (.inl x1), o2] [] H = ((hgI H x0 50).bind fun i1 => bif decide ((i1 : Int32) ≤ (x1 : Int32)) then some (none, H) else (hgR H x0 51).bind fun r2 => (hAI H r2 x1).bind fun i3 => bif Nat.beq (H.1 x0).1 12 then (G 135 0 [some (.inr (.inr x0)), some (.inl x1), some (.inl i3), none, none] [] H).bind fun u4 => (asV u4.1).bind fun _ => (hgR u4.2 x0 69).bind fun r5 => (hgI u4.2 x0 63).bind fun i6 => bif decide ((i6 : Int32) ≠ 0) then G 153 51 [some (.inr (.inr x0)), some (.inl x1), o2] [.inl 0, .inl x1, .inr (.inr r5)] u4.2 else G 153 51 [some (.inr (.inr x0)), some (.inl x1), o2] [.inl 1, .inl x1, .inr (.inr r5)] u4.2 else none) := by
  refine Eq.trans (e1 hG PT_153 k153_15 _ _ _) ?_
  show G 153 16 [some (.inr (.inr x0)), some (.inl x1), o2] [.inl x1] H = _
  refine Eq.trans (e1 hG PT_153 k153_16 _ _ _) ?_
  show G 153 17 [some (.inr (.inr x0)), some (.inl x1), o2] [.inr (.inr x0), .inl x1] H = _
  refine Eq.trans (e1 hG PT_153 k153_17 _ _ _) ?_
  refine bdc fun i1 => ?_
  show G 153 20 [some (.inr (.inr x0)), some (.inl x1), o2] [.inl i1, .inl x1] H = _
  refine Eq.trans (e1 hG PT_153 k153_20 _ _ _) ?_
  refine bfc ?_ ?_
  · show G 153 194 [some (.inr (.inr x0)), some (.inl x1), o2] [] H = _
    exact e1 hG PT_153 k153_194 _ _ _
  · show G 153 23 [some (.inr (.inr x0)), some (.inl x1), o2] [] H = _
    refine Eq.trans (e1 hG PT_153 k153_23 _ _ _) ?_
    show G 153 24 [some (.inr (.inr x0)), some (.inl x1), o2] [.inr (.inr x0)] H = _
    refine Eq.trans (e1 hG PT_153 k153_24 _ _ _) ?_
    show G 153 25 [some (.inr (.inr x0)), some (.inl x1), o2] [.inl x1, .inr (.inr x0)] H = _
    refine Eq.trans (e1 hG PT_153 k153_25 _ _ _) ?_
    show G 153 26 [some (.inr (.inr x0)), some (.inl x1), o2] [.inr (.inr x0), .inl x1, .inr (.inr x0)] H = _
    refine Eq.trans (e1 hG PT_153 k153_26 _ _ _) ?_
    refine bdc fun r2 => ?_
    show G 153 29 [some (.inr (.inr x0)), some (.inl x1), o2] [.inr (.inr r2), .inl x1, .inr (.inr x0)] H = _
    refine Eq.trans (e1 hG PT_153 k153_29 _ _ _) ?_
    show G 153 30 [some (.inr (.inr x0)), some (.inl x1), o2] [.inl x1, .inr (.inr r2), .inl x1, .inr (.inr x0)] H = _
    refine Eq.trans (e1 hG PT_153 k153_30 _ _ _) ?_
    refine bdc fun i3 => ?_
    show G 153 31 [some (.inr (.inr x0)), some (.inl x1), o2] [.inl i3, .inl x1, .inr (.inr x0)] H = _
    refine Eq.trans (e1 hG PT_153 k153_31 _ _ _) ?_
    refine bfc ?_ ?_
    · refine bdc fun u4 => ?_
      refine bdc fun _ => ?_
      show G 153 34 [some (.inr (.inr x0)), some (.inl x1), o2] [] u4.2 = _
      refine Eq.trans (e1 hG PT_153 k153_34 _ _ _) ?_
      show G 153 35 [some (.inr (.inr x0)), some (.inl x1), o2] [.inr (.inr x0)] u4.2 = _
      refine Eq.trans (e1 hG PT_153 k153_35 _ _ _) ?_
      refine bdc fun r5 => ?_
      show G 153 38 [some (.inr (.inr x0)), some (.inl x1), o2] [.inr (.inr r5)] u4.2 = _
      refine Eq.trans (e1 hG PT_153 k153_38 _ _ _) ?_
      show G 153 39 [some (.inr (.inr x0)), some (.inl x1), o2] [.inl x1, .inr (.inr r5)] u4.2 = _
      refine Eq.trans (e1 hG PT_153 k153_39 _ _ _) ?_
      show G 153 40 [some (.inr (.inr x0)), some (.inl x1), o2] [.inr (.inr x0), .inl x1, .inr (.inr r5)] u4.2 = _
      refine Eq.trans (e1 hG PT_153 k153_40 _ _ _) ?_
      refine bdc fun i6 => ?_
      show G 153 43 [some (.inr (.inr x0)), some (.inl x1), o2] [.inl i6, .inl x1, .inr (.inr r5)] u4.2 = _
      refine Eq.trans (e1 hG PT_153 k153_43 _ _ _) ?_
      refine bfc ?_ ?_
      · show G 153 50 [some (.inr (.inr x0)), some (.inl x1), o2] [.inl x1, .inr (.inr r5)] u4.2 = _
        refine Eq.trans (e1 hG PT_153 k153_50 _ _ _) ?_
        rfl
      · show G 153 46 [some (.inr (.inr x0)), some (.inl x1), o2] [.inl x1, .inr (.inr r5)] u4.2 = _
        refine Eq.trans (e1 hG PT_153 k153_46 _ _ _) ?_
        show G 153 47 [some (.inr (.inr x0)), some (.inl x1), o2] [.inl 1, .inl x1, .inr (.inr r5)] u4.2 = _
        refine Eq.trans (e1 hG PT_153 k153_47 _ _ _) ?_
        rfl
    · rfl
set_option maxRecDepth 100000 in
theorem b153_51 {G : AG} (hG : FIX G) (x0 : Nat) (x1 : Int32) (o2 : Option AV) (s0 : Int32) (s1 : Int32) (s2 : Nat) (H : Hp) : G 153 51 [some (.inr (.inr x0)), some (.inl x1), o2] [.inl s0, .inl s1, .inr (.inr s2)] H = ((hSZ H s2 s1 s0).bind fun H1 => (hgR H1 x0 68).bind fun r2 => (hgI H1 x0 63).bind fun i3 => bif decide ((i3 : Int32) ≠ 0) then G 153 69 [some (.inr (.inr x0)), some (.inl x1), o2] [.inl 0, .inl x1, .inr (.inr r2)] H1 else G 153 69 [some (.inr (.inr x0)), some (.inl x1), o2] [.inl 1, .inl x1, .inr (.inr r2)] H1) := by
  refine Eq.trans (e1 hG PT_153 k153_51 _ _ _) ?_
  refine bdc fun H1 => ?_
  show G 153 52 [some (.inr (.inr x0)), some (.inl x1), o2] [] H1 = _
  refine Eq.trans (e1 hG PT_153 k153_52 _ _ _) ?_
  show G 153 53 [some (.inr (.inr x0)), some (.inl x1), o2] [.inr (.inr x0)] H1 = _
  refine Eq.trans (e1 hG PT_153 k153_53 _ _ _) ?_
  refine bdc fun r2 => ?_
  show G 153 56 [some (.inr (.inr x0)), some (.inl x1), o2] [.inr (.inr r2)] H1 = _
  refine Eq.trans (e1 hG PT_153 k153_56 _ _ _) ?_
  show G 153 57 [some (.inr (.inr x0)), some (.inl x1), o2] [.inl x1, .inr (.inr r2)] H1 = _
  refine Eq.trans (e1 hG PT_153 k153_57 _ _ _) ?_
  show G 153 58 [some (.inr (.inr x0)), some (.inl x1), o2] [.inr (.inr x0), .inl x1, .inr (.inr r2)] H1 = _
  refine Eq.trans (e1 hG PT_153 k153_58 _ _ _) ?_
  refine bdc fun i3 => ?_
  show G 153 61 [some (.inr (.inr x0)), some (.inl x1), o2] [.inl i3, .inl x1, .inr (.inr r2)] H1 = _
  refine Eq.trans (e1 hG PT_153 k153_61 _ _ _) ?_
  refine bfc ?_ ?_
  · show G 153 68 [some (.inr (.inr x0)), some (.inl x1), o2] [.inl x1, .inr (.inr r2)] H1 = _
    refine Eq.trans (e1 hG PT_153 k153_68 _ _ _) ?_
    rfl
  · show G 153 64 [some (.inr (.inr x0)), some (.inl x1), o2] [.inl x1, .inr (.inr r2)] H1 = _
    refine Eq.trans (e1 hG PT_153 k153_64 _ _ _) ?_
    show G 153 65 [some (.inr (.inr x0)), some (.inl x1), o2] [.inl 1, .inl x1, .inr (.inr r2)] H1 = _
    refine Eq.trans (e1 hG PT_153 k153_65 _ _ _) ?_
    rfl
set_option maxRecDepth 100000 in
theorem b153_69 {G : AG} (hG : FIX G) (x0 : Nat) (x1 : Int32) (o2 : Option AV) (s0 : Int32) (s1 : Int32) (s2 : Nat) (H : Hp) : G 153 69 [some (.inr (.inr x0)), some (.inl x1), o2] [.inl s0, .inl s1, .inr (.inr s2)] H = ((hSZ H s2 s1 s0).bind fun H1 => G 153 72 [some (.inr (.inr x0)), some (.inl x1), some (.inl 0)] [] H1) := by
  refine Eq.trans (e1 hG PT_153 k153_69 _ _ _) ?_
  refine bdc fun H1 => ?_
  show G 153 70 [some (.inr (.inr x0)), some (.inl x1), o2] [] H1 = _
  refine Eq.trans (e1 hG PT_153 k153_70 _ _ _) ?_
  show G 153 71 [some (.inr (.inr x0)), some (.inl x1), o2] [.inl 0] H1 = _
  refine Eq.trans (e1 hG PT_153 k153_71 _ _ _) ?_
  rfl
set_option maxRecDepth 100000 in
theorem b153_72 {G : AG} (hG : FIX G) (x0 : Nat) (x1 : Int32) (x2 : Int32) (H : Hp) : G 153 72 [some (.inr (.inr x0)), some (.inl x1), some (.inl x2)] [] H = ((hgR H x0 51).bind fun r1 => (hAI H r1 x1).bind fun i2 => bif decide ((i2 : Int32) ≤ (x2 : Int32)) then G 153 144 [some (.inr (.inr x0)), some (.inl x1), some (.inl 0)] [] H else (hgR H x0 68).bind fun r3 => (hgR H x0 68).bind fun r4 => (hAZ H r4 x1).bind fun i5 => bif decide ((i5 : Int32) = 0) then G 153 134 [some (.inr (.inr x0)), some (.inl x1), some (.inl x2)] [.inl x1, .inr (.inr r3)] H else (hgR H x0 52).bind fun r6 => (hAI H r6 (((24 * x1) + x2))).bind fun i7 => bif decide ((i7 : Int32) ≠ (4 : Int32)) then G 153 130 [some (.inr (.inr x0)), some (.inl x1), some (.inl x2)] [.inl x1, .inr (.inr r3)] H else (hgR H x0 68).bind fun r8 => (hgR H x0 54).bind fun r9 => (hAI H r9 (((24 * x1) + x2))).bind fun i10 => (hAZ H r8 i10).bind fun i11 => bif decide ((i11 : Int32) = 0) then G 153 134 [some (.inr (.inr x0)), some (.inl x1), some (.inl x2)] [.inl x1, .inr (.inr r3)] H else G 153 130 [some (.inr (.inr x0)), some (.inl x1), some (.inl x2)] [.inl x1, .inr (.inr r3)] H) := by
  refine Eq.trans (e1 hG PT_153 k153_72 _ _ _) ?_
  show G 153 73 [some (.inr (.inr x0)), some (.inl x1), some (.inl x2)] [.inl x2] H = _
  refine Eq.trans (e1 hG PT_153 k153_73 _ _ _) ?_
  show G 153 74 [some (.inr (.inr x0)), some (.inl x1), some (.inl x2)] [.inr (.inr x0), .inl x2] H = _
  refine Eq.trans (e1 hG PT_153 k153_74 _ _ _) ?_
  refine bdc fun r1 => ?_
  show G 153 77 [some (.inr (.inr x0)), some (.inl x1), some (.inl x2)] [.inr (.inr r1), .inl x2] H = _
  refine Eq.trans (e1 hG PT_153 k153_77 _ _ _) ?_
  show G 153 78 [some (.inr (.inr x0)), some (.inl x1), some (.inl x2)] [.inl x1, .inr (.inr r1), .inl x2] H = _
  refine Eq.trans (e1 hG PT_153 k153_78 _ _ _) ?_
  refine bdc fun i2 => ?_
  show G 153 79 [some (.inr (.inr x0)), some (.inl x1), some (.inl x2)] [.inl i2, .inl x2] H = _
  refine Eq.trans (e1 hG PT_153 k153_79 _ _ _) ?_
  refine bfc ?_ ?_
  · show G 153 142 [some (.inr (.inr x0)), some (.inl x1), some (.inl x2)] [] H = _
    refine Eq.trans (e1 hG PT_153 k153_142 _ _ _) ?_
    show G 153 143 [some (.inr (.inr x0)), some (.inl x1), some (.inl x2)] [.inl 0] H = _
    refine Eq.trans (e1 hG PT_153 k153_143 _ _ _) ?_
    rfl
  · show G 153 82 [some (.inr (.inr x0)), some (.inl x1), some (.inl x2)] [] H = _
    refine Eq.trans (e1 hG PT_153 k153_82 _ _ _) ?_
    show G 153 83 [some (.inr (.inr x0)), some (.inl x1), some (.inl x2)] [.inr (.inr x0)] H = _
    refine Eq.trans (e1 hG PT_153 k153_83 _ _ _) ?_
    refine bdc fun r3 => ?_
    show G 153 86 [some (.inr (.inr x0)), some (.inl x1), some (.inl x2)] [.inr (.inr r3)] H = _
    refine Eq.trans (e1 hG PT_153 k153_86 _ _ _) ?_
    show G 153 87 [some (.inr (.inr x0)), some (.inl x1), some (.inl x2)] [.inl x1, .inr (.inr r3)] H = _
    refine Eq.trans (e1 hG PT_153 k153_87 _ _ _) ?_
    show G 153 88 [some (.inr (.inr x0)), some (.inl x1), some (.inl x2)] [.inr (.inr x0), .inl x1, .inr (.inr r3)] H = _
    refine Eq.trans (e1 hG PT_153 k153_88 _ _ _) ?_
    refine bdc fun r4 => ?_
    show G 153 91 [some (.inr (.inr x0)), some (.inl x1), some (.inl x2)] [.inr (.inr r4), .inl x1, .inr (.inr r3)] H = _
    refine Eq.trans (e1 hG PT_153 k153_91 _ _ _) ?_
    show G 153 92 [some (.inr (.inr x0)), some (.inl x1), some (.inl x2)] [.inl x1, .inr (.inr r4), .inl x1, .inr (.inr r3)] H = _
    refine Eq.trans (e1 hG PT_153 k153_92 _ _ _) ?_
    refine bdc fun i5 => ?_
    show G 153 93 [some (.inr (.inr x0)), some (.inl x1), some (.inl x2)] [.inl i5, .inl x1, .inr (.inr r3)] H = _
    refine Eq.trans (e1 hG PT_153 k153_93 _ _ _) ?_
    refine bfc ?_ ?_
    · rfl
    · show G 153 96 [some (.inr (.inr x0)), some (.inl x1), some (.inl x2)] [.inl x1, .inr (.inr r3)] H = _
      refine Eq.trans (e1 hG PT_153 k153_96 _ _ _) ?_
      show G 153 97 [some (.inr (.inr x0)), some (.inl x1), some (.inl x2)] [.inr (.inr x0), .inl x1, .inr (.inr r3)] H = _
      refine Eq.trans (e1 hG PT_153 k153_97 _ _ _) ?_
      refine bdc fun r6 => ?_
      show G 153 100 [some (.inr (.inr x0)), some (.inl x1), some (.inl x2)] [.inr (.inr r6), .inl x1, .inr (.inr r3)] H = _
      refine Eq.trans (e1 hG PT_153 k153_100 _ _ _) ?_
      show G 153 102 [some (.inr (.inr x0)), some (.inl x1), some (.inl x2)] [.inl 24, .inr (.inr r6), .inl x1, .inr (.inr r3)] H = _
      refine Eq.trans (e1 hG PT_153 k153_102 _ _ _) ?_
      show G 153 103 [some (.inr (.inr x0)), some (.inl x1), some (.inl x2)] [.inl x1, .inl 24, .inr (.inr r6), .inl x1, .inr (.inr r3)] H = _
      refine Eq.trans (e1 hG PT_153 k153_103 _ _ _) ?_
      show G 153 104 [some (.inr (.inr x0)), some (.inl x1), some (.inl x2)] [.inl (24 * x1), .inr (.inr r6), .inl x1, .inr (.inr r3)] H = _
      refine Eq.trans (e1 hG PT_153 k153_104 _ _ _) ?_
      show G 153 105 [some (.inr (.inr x0)), some (.inl x1), some (.inl x2)] [.inl x2, .inl (24 * x1), .inr (.inr r6), .inl x1, .inr (.inr r3)] H = _
      refine Eq.trans (e1 hG PT_153 k153_105 _ _ _) ?_
      show G 153 106 [some (.inr (.inr x0)), some (.inl x1), some (.inl x2)] [.inl ((24 * x1) + x2), .inr (.inr r6), .inl x1, .inr (.inr r3)] H = _
      refine Eq.trans (e1 hG PT_153 k153_106 _ _ _) ?_
      refine bdc fun i7 => ?_
      show G 153 107 [some (.inr (.inr x0)), some (.inl x1), some (.inl x2)] [.inl i7, .inl x1, .inr (.inr r3)] H = _
      refine Eq.trans (e1 hG PT_153 k153_107 _ _ _) ?_
      show G 153 108 [some (.inr (.inr x0)), some (.inl x1), some (.inl x2)] [.inl 4, .inl i7, .inl x1, .inr (.inr r3)] H = _
      refine Eq.trans (e1 hG PT_153 k153_108 _ _ _) ?_
      refine bfc ?_ ?_
      · rfl
      · show G 153 111 [some (.inr (.inr x0)), some (.inl x1), some (.inl x2)] [.inl x1, .inr (.inr r3)] H = _
        refine Eq.trans (e1 hG PT_153 k153_111 _ _ _) ?_
        show G 153 112 [some (.inr (.inr x0)), some (.inl x1), some (.inl x2)] [.inr (.inr x0), .inl x1, .inr (.inr r3)] H = _
        refine Eq.trans (e1 hG PT_153 k153_112 _ _ _) ?_
        refine bdc fun r8 => ?_
        show G 153 115 [some (.inr (.inr x0)), some (.inl x1), some (.inl x2)] [.inr (.inr r8), .inl x1, .inr (.inr r3)] H = _
        refine Eq.trans (e1 hG PT_153 k153_115 _ _ _) ?_
        show G 153 116 [some (.inr (.inr x0)), some (.inl x1), some (.inl x2)] [.inr (.inr x0), .inr (.inr r8), .inl x1, .inr (.inr r3)] H = _
        refine Eq.trans (e1 hG PT_153 k153_116 _ _ _) ?_
        refine bdc fun r9 => ?_
        show G 153 119 [some (.inr (.inr x0)), some (.inl x1), some (.inl x2)] [.inr (.inr r9), .inr (.inr r8), .inl x1, .inr (.inr r3)] H = _
        refine Eq.trans (e1 hG PT_153 k153_119 _ _ _) ?_
        show G 153 121 [some (.inr (.inr x0)), some (.inl x1), some (.inl x2)] [.inl 24, .inr (.inr r9), .inr (.inr r8), .inl x1, .inr (.inr r3)] H = _
        refine Eq.trans (e1 hG PT_153 k153_121 _ _ _) ?_
        show G 153 122 [some (.inr (.inr x0)), some (.inl x1), some (.inl x2)] [.inl x1, .inl 24, .inr (.inr r9), .inr (.inr r8), .inl x1, .inr (.inr r3)] H = _
        refine Eq.trans (e1 hG PT_153 k153_122 _ _ _) ?_
        show G 153 123 [some (.inr (.inr x0)), some (.inl x1), some (.inl x2)] [.inl (24 * x1), .inr (.inr r9), .inr (.inr r8), .inl x1, .inr (.inr r3)] H = _
        refine Eq.trans (e1 hG PT_153 k153_123 _ _ _) ?_
        show G 153 124 [some (.inr (.inr x0)), some (.inl x1), some (.inl x2)] [.inl x2, .inl (24 * x1), .inr (.inr r9), .inr (.inr r8), .inl x1, .inr (.inr r3)] H = _
        refine Eq.trans (e1 hG PT_153 k153_124 _ _ _) ?_
        show G 153 125 [some (.inr (.inr x0)), some (.inl x1), some (.inl x2)] [.inl ((24 * x1) + x2), .inr (.inr r9), .inr (.inr r8), .inl x1, .inr (.inr r3)] H = _
        refine Eq.trans (e1 hG PT_153 k153_125 _ _ _) ?_
        refine bdc fun i10 => ?_
        show G 153 126 [some (.inr (.inr x0)), some (.inl x1), some (.inl x2)] [.inl i10, .inr (.inr r8), .inl x1, .inr (.inr r3)] H = _
        refine Eq.trans (e1 hG PT_153 k153_126 _ _ _) ?_
        refine bdc fun i11 => ?_
        show G 153 127 [some (.inr (.inr x0)), some (.inl x1), some (.inl x2)] [.inl i11, .inl x1, .inr (.inr r3)] H = _
        refine Eq.trans (e1 hG PT_153 k153_127 _ _ _) ?_
        refine bfc ?_ ?_
        · rfl
        · rfl
set_option maxRecDepth 100000 in
theorem b153_130 {G : AG} (hG : FIX G) (x0 : Nat) (x1 : Int32) (x2 : Int32) (s0 : Int32) (s1 : Nat) (H : Hp) : G 153 130 [some (.inr (.inr x0)), some (.inl x1), some (.inl x2)] [.inl s0, .inr (.inr s1)] H = (G 153 135 [some (.inr (.inr x0)), some (.inl x1), some (.inl x2)] [.inl 1, .inl s0, .inr (.inr s1)] H) := by
  refine Eq.trans (e1 hG PT_153 k153_130 _ _ _) ?_
  show G 153 131 [some (.inr (.inr x0)), some (.inl x1), some (.inl x2)] [.inl 1, .inl s0, .inr (.inr s1)] H = _
  refine Eq.trans (e1 hG PT_153 k153_131 _ _ _) ?_
  rfl
set_option maxRecDepth 100000 in
theorem b153_134 {G : AG} (hG : FIX G) (x0 : Nat) (x1 : Int32) (x2 : Int32) (s0 : Int32) (s1 : Nat) (H : Hp) : G 153 134 [some (.inr (.inr x0)), some (.inl x1), some (.inl x2)] [.inl s0, .inr (.inr s1)] H = (G 153 135 [some (.inr (.inr x0)), some (.inl x1), some (.inl x2)] [.inl 0, .inl s0, .inr (.inr s1)] H) := by
  refine Eq.trans (e1 hG PT_153 k153_134 _ _ _) ?_
  rfl
set_option maxRecDepth 100000 in
theorem b153_135 {G : AG} (hG : FIX G) (x0 : Nat) (x1 : Int32) (x2 : Int32) (s0 : Int32) (s1 : Int32) (s2 : Nat) (H : Hp) : G 153 135 [some (.inr (.inr x0)), some (.inl x1), some (.inl x2)] [.inl s0, .inl s1, .inr (.inr s2)] H = ((hSZ H s2 s1 s0).bind fun H1 => G 153 72 [some (.inr (.inr x0)), some (.inl x1), some (.inl (x2 + 1))] [] H1) := by
  refine Eq.trans (e1 hG PT_153 k153_135 _ _ _) ?_
  refine bdc fun H1 => ?_
  show G 153 136 [some (.inr (.inr x0)), some (.inl x1), some (.inl x2)] [] H1 = _
  refine Eq.trans (e1 hG PT_153 k153_136 _ _ _) ?_
  show G 153 139 [some (.inr (.inr x0)), some (.inl x1), some (.inl (x2 + 1))] [] H1 = _
  refine Eq.trans (e1 hG PT_153 k153_139 _ _ _) ?_
  rfl
set_option maxRecDepth 100000 in
theorem b153_144 {G : AG} (hG : FIX G) (x0 : Nat) (x1 : Int32) (x2 : Int32) (H : Hp) : G 153 144 [some (.inr (.inr x0)), some (.inl x1), some (.inl x2)] [] H = (bif decide ((2 : Int32) ≤ (x2 : Int32)) then G 153 15 [some (.inr (.inr x0)), some (.inl (x1 + 1)), some (.inl x2)] [] H else (hgR H x0 70).bind fun r1 => (hgR H x0 68).bind fun r2 => (hAZ H r2 x1).bind fun i3 => bif decide ((i3 : Int32) = 0) then G 153 180 [some (.inr (.inr x0)), some (.inl x1), some (.inl x2)] [.inl ((2 * x1) + x2), .inr (.inr r1)] H else bif Nat.beq (H.1 x0).1 12 then (G 154 0 [some (.inr (.inr x0)), some (.inl x1), some (.inl x2), none, none, none, none, none, none, none, none, none, none, none] [] H).bind fun u4 => (asI u4.1).bind fun i5 => bif decide ((i5 : Int32) ≠ 0) then G 153 180 [some (.inr (.inr x0)), some (.inl x1), some (.inl x2)] [.inl ((2 * x1) + x2), .inr (.inr r1)] u4.2 else G 153 181 [some (.inr (.inr x0)), some (.inl x1), some (.inl x2)] [.inl 1, .inl ((2 * x1) + x2), .inr (.inr r1)] u4.2 else none) := by
  refine Eq.trans (e1 hG PT_153 k153_144 _ _ _) ?_
  show G 153 145 [some (.inr (.inr x0)), some (.inl x1), some (.inl x2)] [.inl x2] H = _
  refine Eq.trans (e1 hG PT_153 k153_145 _ _ _) ?_
  show G 153 146 [some (.inr (.inr x0)), some (.inl x1), some (.inl x2)] [.inl 2, .inl x2] H = _
  refine Eq.trans (e1 hG PT_153 k153_146 _ _ _) ?_
  refine bfc ?_ ?_
  · show G 153 188 [some (.inr (.inr x0)), some (.inl x1), some (.inl x2)] [] H = _
    refine Eq.trans (e1 hG PT_153 k153_188 _ _ _) ?_
    show G 153 191 [some (.inr (.inr x0)), some (.inl (x1 + 1)), some (.inl x2)] [] H = _
    refine Eq.trans (e1 hG PT_153 k153_191 _ _ _) ?_
    rfl
  · show G 153 149 [some (.inr (.inr x0)), some (.inl x1), some (.inl x2)] [] H = _
    refine Eq.trans (e1 hG PT_153 k153_149 _ _ _) ?_
    show G 153 150 [some (.inr (.inr x0)), some (.inl x1), some (.inl x2)] [.inr (.inr x0)] H = _
    refine Eq.trans (e1 hG PT_153 k153_150 _ _ _) ?_
    refine bdc fun r1 => ?_
    show G 153 153 [some (.inr (.inr x0)), some (.inl x1), some (.inl x2)] [.inr (.inr r1)] H = _
    refine Eq.trans (e1 hG PT_153 k153_153 _ _ _) ?_
    show G 153 154 [some (.inr (.inr x0)), some (.inl x1), some (.inl x2)] [.inl 2, .inr (.inr r1)] H = _
    refine Eq.trans (e1 hG PT_153 k153_154 _ _ _) ?_
    show G 153 155 [some (.inr (.inr x0)), some (.inl x1), some (.inl x2)] [.inl x1, .inl 2, .inr (.inr r1)] H = _
    refine Eq.trans (e1 hG PT_153 k153_155 _ _ _) ?_
    show G 153 156 [some (.inr (.inr x0)), some (.inl x1), some (.inl x2)] [.inl (2 * x1), .inr (.inr r1)] H = _
    refine Eq.trans (e1 hG PT_153 k153_156 _ _ _) ?_
    show G 153 157 [some (.inr (.inr x0)), some (.inl x1), some (.inl x2)] [.inl x2, .inl (2 * x1), .inr (.inr r1)] H = _
    refine Eq.trans (e1 hG PT_153 k153_157 _ _ _) ?_
    show G 153 158 [some (.inr (.inr x0)), some (.inl x1), some (.inl x2)] [.inl ((2 * x1) + x2), .inr (.inr r1)] H = _
    refine Eq.trans (e1 hG PT_153 k153_158 _ _ _) ?_
    show G 153 159 [some (.inr (.inr x0)), some (.inl x1), some (.inl x2)] [.inr (.inr x0), .inl ((2 * x1) + x2), .inr (.inr r1)] H = _
    refine Eq.trans (e1 hG PT_153 k153_159 _ _ _) ?_
    refine bdc fun r2 => ?_
    show G 153 162 [some (.inr (.inr x0)), some (.inl x1), some (.inl x2)] [.inr (.inr r2), .inl ((2 * x1) + x2), .inr (.inr r1)] H = _
    refine Eq.trans (e1 hG PT_153 k153_162 _ _ _) ?_
    show G 153 163 [some (.inr (.inr x0)), some (.inl x1), some (.inl x2)] [.inl x1, .inr (.inr r2), .inl ((2 * x1) + x2), .inr (.inr r1)] H = _
    refine Eq.trans (e1 hG PT_153 k153_163 _ _ _) ?_
    refine bdc fun i3 => ?_
    show G 153 164 [some (.inr (.inr x0)), some (.inl x1), some (.inl x2)] [.inl i3, .inl ((2 * x1) + x2), .inr (.inr r1)] H = _
    refine Eq.trans (e1 hG PT_153 k153_164 _ _ _) ?_
    refine bfc ?_ ?_
    · rfl
    · show G 153 167 [some (.inr (.inr x0)), some (.inl x1), some (.inl x2)] [.inl ((2 * x1) + x2), .inr (.inr r1)] H = _
      refine Eq.trans (e1 hG PT_153 k153_167 _ _ _) ?_
      show G 153 168 [some (.inr (.inr x0)), some (.inl x1), some (.inl x2)] [.inr (.inr x0), .inl ((2 * x1) + x2), .inr (.inr r1)] H = _
      refine Eq.trans (e1 hG PT_153 k153_168 _ _ _) ?_
      show G 153 169 [some (.inr (.inr x0)), some (.inl x1), some (.inl x2)] [.inl x1, .inr (.inr x0), .inl ((2 * x1) + x2), .inr (.inr r1)] H = _
      refine Eq.trans (e1 hG PT_153 k153_169 _ _ _) ?_
      show G 153 170 [some (.inr (.inr x0)), some (.inl x1), some (.inl x2)] [.inl x2, .inl x1, .inr (.inr x0), .inl ((2 * x1) + x2), .inr (.inr r1)] H = _
      refine Eq.trans (e1 hG PT_153 k153_170 _ _ _) ?_
      refine bfc ?_ ?_
      · refine bdc fun u4 => ?_
        refine bdc fun i5 => ?_
        show G 153 173 [some (.inr (.inr x0)), some (.inl x1), some (.inl x2)] [.inl i5, .inl ((2 * x1) + x2), .inr (.inr r1)] u4.2 = _
        refine Eq.trans (e1 hG PT_153 k153_173 _ _ _) ?_
        refine bfc ?_ ?_
        · rfl
        · show G 153 176 [some (.inr (.inr x0)), some (.inl x1), some (.inl x2)] [.inl ((2 * x1) + x2), .inr (.inr r1)] u4.2 = _
          refine Eq.trans (e1 hG PT_153 k153_176 _ _ _) ?_
          show G 153 177 [some (.inr (.inr x0)), some (.inl x1), some (.inl x2)] [.inl 1, .inl ((2 * x1) + x2), .inr (.inr r1)] u4.2 = _
          refine Eq.trans (e1 hG PT_153 k153_177 _ _ _) ?_
          rfl
      · rfl
set_option maxRecDepth 100000 in
theorem b153_180 {G : AG} (hG : FIX G) (x0 : Nat) (x1 : Int32) (x2 : Int32) (s0 : Int32) (s1 : Nat) (H : Hp) : G 153 180 [some (.inr (.inr x0)), some (.inl x1), some (.inl x2)] [.inl s0, .inr (.inr s1)] H = (G 153 181 [some (.inr (.inr x0)), some (.inl x1), some (.inl x2)] [.inl 0, .inl s0, .inr (.inr s1)] H) := by
  refine Eq.trans (e1 hG PT_153 k153_180 _ _ _) ?_
  rfl
set_option maxRecDepth 100000 in
theorem b153_181 {G : AG} (hG : FIX G) (x0 : Nat) (x1 : Int32) (x2 : Int32) (s0 : Int32) (s1 : Int32) (s2 : Nat) (H : Hp) : G 153 181 [some (.inr (.inr x0)), some (.inl x1), some (.inl x2)] [.inl s0, .inl s1, .inr (.inr s2)] H = ((hSZ H s2 s1 s0).bind fun H1 => G 153 144 [some (.inr (.inr x0)), some (.inl x1), some (.inl (x2 + 1))] [] H1) := by
  refine Eq.trans (e1 hG PT_153 k153_181 _ _ _) ?_
  refine bdc fun H1 => ?_
  show G 153 182 [some (.inr (.inr x0)), some (.inl x1), some (.inl x2)] [] H1 = _
  refine Eq.trans (e1 hG PT_153 k153_182 _ _ _) ?_
  show G 153 185 [some (.inr (.inr x0)), some (.inl x1), some (.inl (x2 + 1))] [] H1 = _
  refine Eq.trans (e1 hG PT_153 k153_185 _ _ _) ?_
  rfl
-- StepsAheadModel.make(II)Z
theorem PT_154 : PT 154 = pt154 := rfl
theorem k154_0 : lkp pt154 0 = iP 1 (fK (.inl 0)) := rfl
theorem k154_1 : lkp pt154 1 = iP 2 (fIst 3) := rfl
theorem k154_2 : lkp pt154 2 = iP 3 (fK (.inl 0)) := rfl
theorem k154_3 : lkp pt154 3 = iP 5 (fIst 4) := rfl
theorem k154_5 : lkp pt154 5 = iP 7 (fK (.inl 16)) := rfl
theorem k154_7 : lkp pt154 7 = iP 9 (fIst 5) := rfl
theorem k154_9 : lkp pt154 9 = iP 10 (fAld 0) := rfl
theorem k154_10 : lkp pt154 10 = iP 12 (fIld 5) := rfl
theorem k154_12 : lkp pt154 12 = iCK 15 12 155 3 2 0 := rfl
theorem k154_15 : lkp pt154 15 = iP 16 (fK (.inl 0)) := rfl
theorem k154_16 : lkp pt154 16 = iP 18 (fIst 6) := rfl
theorem k154_18 : lkp pt154 18 = iP 20 (fIld 6) := rfl
theorem k154_20 : lkp pt154 20 = iP 21 (fAld 0) := rfl
theorem k154_21 : lkp pt154 21 = iRR 24 (gtR 51) := rfl
theorem k154_24 : lkp pt154 24 = iP 25 (fIld 1) := rfl
theorem k154_25 : lkp pt154 25 = iRI 26 qAI := rfl
theorem k154_26 : lkp pt154 26 = iB 29 484 (b2 (fun x y => decide (y ≤ x))) := rfl
theorem k154_29 : lkp pt154 29 = iP 31 (fK (.inl 24)) := rfl
theorem k154_31 : lkp pt154 31 = iP 32 (fIld 1) := rfl
theorem k154_32 : lkp pt154 32 = iP 33 (f2I (fun x y => x * y)) := rfl
theorem k154_33 : lkp pt154 33 = iP 35 (fIld 6) := rfl
theorem k154_35 : lkp pt154 35 = iP 36 (f2I (fun x y => x + y)) := rfl
theorem k154_36 : lkp pt154 36 = iP 38 (fIst 7) := rfl
theorem k154_38 : lkp pt154 38 = iP 40 (fIld 5) := rfl
theorem k154_40 : lkp pt154 40 = iP 41 (fK (.inl 1)) := rfl
theorem k154_41 : lkp pt154 41 = iP 42 (f2I (fun x y => x + y)) := rfl
theorem k154_42 : lkp pt154 42 = iP 44 (fIst 8) := rfl
theorem k154_44 : lkp pt154 44 = iP 45 (fAld 0) := rfl
theorem k154_45 : lkp pt154 45 = iRR 48 (gtR 52) := rfl
theorem k154_48 : lkp pt154 48 = iP 50 (fIld 7) := rfl
theorem k154_50 : lkp pt154 50 = iRI 51 qAI := rfl
theorem k154_51 : lkp pt154 51 = iSw 416 1 [96, 416, 138, 416, 138, 202, 190, 270] := rfl
theorem k154_96 : lkp pt154 96 = iP 97 (fAld 0) := rfl
theorem k154_97 : lkp pt154 97 = iP 99 (fIld 8) := rfl
theorem k154_99 : lkp pt154 99 = iCK 102 12 155 3 2 0 := rfl
theorem k154_102 : lkp pt154 102 = iP 103 (fAld 0) := rfl
theorem k154_103 : lkp pt154 103 = iRR 106 (gtR 67) := rfl
theorem k154_106 : lkp pt154 106 = iP 109 (fK (.inl 252)) := rfl
theorem k154_109 : lkp pt154 109 = iP 111 (fIld 8) := rfl
theorem k154_111 : lkp pt154 111 = iP 112 (f2I (fun x y => x * y)) := rfl
theorem k154_112 : lkp pt154 112 = iP 115 (fK (.inr (.inl 8640))) := rfl
theorem k154_115 : lkp pt154 115 = iP 116 (fAld 0) := rfl
theorem k154_116 : lkp pt154 116 = iRR 119 (gtR 53) := rfl
theorem k154_119 : lkp pt154 119 = iP 121 (fIld 7) := rfl
theorem k154_121 : lkp pt154 121 = iRI 122 qAI := rfl
theorem k154_122 : lkp pt154 122 = iP 123 fI2l := rfl
theorem k154_123 : lkp pt154 123 = iP 124 (f2J (fun x y => x * y)) := rfl
theorem k154_124 : lkp pt154 124 = iW 125 wAJ := rfl
theorem k154_125 : lkp pt154 125 = iP 126 (fAld 0) := rfl
theorem k154_126 : lkp pt154 126 = iP 128 (fIld 5) := rfl
theorem k154_128 : lkp pt154 128 = iP 130 (fIld 8) := rfl
theorem k154_130 : lkp pt154 130 = iCK 133 12 156 4 3 1 := rfl
theorem k154_133 : lkp pt154 133 = iB 136 478 (b1 (fun x => decide (x ≠ 0))) := rfl
theorem k154_136 : lkp pt154 136 = iP 137 (fK (.inl 0)) := rfl
theorem k154_137 : lkp pt154 137 = iRet rZ := rfl
theorem k154_138 : lkp pt154 138 = iP 139 (fAld 0) := rfl
theorem k154_139 : lkp pt154 139 = iRR 142 (gtR 74) := rfl
theorem k154_142 : lkp pt154 142 = iP 143 (fIld 3) := rfl
theorem k154_143 : lkp pt154 143 = iP 145 (fIld 7) := rfl
theorem k154_145 : lkp pt154 145 = iW 146 wAI := rfl
theorem k154_146 : lkp pt154 146 = iP 147 (fAld 0) := rfl
theorem k154_147 : lkp pt154 147 = iRR 150 (gtR 75) := rfl
theorem k154_150 : lkp pt154 150 = iP 151 (fIld 3) := rfl
theorem k154_151 : lkp pt154 151 = iP 153 (fIld 5) := rfl
theorem k154_153 : lkp pt154 153 = iW 154 wAI := rfl
theorem k154_154 : lkp pt154 154 = iP 157 (fInc 3 1) := rfl
theorem k154_157 : lkp pt154 157 = iP 159 (fIld 4) := rfl
theorem k154_159 : lkp pt154 159 = iP 160 (fAld 0) := rfl
theorem k154_160 : lkp pt154 160 = iRR 163 (gtR 52) := rfl
theorem k154_163 : lkp pt154 163 = iP 165 (fIld 7) := rfl
theorem k154_165 : lkp pt154 165 = iRI 166 qAI := rfl
theorem k154_166 : lkp pt154 166 = iP 167 (fK (.inl 3)) := rfl
theorem k154_167 : lkp pt154 167 = iB 170 174 (b2 (fun x y => decide (x ≠ y))) := rfl
theorem k154_170 : lkp pt154 170 = iP 171 (fK (.inl 1)) := rfl
theorem k154_171 : lkp pt154 171 = iP 175 fGo := rfl
theorem k154_174 : lkp pt154 174 = iP 175 (fK (.inl 0)) := rfl
theorem k154_175 : lkp pt154 175 = iP 176 (f2I (fun x y => x + y)) := rfl
theorem k154_176 : lkp pt154 176 = iP 178 (fIst 4) := rfl
theorem k154_178 : lkp pt154 178 = iP 181 (fInc 5 1) := rfl
theorem k154_181 : lkp pt154 181 = iP 182 (fAld 0) := rfl
theorem k154_182 : lkp pt154 182 = iP 184 (fIld 5) := rfl
theorem k154_184 : lkp pt154 184 = iCK 187 12 155 3 2 0 := rfl
theorem k154_187 : lkp pt154 187 = iP 478 fGo := rfl
theorem k154_190 : lkp pt154 190 = iP 193 (fInc 5 1) := rfl
theorem k154_193 : lkp pt154 193 = iP 194 (fAld 0) := rfl
theorem k154_194 : lkp pt154 194 = iP 196 (fIld 5) := rfl
theorem k154_196 : lkp pt154 196 = iCK 199 12 155 3 2 0 := rfl
theorem k154_199 : lkp pt154 199 = iP 478 fGo := rfl
theorem k154_202 : lkp pt154 202 = iP 205 (fInc 3 (-1)) := rfl
theorem k154_205 : lkp pt154 205 = iP 208 (fInc 4 (-1)) := rfl
theorem k154_208 : lkp pt154 208 = iP 209 (fAld 0) := rfl
theorem k154_209 : lkp pt154 209 = iRR 212 (gtR 67) := rfl
theorem k154_212 : lkp pt154 212 = iP 215 (fK (.inl 252)) := rfl
theorem k154_215 : lkp pt154 215 = iP 217 (fIld 5) := rfl
theorem k154_217 : lkp pt154 217 = iP 218 (f2I (fun x y => x * y)) := rfl
theorem k154_218 : lkp pt154 218 = iP 219 fDup2 := rfl
theorem k154_219 : lkp pt154 219 = iRJ 220 qAJ := rfl
theorem k154_220 : lkp pt154 220 = iP 223 (fK (.inr (.inl 8640))) := rfl
theorem k154_223 : lkp pt154 223 = iP 224 (f2J (fun x y => x + y)) := rfl
theorem k154_224 : lkp pt154 224 = iW 225 wAJ := rfl
theorem k154_225 : lkp pt154 225 = iP 226 (fAld 0) := rfl
theorem k154_226 : lkp pt154 226 = iP 228 (fIld 5) := rfl
theorem k154_228 : lkp pt154 228 = iP 229 (fAld 0) := rfl
theorem k154_229 : lkp pt154 229 = iRR 232 (gtR 74) := rfl
theorem k154_232 : lkp pt154 232 = iP 233 (fIld 3) := rfl
theorem k154_233 : lkp pt154 233 = iRI 234 qAI := rfl
theorem k154_234 : lkp pt154 234 = iP 236 (fIld 4) := rfl
theorem k154_236 : lkp pt154 236 = iCK 239 12 158 18 4 1 := rfl
theorem k154_239 : lkp pt154 239 = iB 242 257 (b1 (fun x => decide (x = 0))) := rfl
theorem k154_242 : lkp pt154 242 = iP 243 (fAld 0) := rfl
theorem k154_243 : lkp pt154 243 = iP 244 (fAld 0) := rfl
set_option maxRecDepth 100000 in
theorem k154_244 : lkp pt154 244 = iRR 247 (gtR 75) := rfl
set_option maxRecDepth 100000 in
theorem k154_247 : lkp pt154 247 = iP 248 (fIld 3) := rfl
set_option maxRecDepth 100000 in
theorem k154_248 : lkp pt154 248 = iRI 249 qAI := rfl
set_option maxRecDepth 100000 in
theorem k154_249 : lkp pt154 249 = iP 251 (fIld 5) := rfl
set_option maxRecDepth 100000 in
theorem k154_251 : lkp pt154 251 = iCK 254 12 156 4 3 1 := rfl
set_option maxRecDepth 100000 in
theorem k154_254 : lkp pt154 254 = iB 257 259 (b1 (fun x => decide (x ≠ 0))) := rfl
set_option maxRecDepth 100000 in
theorem k154_257 : lkp pt154 257 = iP 258 (fK (.inl 0)) := rfl
set_option maxRecDepth 100000 in
theorem k154_258 : lkp pt154 258 = iRet rZ := rfl
set_option maxRecDepth 100000 in
theorem k154_259 : lkp pt154 259 = iP 260 (fAld 0) := rfl
set_option maxRecDepth 100000 in
theorem k154_260 : lkp pt154 260 = iRR 263 (gtR 75) := rfl
set_option maxRecDepth 100000 in
theorem k154_263 : lkp pt154 263 = iP 264 (fIld 3) := rfl
set_option maxRecDepth 100000 in
theorem k154_264 : lkp pt154 264 = iRI 265 qAI := rfl
set_option maxRecDepth 100000 in
theorem k154_265 : lkp pt154 265 = iP 267 (fIst 5) := rfl
set_option maxRecDepth 100000 in
theorem k154_267 : lkp pt154 267 = iP 478 fGo := rfl
set_option maxRecDepth 100000 in
theorem k154_270 : lkp pt154 270 = iP 273 (fInc 3 (-1)) := rfl
set_option maxRecDepth 100000 in
theorem k154_273 : lkp pt154 273 = iP 274 (fK (.inl 0)) := rfl
set_option maxRecDepth 100000 in
theorem k154_274 : lkp pt154 274 = iP 276 (fIst 9) := rfl
set_option maxRecDepth 100000 in
theorem k154_276 : lkp pt154 276 = iP 278 (fIld 9) := rfl
set_option maxRecDepth 100000 in
theorem k154_278 : lkp pt154 278 = iP 281 (fK (.inl 252)) := rfl
set_option maxRecDepth 100000 in
theorem k154_281 : lkp pt154 281 = iB 284 371 (b2 (fun x y => decide (y ≤ x))) := rfl
set_option maxRecDepth 100000 in
theorem k154_284 : lkp pt154 284 = iP 285 (fAld 0) := rfl
set_option maxRecDepth 100000 in
theorem k154_285 : lkp pt154 285 = iRR 288 (gtR 67) := rfl
set_option maxRecDepth 100000 in
theorem k154_288 : lkp pt154 288 = iP 291 (fK (.inl 252)) := rfl
set_option maxRecDepth 100000 in
theorem k154_291 : lkp pt154 291 = iP 293 (fIld 5) := rfl
set_option maxRecDepth 100000 in
theorem k154_293 : lkp pt154 293 = iP 294 (fK (.inl 1)) := rfl
set_option maxRecDepth 100000 in
theorem k154_294 : lkp pt154 294 = iP 295 (f2I (fun x y => x - y)) := rfl
set_option maxRecDepth 100000 in
theorem k154_295 : lkp pt154 295 = iP 296 (f2I (fun x y => x * y)) := rfl
set_option maxRecDepth 100000 in
theorem k154_296 : lkp pt154 296 = iP 298 (fIld 9) := rfl
set_option maxRecDepth 100000 in
theorem k154_298 : lkp pt154 298 = iP 299 (f2I (fun x y => x + y)) := rfl
set_option maxRecDepth 100000 in
theorem k154_299 : lkp pt154 299 = iRJ 300 qAJ := rfl
set_option maxRecDepth 100000 in
theorem k154_300 : lkp pt154 300 = iP 302 (fLst 10) := rfl
set_option maxRecDepth 100000 in
theorem k154_302 : lkp pt154 302 = iP 303 (fAld 0) := rfl
set_option maxRecDepth 100000 in
theorem k154_303 : lkp pt154 303 = iRR 306 (gtR 67) := rfl
set_option maxRecDepth 100000 in
theorem k154_306 : lkp pt154 306 = iP 309 (fK (.inl 252)) := rfl
set_option maxRecDepth 100000 in
theorem k154_309 : lkp pt154 309 = iP 311 (fIld 5) := rfl
set_option maxRecDepth 100000 in
theorem k154_311 : lkp pt154 311 = iP 312 (f2I (fun x y => x * y)) := rfl
set_option maxRecDepth 100000 in
theorem k154_312 : lkp pt154 312 = iP 314 (fIld 9) := rfl
set_option maxRecDepth 100000 in
theorem k154_314 : lkp pt154 314 = iP 315 (f2I (fun x y => x + y)) := rfl
set_option maxRecDepth 100000 in
theorem k154_315 : lkp pt154 315 = iRJ 316 qAJ := rfl
set_option maxRecDepth 100000 in
theorem k154_316 : lkp pt154 316 = iP 318 (fLst 12) := rfl
set_option maxRecDepth 100000 in
theorem k154_318 : lkp pt154 318 = iP 319 (fAld 0) := rfl
set_option maxRecDepth 100000 in
theorem k154_319 : lkp pt154 319 = iRR 322 (gtR 67) := rfl
set_option maxRecDepth 100000 in
theorem k154_322 : lkp pt154 322 = iP 325 (fK (.inl 252)) := rfl
set_option maxRecDepth 100000 in
theorem k154_325 : lkp pt154 325 = iP 327 (fIld 5) := rfl
set_option maxRecDepth 100000 in
theorem k154_327 : lkp pt154 327 = iP 328 (f2I (fun x y => x * y)) := rfl
set_option maxRecDepth 100000 in
theorem k154_328 : lkp pt154 328 = iP 330 (fIld 9) := rfl
set_option maxRecDepth 100000 in
theorem k154_330 : lkp pt154 330 = iP 331 (f2I (fun x y => x + y)) := rfl
set_option maxRecDepth 100000 in
theorem k154_331 : lkp pt154 331 = iP 333 (fJld 10) := rfl
set_option maxRecDepth 100000 in
theorem k154_333 : lkp pt154 333 = iP 335 (fJld 12) := rfl
set_option maxRecDepth 100000 in
theorem k154_335 : lkp pt154 335 = iP 336 fLcmp := rfl
set_option maxRecDepth 100000 in
theorem k154_336 : lkp pt154 336 = iB 339 343 (b1 (fun x => decide (x ≤ 0))) := rfl
set_option maxRecDepth 100000 in
theorem k154_339 : lkp pt154 339 = iP 340 (fK (.inl 1)) := rfl
set_option maxRecDepth 100000 in
theorem k154_340 : lkp pt154 340 = iP 344 fGo := rfl
set_option maxRecDepth 100000 in
theorem k154_343 : lkp pt154 343 = iP 344 (fK (.inl 0)) := rfl
set_option maxRecDepth 100000 in
theorem k154_344 : lkp pt154 344 = iP 345 (fIld 2) := rfl
set_option maxRecDepth 100000 in
theorem k154_345 : lkp pt154 345 = iP 346 (fK (.inl 1)) := rfl
set_option maxRecDepth 100000 in
theorem k154_346 : lkp pt154 346 = iB 349 353 (b2 (fun x y => decide (x ≠ y))) := rfl
set_option maxRecDepth 100000 in
theorem k154_349 : lkp pt154 349 = iP 350 (fK (.inl 1)) := rfl
set_option maxRecDepth 100000 in
theorem k154_350 : lkp pt154 350 = iP 354 fGo := rfl
set_option maxRecDepth 100000 in
theorem k154_353 : lkp pt154 353 = iP 354 (fK (.inl 0)) := rfl
set_option maxRecDepth 100000 in
theorem k154_354 : lkp pt154 354 = iB 357 362 (b2 (fun x y => decide (x ≠ y))) := rfl
set_option maxRecDepth 100000 in
theorem k154_357 : lkp pt154 357 = iP 359 (fJld 10) := rfl
set_option maxRecDepth 100000 in
theorem k154_359 : lkp pt154 359 = iP 364 fGo := rfl
set_option maxRecDepth 100000 in
theorem k154_362 : lkp pt154 362 = iP 364 (fJld 12) := rfl
set_option maxRecDepth 100000 in
theorem k154_364 : lkp pt154 364 = iW 365 wAJ := rfl
set_option maxRecDepth 100000 in
theorem k154_365 : lkp pt154 365 = iP 368 (fInc 9 1) := rfl
set_option maxRecDepth 100000 in
theorem k154_368 : lkp pt154 368 = iP 276 fGo := rfl
set_option maxRecDepth 100000 in
theorem k154_371 : lkp pt154 371 = iP 372 (fAld 0) := rfl
set_option maxRecDepth 100000 in
theorem k154_372 : lkp pt154 372 = iRR 375 (gtR 67) := rfl
set_option maxRecDepth 100000 in
theorem k154_375 : lkp pt154 375 = iP 378 (fK (.inl 252)) := rfl
set_option maxRecDepth 100000 in
theorem k154_378 : lkp pt154 378 = iP 380 (fIld 5) := rfl
set_option maxRecDepth 100000 in
theorem k154_380 : lkp pt154 380 = iP 381 (f2I (fun x y => x * y)) := rfl
set_option maxRecDepth 100000 in
theorem k154_381 : lkp pt154 381 = iP 382 fDup2 := rfl
set_option maxRecDepth 100000 in
theorem k154_382 : lkp pt154 382 = iRJ 383 qAJ := rfl
set_option maxRecDepth 100000 in
theorem k154_383 : lkp pt154 383 = iP 386 (fK (.inr (.inl 8640))) := rfl
set_option maxRecDepth 100000 in
theorem k154_386 : lkp pt154 386 = iP 387 (f2J (fun x y => x + y)) := rfl
set_option maxRecDepth 100000 in
theorem k154_387 : lkp pt154 387 = iW 388 wAJ := rfl
set_option maxRecDepth 100000 in
theorem k154_388 : lkp pt154 388 = iP 389 (fAld 0) := rfl
set_option maxRecDepth 100000 in
theorem k154_389 : lkp pt154 389 = iP 390 (fAld 0) := rfl
set_option maxRecDepth 100000 in
theorem k154_390 : lkp pt154 390 = iRR 393 (gtR 75) := rfl
set_option maxRecDepth 100000 in
theorem k154_393 : lkp pt154 393 = iP 394 (fIld 3) := rfl
set_option maxRecDepth 100000 in
theorem k154_394 : lkp pt154 394 = iRI 395 qAI := rfl
set_option maxRecDepth 100000 in
theorem k154_395 : lkp pt154 395 = iP 397 (fIld 5) := rfl
set_option maxRecDepth 100000 in
theorem k154_397 : lkp pt154 397 = iCK 400 12 156 4 3 1 := rfl
set_option maxRecDepth 100000 in
theorem k154_400 : lkp pt154 400 = iB 403 405 (b1 (fun x => decide (x ≠ 0))) := rfl
set_option maxRecDepth 100000 in
theorem k154_403 : lkp pt154 403 = iP 404 (fK (.inl 0)) := rfl
set_option maxRecDepth 100000 in
theorem k154_404 : lkp pt154 404 = iRet rZ := rfl
set_option maxRecDepth 100000 in
theorem k154_405 : lkp pt154 405 = iP 406 (fAld 0) := rfl
set_option maxRecDepth 100000 in
theorem k154_406 : lkp pt154 406 = iRR 409 (gtR 75) := rfl
set_option maxRecDepth 100000 in
theorem k154_409 : lkp pt154 409 = iP 410 (fIld 3) := rfl
set_option maxRecDepth 100000 in
theorem k154_410 : lkp pt154 410 = iRI 411 qAI := rfl
set_option maxRecDepth 100000 in
theorem k154_411 : lkp pt154 411 = iP 413 (fIst 5) := rfl
set_option maxRecDepth 100000 in
theorem k154_413 : lkp pt154 413 = iP 478 fGo := rfl
set_option maxRecDepth 100000 in
theorem k154_416 : lkp pt154 416 = iP 417 (fAld 0) := rfl
set_option maxRecDepth 100000 in
theorem k154_417 : lkp pt154 417 = iRR 420 (gtR 70) := rfl
set_option maxRecDepth 100000 in
theorem k154_420 : lkp pt154 420 = iP 421 (fK (.inl 2)) := rfl
set_option maxRecDepth 100000 in
theorem k154_421 : lkp pt154 421 = iP 422 (fAld 0) := rfl
set_option maxRecDepth 100000 in
theorem k154_422 : lkp pt154 422 = iRR 425 (gtR 54) := rfl
set_option maxRecDepth 100000 in
theorem k154_425 : lkp pt154 425 = iP 427 (fIld 7) := rfl
set_option maxRecDepth 100000 in
theorem k154_427 : lkp pt154 427 = iRI 428 qAI := rfl
set_option maxRecDepth 100000 in
theorem k154_428 : lkp pt154 428 = iP 429 (f2I (fun x y => x * y)) := rfl
set_option maxRecDepth 100000 in
theorem k154_429 : lkp pt154 429 = iP 430 (fIld 2) := rfl
set_option maxRecDepth 100000 in
theorem k154_430 : lkp pt154 430 = iP 431 (f2I (fun x y => x + y)) := rfl
set_option maxRecDepth 100000 in
theorem k154_431 : lkp pt154 431 = iRI 432 qAZ := rfl
set_option maxRecDepth 100000 in
theorem k154_432 : lkp pt154 432 = iB 435 437 (b1 (fun x => decide (x = 0))) := rfl
set_option maxRecDepth 100000 in
theorem k154_435 : lkp pt154 435 = iP 436 (fK (.inl 0)) := rfl
set_option maxRecDepth 100000 in
theorem k154_436 : lkp pt154 436 = iRet rZ := rfl
set_option maxRecDepth 100000 in
theorem k154_437 : lkp pt154 437 = iP 438 (fAld 0) := rfl
set_option maxRecDepth 100000 in
theorem k154_438 : lkp pt154 438 = iP 440 (fIld 8) := rfl
set_option maxRecDepth 100000 in
theorem k154_440 : lkp pt154 440 = iP 442 (fIld 7) := rfl
set_option maxRecDepth 100000 in
theorem k154_442 : lkp pt154 442 = iP 443 (fIld 2) := rfl
set_option maxRecDepth 100000 in
theorem k154_443 : lkp pt154 443 = iP 445 (fIld 4) := rfl
set_option maxRecDepth 100000 in
theorem k154_445 : lkp pt154 445 = iCK 448 12 163 17 5 0 := rfl
set_option maxRecDepth 100000 in
theorem k154_448 : lkp pt154 448 = iP 449 (fAld 0) := rfl
set_option maxRecDepth 100000 in
theorem k154_449 : lkp pt154 449 = iRR 452 (gtR 67) := rfl
set_option maxRecDepth 100000 in
theorem k154_452 : lkp pt154 452 = iP 455 (fK (.inl 252)) := rfl
set_option maxRecDepth 100000 in
theorem k154_455 : lkp pt154 455 = iP 457 (fIld 8) := rfl
set_option maxRecDepth 100000 in
theorem k154_457 : lkp pt154 457 = iP 458 (f2I (fun x y => x * y)) := rfl
set_option maxRecDepth 100000 in
theorem k154_458 : lkp pt154 458 = iP 459 fDup2 := rfl
set_option maxRecDepth 100000 in
theorem k154_459 : lkp pt154 459 = iRJ 460 qAJ := rfl
set_option maxRecDepth 100000 in
theorem k154_460 : lkp pt154 460 = iP 463 (fK (.inr (.inl 8640))) := rfl
set_option maxRecDepth 100000 in
theorem k154_463 : lkp pt154 463 = iP 464 (f2J (fun x y => x + y)) := rfl
set_option maxRecDepth 100000 in
theorem k154_464 : lkp pt154 464 = iW 465 wAJ := rfl
set_option maxRecDepth 100000 in
theorem k154_465 : lkp pt154 465 = iP 466 (fAld 0) := rfl
set_option maxRecDepth 100000 in
theorem k154_466 : lkp pt154 466 = iP 468 (fIld 5) := rfl
set_option maxRecDepth 100000 in
theorem k154_468 : lkp pt154 468 = iP 470 (fIld 8) := rfl
set_option maxRecDepth 100000 in
theorem k154_470 : lkp pt154 470 = iCK 473 12 156 4 3 1 := rfl
set_option maxRecDepth 100000 in
theorem k154_473 : lkp pt154 473 = iB 476 478 (b1 (fun x => decide (x ≠ 0))) := rfl
set_option maxRecDepth 100000 in
theorem k154_476 : lkp pt154 476 = iP 477 (fK (.inl 0)) := rfl
set_option maxRecDepth 100000 in
theorem k154_477 : lkp pt154 477 = iRet rZ := rfl
set_option maxRecDepth 100000 in
theorem k154_478 : lkp pt154 478 = iP 481 (fInc 6 1) := rfl
set_option maxRecDepth 100000 in
theorem k154_481 : lkp pt154 481 = iP 18 fGo := rfl
set_option maxRecDepth 100000 in
theorem k154_484 : lkp pt154 484 = iP 485 (fK (.inl 0)) := rfl
set_option maxRecDepth 100000 in
theorem k154_485 : lkp pt154 485 = iP 487 (fIst 6) := rfl
set_option maxRecDepth 100000 in
theorem k154_487 : lkp pt154 487 = iP 489 (fIld 6) := rfl
set_option maxRecDepth 100000 in
theorem k154_489 : lkp pt154 489 = iP 492 (fK (.inl 252)) := rfl
set_option maxRecDepth 100000 in
theorem k154_492 : lkp pt154 492 = iB 495 529 (b2 (fun x y => decide (y ≤ x))) := rfl
set_option maxRecDepth 100000 in
theorem k154_495 : lkp pt154 495 = iP 496 (fAld 0) := rfl
set_option maxRecDepth 100000 in
theorem k154_496 : lkp pt154 496 = iRR 499 (gtR 67) := rfl
set_option maxRecDepth 100000 in
theorem k154_499 : lkp pt154 499 = iP 502 (fK (.inl 252)) := rfl
set_option maxRecDepth 100000 in
theorem k154_502 : lkp pt154 502 = iP 503 (fK (.inl 2)) := rfl
set_option maxRecDepth 100000 in
theorem k154_503 : lkp pt154 503 = iP 504 (fIld 1) := rfl
set_option maxRecDepth 100000 in
theorem k154_504 : lkp pt154 504 = iP 505 (f2I (fun x y => x * y)) := rfl
set_option maxRecDepth 100000 in
theorem k154_505 : lkp pt154 505 = iP 506 (fIld 2) := rfl
set_option maxRecDepth 100000 in
theorem k154_506 : lkp pt154 506 = iP 507 (f2I (fun x y => x + y)) := rfl
set_option maxRecDepth 100000 in
theorem k154_507 : lkp pt154 507 = iP 508 (f2I (fun x y => x * y)) := rfl
set_option maxRecDepth 100000 in
theorem k154_508 : lkp pt154 508 = iP 510 (fIld 6) := rfl
set_option maxRecDepth 100000 in
theorem k154_510 : lkp pt154 510 = iP 511 (f2I (fun x y => x + y)) := rfl
set_option maxRecDepth 100000 in
theorem k154_511 : lkp pt154 511 = iP 512 (fAld 0) := rfl
set_option maxRecDepth 100000 in
theorem k154_512 : lkp pt154 512 = iRR 515 (gtR 67) := rfl
set_option maxRecDepth 100000 in
theorem k154_515 : lkp pt154 515 = iP 518 (fK (.inl 4032)) := rfl
set_option maxRecDepth 100000 in
theorem k154_518 : lkp pt154 518 = iP 520 (fIld 6) := rfl
set_option maxRecDepth 100000 in
theorem k154_520 : lkp pt154 520 = iP 521 (f2I (fun x y => x + y)) := rfl
set_option maxRecDepth 100000 in
theorem k154_521 : lkp pt154 521 = iRJ 522 qAJ := rfl
set_option maxRecDepth 100000 in
theorem k154_522 : lkp pt154 522 = iW 523 wAJ := rfl
set_option maxRecDepth 100000 in
theorem k154_523 : lkp pt154 523 = iP 526 (fInc 6 1) := rfl
set_option maxRecDepth 100000 in
theorem k154_526 : lkp pt154 526 = iP 487 fGo := rfl
set_option maxRecDepth 100000 in
theorem k154_529 : lkp pt154 529 = iP 530 (fK (.inl 1)) := rfl
set_option maxRecDepth 100000 in
theorem k154_530 : lkp pt154 530 = iRet rZ := rfl
set_option maxRecDepth 100000 in
theorem b154_0 {G : AG} (hG : FIX G) (x0 : Nat) (x1 : Int32) (x2 : Int32) (H : Hp) : G 154 0 [some (.inr (.inr x0)), some (.inl x1), some (.inl x2), none, none, none, none, none, none, none, none, none, none, none] [] H = (bif Nat.beq (H.1 x0).1 12 then (G 155 0 [some (.inr (.inr x0)), some (.inl 16), none] [] H).bind fun u1 => (asV u1.1).bind fun _ => G 154 18 [some (.inr (.inr x0)), some (.inl x1), some (.inl x2), some (.inl 0), some (.inl 0), some (.inl 16), some (.inl 0), none, none, none, none, none, none, none] [] u1.2 else none) := by
  refine Eq.trans (e1 hG PT_154 k154_0 _ _ _) ?_
  show G 154 1 [some (.inr (.inr x0)), some (.inl x1), some (.inl x2), none, none, none, none, none, none, none, none, none, none, none] [.inl 0] H = _
  refine Eq.trans (e1 hG PT_154 k154_1 _ _ _) ?_
  show G 154 2 [some (.inr (.inr x0)), some (.inl x1), some (.inl x2), some (.inl 0), none, none, none, none, none, none, none, none, none, none] [] H = _
  refine Eq.trans (e1 hG PT_154 k154_2 _ _ _) ?_
  show G 154 3 [some (.inr (.inr x0)), some (.inl x1), some (.inl x2), some (.inl 0), none, none, none, none, none, none, none, none, none, none] [.inl 0] H = _
  refine Eq.trans (e1 hG PT_154 k154_3 _ _ _) ?_
  show G 154 5 [some (.inr (.inr x0)), some (.inl x1), some (.inl x2), some (.inl 0), some (.inl 0), none, none, none, none, none, none, none, none, none] [] H = _
  refine Eq.trans (e1 hG PT_154 k154_5 _ _ _) ?_
  show G 154 7 [some (.inr (.inr x0)), some (.inl x1), some (.inl x2), some (.inl 0), some (.inl 0), none, none, none, none, none, none, none, none, none] [.inl 16] H = _
  refine Eq.trans (e1 hG PT_154 k154_7 _ _ _) ?_
  show G 154 9 [some (.inr (.inr x0)), some (.inl x1), some (.inl x2), some (.inl 0), some (.inl 0), some (.inl 16), none, none, none, none, none, none, none, none] [] H = _
  refine Eq.trans (e1 hG PT_154 k154_9 _ _ _) ?_
  show G 154 10 [some (.inr (.inr x0)), some (.inl x1), some (.inl x2), some (.inl 0), some (.inl 0), some (.inl 16), none, none, none, none, none, none, none, none] [.inr (.inr x0)] H = _
  refine Eq.trans (e1 hG PT_154 k154_10 _ _ _) ?_
  show G 154 12 [some (.inr (.inr x0)), some (.inl x1), some (.inl x2), some (.inl 0), some (.inl 0), some (.inl 16), none, none, none, none, none, none, none, none] [.inl 16, .inr (.inr x0)] H = _
  refine Eq.trans (e1 hG PT_154 k154_12 _ _ _) ?_
  refine bfc ?_ ?_
  · refine bdc fun u1 => ?_
    refine bdc fun _ => ?_
    show G 154 15 [some (.inr (.inr x0)), some (.inl x1), some (.inl x2), some (.inl 0), some (.inl 0), some (.inl 16), none, none, none, none, none, none, none, none] [] u1.2 = _
    refine Eq.trans (e1 hG PT_154 k154_15 _ _ _) ?_
    show G 154 16 [some (.inr (.inr x0)), some (.inl x1), some (.inl x2), some (.inl 0), some (.inl 0), some (.inl 16), none, none, none, none, none, none, none, none] [.inl 0] u1.2 = _
    refine Eq.trans (e1 hG PT_154 k154_16 _ _ _) ?_
    rfl
  · rfl
set_option maxRecDepth 100000 in
theorem b154_18 {G : AG} (hG : FIX G) (x0 : Nat) (x1 : Int32) (x2 : Int32) (x3 : Int32) (x4 : Int32) (x5 : Int32) (x6 : Int32) (o7 : Option AV) (o8 : Option AV) (o9 : Option AV) (o10 : Option AV) (o12 : Option AV) (H : Hp) : G 154 18 [some (.inr (.inr x0)), some (.inl x1), some (.inl x2), some (.inl x3), some (.inl x4), some (.inl x5), some (.inl x6), o7, o8, o9, o10, none, o12, none] [] H = ((hgR H x0 51).bind fun r1 => (hAI H r1 x1).bind fun i2 => bif decide ((i2 : Int32) ≤ (x6 : Int32)) then G 154 487 [some (.inr (.inr x0)), some (.inl x1), some (.inl x2), some (.inl x3), some (.inl x4), some (.inl x5), some (.inl 0), o7, o8, o9, o10, none, o12, none] [] H else (hgR H x0 52).bind fun r3 => (hAI H r3 (((24 * x1) + x6))).bind fun i4 => bif decide ((i4 : Int32) = Int32.ofInt 1) then bif Nat.beq (H.1 x0).1 12 then (G 155 0 [some (.inr (.inr x0)), some (.inl ((x5 + 1))), none] [] H).bind fun u6 => (asV u6.1).bind fun _ => (hgR u6.2 x0 67).bind fun r7 => (hgR u6.2 x0 53).bind fun r8 => (hAI u6.2 r8 (((24 * x1) + x6))).bind fun i9 => (hSJ u6.2 r7 ((252 * (x5 + 1))) ((8640 * i9.toInt64))).bind fun H10 => bif Nat.beq (H10.1 x0).1 12 then (G 156 0 [some (.inr (.inr x0)), some (.inl x5), some (.inl ((x5 + 1))), none] [] H10).bind fun u11 => (asI u11.1).bind fun i12 => bif decide ((i12 : Int32) ≠ 0) then G 154 478 [some (.inr (.inr x0)), some (.inl x1), some (.inl x2), some (.inl x3), some (.inl x4), some (.inl x5), some (.inl x6), some (.inl ((24 * x1) + x6)), some (.inl (x5 + 1)), o9, o10, none, o12, none] [] u11.2 else retZ 0 u11.2 else none else none else bif decide ((i4 : Int32) = Int32.ofInt (1 + 1)) then G 154 416 [some (.inr (.inr x0)), some (.inl x1), some (.inl x2), some (.inl x3), some (.inl x4), some (.inl x5), some (.inl x6), some (.inl ((24 * x1) + x6)), some (.inl (x5 + 1)), o9, o10, none, o12, none] [] H else bif decide ((i4 : Int32) = Int32.ofInt ((1 + 1) + 1)) then G 154 138 [some (.inr (.inr x0)), some (.inl x1), some (.inl x2), some (.inl x3), some (.inl x4), some (.inl x5), some (.inl x6), some (.inl ((24 * x1) + x6)), some (.inl (x5 + 1)), o9, o10, none, o12, none] [] H else bif decide ((i4 : Int32) = Int32.ofInt (((1 + 1) + 1) + 1)) then G 154 416 [some (.inr (.inr x0)), some (.inl x1), some (.inl x2), some (.inl x3), some (.inl x4), some (.inl x5), some (.inl x6), some (.inl ((24 * x1) + x6)), some (.inl (x5 + 1)), o9, o10, none, o12, none] [] H else bif decide ((i4 : Int32) = Int32.ofInt ((((1 + 1) + 1) + 1) + 1)) then G 154 138 [some (.inr (.inr x0)), some (.inl x1), some (.inl x2), some (.inl x3), some (.inl x4), some (.inl x5), some (.inl x6), some (.inl ((24 * x1) + x6)), some (.inl (x5 + 1)), o9, o10, none, o12, none] [] H else bif decide ((i4 : Int32) = Int32.ofInt (((((1 + 1) + 1) + 1) + 1) + 1)) then G 154 208 [some (.inr (.inr x0)), some (.inl x1), some (.inl x2), some (.inl (x3 + (-1))), some (.inl (x4 + (-1))), some (.inl x5), some (.inl x6), some (.inl ((24 * x1) + x6)), some (.inl (x5 + 1)), o9, o10, none, o12, none] [] H else bif decide ((i4 : Int32) = Int32.ofInt ((((((1 + 1) + 1) + 1) + 1) + 1) + 1)) then bif Nat.beq (H.1 x0).1 12 then (G 155 0 [some (.inr (.inr x0)), some (.inl ((x5 + 1))), none] [] H).bind fun u5 => (asV u5.1).bind fun _ => G 154 478 [some (.inr (.inr x0)), some (.inl x1), some (.inl x2), some (.inl x3), some (.inl x4), some (.inl (x5 + 1)), some (.inl x6), some (.inl ((24 * x1) + x6)), some (.inl (x5 + 1)), o9, o10, none, o12, none] [] u5.2 else none else bif decide ((i4 : Int32) = Int32.ofInt (((((((1 + 1) + 1) + 1) + 1) + 1) + 1) + 1)) then G 154 273 [some (.inr (.inr x0)), some (.inl x1), some (.inl x2), some (.inl (x3 + (-1))), some (.inl x4), some (.inl x5), some (.inl x6), some (.inl ((24 * x1) + x6)), some (.inl (x5 + 1)), o9, o10, none, o12, none] [] H else G 154 416 [some (.inr (.inr x0)), some (.inl x1), some (.inl x2), some (.inl x3), some (.inl x4), some (.inl x5), some (.inl x6), some (.inl ((24 * x1) + x6)), some (.inl (x5 + 1)), o9, o10, none, o12, none] [] H) := by
  refine Eq.trans (e1 hG PT_154 k154_18 _ _ _) ?_
  show G 154 20 [some (.inr (.inr x0)), some (.inl x1), some (.inl x2), some (.inl x3), some (.inl x4), some (.inl x5), some (.inl x6), o7, o8, o9, o10, none, o12, none] [.inl x6] H = _
  refine Eq.trans (e1 hG PT_154 k154_20 _ _ _) ?_
  show G 154 21 [some (.inr (.inr x0)), some (.inl x1), some (.inl x2), some (.inl x3), some (.inl x4), some (.inl x5), some (.inl x6), o7, o8, o9, o10, none, o12, none] [.inr (.inr x0), .inl x6] H = _
  refine Eq.trans (e1 hG PT_154 k154_21 _ _ _) ?_
  refine bdc fun r1 => ?_
  show G 154 24 [some (.inr (.inr x0)), some (.inl x1), some (.inl x2), some (.inl x3), some (.inl x4), some (.inl x5), some (.inl x6), o7, o8, o9, o10, none, o12, none] [.inr (.inr r1), .inl x6] H = _
  refine Eq.trans (e1 hG PT_154 k154_24 _ _ _) ?_
  show G 154 25 [some (.inr (.inr x0)), some (.inl x1), some (.inl x2), some (.inl x3), some (.inl x4), some (.inl x5), some (.inl x6), o7, o8, o9, o10, none, o12, none] [.inl x1, .inr (.inr r1), .inl x6] H = _
  refine Eq.trans (e1 hG PT_154 k154_25 _ _ _) ?_
  refine bdc fun i2 => ?_
  show G 154 26 [some (.inr (.inr x0)), some (.inl x1), some (.inl x2), some (.inl x3), some (.inl x4), some (.inl x5), some (.inl x6), o7, o8, o9, o10, none, o12, none] [.inl i2, .inl x6] H = _
  refine Eq.trans (e1 hG PT_154 k154_26 _ _ _) ?_
  refine bfc ?_ ?_
  · show G 154 484 [some (.inr (.inr x0)), some (.inl x1), some (.inl x2), some (.inl x3), some (.inl x4), some (.inl x5), some (.inl x6), o7, o8, o9, o10, none, o12, none] [] H = _
    refine Eq.trans (e1 hG PT_154 k154_484 _ _ _) ?_
    show G 154 485 [some (.inr (.inr x0)), some (.inl x1), some (.inl x2), some (.inl x3), some (.inl x4), some (.inl x5), some (.inl x6), o7, o8, o9, o10, none, o12, none] [.inl 0] H = _
    refine Eq.trans (e1 hG PT_154 k154_485 _ _ _) ?_
    rfl
  · show G 154 29 [some (.inr (.inr x0)), some (.inl x1), some (.inl x2), some (.inl x3), some (.inl x4), some (.inl x5), some (.inl x6), o7, o8, o9, o10, none, o12, none] [] H = _
    refine Eq.trans (e1 hG PT_154 k154_29 _ _ _) ?_
    show G 154 31 [some (.inr (.inr x0)), some (.inl x1), some (.inl x2), some (.inl x3), some (.inl x4), some (.inl x5), some (.inl x6), o7, o8, o9, o10, none, o12, none] [.inl 24] H = _
    refine Eq.trans (e1 hG PT_154 k154_31 _ _ _) ?_
    show G 154 32 [some (.inr (.inr x0)), some (.inl x1), some (.inl x2), some (.inl x3), some (.inl x4), some (.inl x5), some (.inl x6), o7, o8, o9, o10, none, o12, none] [.inl x1, .inl 24] H = _
    refine Eq.trans (e1 hG PT_154 k154_32 _ _ _) ?_
    show G 154 33 [some (.inr (.inr x0)), some (.inl x1), some (.inl x2), some (.inl x3), some (.inl x4), some (.inl x5), some (.inl x6), o7, o8, o9, o10, none, o12, none] [.inl (24 * x1)] H = _
    refine Eq.trans (e1 hG PT_154 k154_33 _ _ _) ?_
    show G 154 35 [some (.inr (.inr x0)), some (.inl x1), some (.inl x2), some (.inl x3), some (.inl x4), some (.inl x5), some (.inl x6), o7, o8, o9, o10, none, o12, none] [.inl x6, .inl (24 * x1)] H = _
    refine Eq.trans (e1 hG PT_154 k154_35 _ _ _) ?_
    show G 154 36 [some (.inr (.inr x0)), some (.inl x1), some (.inl x2), some (.inl x3), some (.inl x4), some (.inl x5), some (.inl x6), o7, o8, o9, o10, none, o12, none] [.inl ((24 * x1) + x6)] H = _
    refine Eq.trans (e1 hG PT_154 k154_36 _ _ _) ?_
    show G 154 38 [some (.inr (.inr x0)), some (.inl x1), some (.inl x2), some (.inl x3), some (.inl x4), some (.inl x5), some (.inl x6), some (.inl ((24 * x1) + x6)), o8, o9, o10, none, o12, none] [] H = _
    refine Eq.trans (e1 hG PT_154 k154_38 _ _ _) ?_
    show G 154 40 [some (.inr (.inr x0)), some (.inl x1), some (.inl x2), some (.inl x3), some (.inl x4), some (.inl x5), some (.inl x6), some (.inl ((24 * x1) + x6)), o8, o9, o10, none, o12, none] [.inl x5] H = _
    refine Eq.trans (e1 hG PT_154 k154_40 _ _ _) ?_
    show G 154 41 [some (.inr (.inr x0)), some (.inl x1), some (.inl x2), some (.inl x3), some (.inl x4), some (.inl x5), some (.inl x6), some (.inl ((24 * x1) + x6)), o8, o9, o10, none, o12, none] [.inl 1, .inl x5] H = _
    refine Eq.trans (e1 hG PT_154 k154_41 _ _ _) ?_
    show G 154 42 [some (.inr (.inr x0)), some (.inl x1), some (.inl x2), some (.inl x3), some (.inl x4), some (.inl x5), some (.inl x6), some (.inl ((24 * x1) + x6)), o8, o9, o10, none, o12, none] [.inl (x5 + 1)] H = _
    refine Eq.trans (e1 hG PT_154 k154_42 _ _ _) ?_
    show G 154 44 [some (.inr (.inr x0)), some (.inl x1), some (.inl x2), some (.inl x3), some (.inl x4), some (.inl x5), some (.inl x6), some (.inl ((24 * x1) + x6)), some (.inl (x5 + 1)), o9, o10, none, o12, none] [] H = _
    refine Eq.trans (e1 hG PT_154 k154_44 _ _ _) ?_
    show G 154 45 [some (.inr (.inr x0)), some (.inl x1), some (.inl x2), some (.inl x3), some (.inl x4), some (.inl x5), some (.inl x6), some (.inl ((24 * x1) + x6)), some (.inl (x5 + 1)), o9, o10, none, o12, none] [.inr (.inr x0)] H = _
    refine Eq.trans (e1 hG PT_154 k154_45 _ _ _) ?_
    refine bdc fun r3 => ?_
    show G 154 48 [some (.inr (.inr x0)), some (.inl x1), some (.inl x2), some (.inl x3), some (.inl x4), some (.inl x5), some (.inl x6), some (.inl ((24 * x1) + x6)), some (.inl (x5 + 1)), o9, o10, none, o12, none] [.inr (.inr r3)] H = _
    refine Eq.trans (e1 hG PT_154 k154_48 _ _ _) ?_
    show G 154 50 [some (.inr (.inr x0)), some (.inl x1), some (.inl x2), some (.inl x3), some (.inl x4), some (.inl x5), some (.inl x6), some (.inl ((24 * x1) + x6)), some (.inl (x5 + 1)), o9, o10, none, o12, none] [.inl ((24 * x1) + x6), .inr (.inr r3)] H = _
    refine Eq.trans (e1 hG PT_154 k154_50 _ _ _) ?_
    refine bdc fun i4 => ?_
    show G 154 51 [some (.inr (.inr x0)), some (.inl x1), some (.inl x2), some (.inl x3), some (.inl x4), some (.inl x5), some (.inl x6), some (.inl ((24 * x1) + x6)), some (.inl (x5 + 1)), o9, o10, none, o12, none] [.inl i4] H = _
    refine Eq.trans (e1 hG PT_154 k154_51 _ _ _) ?_
    refine bfc ?_ ?_
    · show G 154 96 [some (.inr (.inr x0)), some (.inl x1), some (.inl x2), some (.inl x3), some (.inl x4), some (.inl x5), some (.inl x6), some (.inl ((24 * x1) + x6)), some (.inl (x5 + 1)), o9, o10, none, o12, none] [] H = _
      refine Eq.trans (e1 hG PT_154 k154_96 _ _ _) ?_
      show G 154 97 [some (.inr (.inr x0)), some (.inl x1), some (.inl x2), some (.inl x3), some (.inl x4), some (.inl x5), some (.inl x6), some (.inl ((24 * x1) + x6)), some (.inl (x5 + 1)), o9, o10, none, o12, none] [.inr (.inr x0)] H = _
      refine Eq.trans (e1 hG PT_154 k154_97 _ _ _) ?_
      show G 154 99 [some (.inr (.inr x0)), some (.inl x1), some (.inl x2), some (.inl x3), some (.inl x4), some (.inl x5), some (.inl x6), some (.inl ((24 * x1) + x6)), some (.inl (x5 + 1)), o9, o10, none, o12, none] [.inl (x5 + 1), .inr (.inr x0)] H = _
      refine Eq.trans (e1 hG PT_154 k154_99 _ _ _) ?_
      refine bfc ?_ ?_
      · refine bdc fun u6 => ?_
        refine bdc fun _ => ?_
        show G 154 102 [some (.inr (.inr x0)), some (.inl x1), some (.inl x2), some (.inl x3), some (.inl x4), some (.inl x5), some (.inl x6), some (.inl ((24 * x1) + x6)), some (.inl (x5 + 1)), o9, o10, none, o12, none] [] u6.2 = _
        refine Eq.trans (e1 hG PT_154 k154_102 _ _ _) ?_
        show G 154 103 [some (.inr (.inr x0)), some (.inl x1), some (.inl x2), some (.inl x3), some (.inl x4), some (.inl x5), some (.inl x6), some (.inl ((24 * x1) + x6)), some (.inl (x5 + 1)), o9, o10, none, o12, none] [.inr (.inr x0)] u6.2 = _
        refine Eq.trans (e1 hG PT_154 k154_103 _ _ _) ?_
        refine bdc fun r7 => ?_
        show G 154 106 [some (.inr (.inr x0)), some (.inl x1), some (.inl x2), some (.inl x3), some (.inl x4), some (.inl x5), some (.inl x6), some (.inl ((24 * x1) + x6)), some (.inl (x5 + 1)), o9, o10, none, o12, none] [.inr (.inr r7)] u6.2 = _
        refine Eq.trans (e1 hG PT_154 k154_106 _ _ _) ?_
        show G 154 109 [some (.inr (.inr x0)), some (.inl x1), some (.inl x2), some (.inl x3), some (.inl x4), some (.inl x5), some (.inl x6), some (.inl ((24 * x1) + x6)), some (.inl (x5 + 1)), o9, o10, none, o12, none] [.inl 252, .inr (.inr r7)] u6.2 = _
        refine Eq.trans (e1 hG PT_154 k154_109 _ _ _) ?_
        show G 154 111 [some (.inr (.inr x0)), some (.inl x1), some (.inl x2), some (.inl x3), some (.inl x4), some (.inl x5), some (.inl x6), some (.inl ((24 * x1) + x6)), some (.inl (x5 + 1)), o9, o10, none, o12, none] [.inl (x5 + 1), .inl 252, .inr (.inr r7)] u6.2 = _
        refine Eq.trans (e1 hG PT_154 k154_111 _ _ _) ?_
        show G 154 112 [some (.inr (.inr x0)), some (.inl x1), some (.inl x2), some (.inl x3), some (.inl x4), some (.inl x5), some (.inl x6), some (.inl ((24 * x1) + x6)), some (.inl (x5 + 1)), o9, o10, none, o12, none] [.inl (252 * (x5 + 1)), .inr (.inr r7)] u6.2 = _
        refine Eq.trans (e1 hG PT_154 k154_112 _ _ _) ?_
        show G 154 115 [some (.inr (.inr x0)), some (.inl x1), some (.inl x2), some (.inl x3), some (.inl x4), some (.inl x5), some (.inl x6), some (.inl ((24 * x1) + x6)), some (.inl (x5 + 1)), o9, o10, none, o12, none] [.inr (.inl 8640), .inl (252 * (x5 + 1)), .inr (.inr r7)] u6.2 = _
        refine Eq.trans (e1 hG PT_154 k154_115 _ _ _) ?_
        show G 154 116 [some (.inr (.inr x0)), some (.inl x1), some (.inl x2), some (.inl x3), some (.inl x4), some (.inl x5), some (.inl x6), some (.inl ((24 * x1) + x6)), some (.inl (x5 + 1)), o9, o10, none, o12, none] [.inr (.inr x0), .inr (.inl 8640), .inl (252 * (x5 + 1)), .inr (.inr r7)] u6.2 = _
        refine Eq.trans (e1 hG PT_154 k154_116 _ _ _) ?_
        refine bdc fun r8 => ?_
        show G 154 119 [some (.inr (.inr x0)), some (.inl x1), some (.inl x2), some (.inl x3), some (.inl x4), some (.inl x5), some (.inl x6), some (.inl ((24 * x1) + x6)), some (.inl (x5 + 1)), o9, o10, none, o12, none] [.inr (.inr r8), .inr (.inl 8640), .inl (252 * (x5 + 1)), .inr (.inr r7)] u6.2 = _
        refine Eq.trans (e1 hG PT_154 k154_119 _ _ _) ?_
        show G 154 121 [some (.inr (.inr x0)), some (.inl x1), some (.inl x2), some (.inl x3), some (.inl x4), some (.inl x5), some (.inl x6), some (.inl ((24 * x1) + x6)), some (.inl (x5 + 1)), o9, o10, none, o12, none] [.inl ((24 * x1) + x6), .inr (.inr r8), .inr (.inl 8640), .inl (252 * (x5 + 1)), .inr (.inr r7)] u6.2 = _
        refine Eq.trans (e1 hG PT_154 k154_121 _ _ _) ?_
        refine bdc fun i9 => ?_
        show G 154 122 [some (.inr (.inr x0)), some (.inl x1), some (.inl x2), some (.inl x3), some (.inl x4), some (.inl x5), some (.inl x6), some (.inl ((24 * x1) + x6)), some (.inl (x5 + 1)), o9, o10, none, o12, none] [.inl i9, .inr (.inl 8640), .inl (252 * (x5 + 1)), .inr (.inr r7)] u6.2 = _
        refine Eq.trans (e1 hG PT_154 k154_122 _ _ _) ?_
        show G 154 123 [some (.inr (.inr x0)), some (.inl x1), some (.inl x2), some (.inl x3), some (.inl x4), some (.inl x5), some (.inl x6), some (.inl ((24 * x1) + x6)), some (.inl (x5 + 1)), o9, o10, none, o12, none] [.inr (.inl i9.toInt64), .inr (.inl 8640), .inl (252 * (x5 + 1)), .inr (.inr r7)] u6.2 = _
        refine Eq.trans (e1 hG PT_154 k154_123 _ _ _) ?_
        show G 154 124 [some (.inr (.inr x0)), some (.inl x1), some (.inl x2), some (.inl x3), some (.inl x4), some (.inl x5), some (.inl x6), some (.inl ((24 * x1) + x6)), some (.inl (x5 + 1)), o9, o10, none, o12, none] [.inr (.inl (8640 * i9.toInt64)), .inl (252 * (x5 + 1)), .inr (.inr r7)] u6.2 = _
        refine Eq.trans (e1 hG PT_154 k154_124 _ _ _) ?_
        refine bdc fun H10 => ?_
        show G 154 125 [some (.inr (.inr x0)), some (.inl x1), some (.inl x2), some (.inl x3), some (.inl x4), some (.inl x5), some (.inl x6), some (.inl ((24 * x1) + x6)), some (.inl (x5 + 1)), o9, o10, none, o12, none] [] H10 = _
        refine Eq.trans (e1 hG PT_154 k154_125 _ _ _) ?_
        show G 154 126 [some (.inr (.inr x0)), some (.inl x1), some (.inl x2), some (.inl x3), some (.inl x4), some (.inl x5), some (.inl x6), some (.inl ((24 * x1) + x6)), some (.inl (x5 + 1)), o9, o10, none, o12, none] [.inr (.inr x0)] H10 = _
        refine Eq.trans (e1 hG PT_154 k154_126 _ _ _) ?_
        show G 154 128 [some (.inr (.inr x0)), some (.inl x1), some (.inl x2), some (.inl x3), some (.inl x4), some (.inl x5), some (.inl x6), some (.inl ((24 * x1) + x6)), some (.inl (x5 + 1)), o9, o10, none, o12, none] [.inl x5, .inr (.inr x0)] H10 = _
        refine Eq.trans (e1 hG PT_154 k154_128 _ _ _) ?_
        show G 154 130 [some (.inr (.inr x0)), some (.inl x1), some (.inl x2), some (.inl x3), some (.inl x4), some (.inl x5), some (.inl x6), some (.inl ((24 * x1) + x6)), some (.inl (x5 + 1)), o9, o10, none, o12, none] [.inl (x5 + 1), .inl x5, .inr (.inr x0)] H10 = _
        refine Eq.trans (e1 hG PT_154 k154_130 _ _ _) ?_
        refine bfc ?_ ?_
        · refine bdc fun u11 => ?_
          refine bdc fun i12 => ?_
          show G 154 133 [some (.inr (.inr x0)), some (.inl x1), some (.inl x2), some (.inl x3), some (.inl x4), some (.inl x5), some (.inl x6), some (.inl ((24 * x1) + x6)), some (.inl (x5 + 1)), o9, o10, none, o12, none] [.inl i12] u11.2 = _
          refine Eq.trans (e1 hG PT_154 k154_133 _ _ _) ?_
          refine bfc ?_ ?_
          · rfl
          · show G 154 136 [some (.inr (.inr x0)), some (.inl x1), some (.inl x2), some (.inl x3), some (.inl x4), some (.inl x5), some (.inl x6), some (.inl ((24 * x1) + x6)), some (.inl (x5 + 1)), o9, o10, none, o12, none] [] u11.2 = _
            refine Eq.trans (e1 hG PT_154 k154_136 _ _ _) ?_
            show G 154 137 [some (.inr (.inr x0)), some (.inl x1), some (.inl x2), some (.inl x3), some (.inl x4), some (.inl x5), some (.inl x6), some (.inl ((24 * x1) + x6)), some (.inl (x5 + 1)), o9, o10, none, o12, none] [.inl 0] u11.2 = _
            exact e1 hG PT_154 k154_137 _ _ _
        · rfl
      · rfl
    · refine bfc ?_ ?_
      · rfl
      · refine bfc ?_ ?_
        · rfl
        · refine bfc ?_ ?_
          · rfl
          · refine bfc ?_ ?_
            · rfl
            · refine bfc ?_ ?_
              · show G 154 202 [some (.inr (.inr x0)), some (.inl x1), some (.inl x2), some (.inl x3), some (.inl x4), some (.inl x5), some (.inl x6), some (.inl ((24 * x1) + x6)), some (.inl (x5 + 1)), o9, o10, none, o12, none] [] H = _
                refine Eq.trans (e1 hG PT_154 k154_202 _ _ _) ?_
                show G 154 205 [some (.inr (.inr x0)), some (.inl x1), some (.inl x2), some (.inl (x3 + (-1))), some (.inl x4), some (.inl x5), some (.inl x6), some (.inl ((24 * x1) + x6)), some (.inl (x5 + 1)), o9, o10, none, o12, none] [] H = _
                refine Eq.trans (e1 hG PT_154 k154_205 _ _ _) ?_
                rfl
              · refine bfc ?_ ?_
                · show G 154 190 [some (.inr (.inr x0)), some (.inl x1), some (.inl x2), some (.inl x3), some (.inl x4), some (.inl x5), some (.inl x6), some (.inl ((24 * x1) + x6)), some (.inl (x5 + 1)), o9, o10, none, o12, none] [] H = _
                  refine Eq.trans (e1 hG PT_154 k154_190 _ _ _) ?_
                  show G 154 193 [some (.inr (.inr x0)), some (.inl x1), some (.inl x2), some (.inl x3), some (.inl x4), some (.inl (x5 + 1)), some (.inl x6), some (.inl ((24 * x1) + x6)), some (.inl (x5 + 1)), o9, o10, none, o12, none] [] H = _
                  refine Eq.trans (e1 hG PT_154 k154_193 _ _ _) ?_
                  show G 154 194 [some (.inr (.inr x0)), some (.inl x1), some (.inl x2), some (.inl x3), some (.inl x4), some (.inl (x5 + 1)), some (.inl x6), some (.inl ((24 * x1) + x6)), some (.inl (x5 + 1)), o9, o10, none, o12, none] [.inr (.inr x0)] H = _
                  refine Eq.trans (e1 hG PT_154 k154_194 _ _ _) ?_
                  show G 154 196 [some (.inr (.inr x0)), some (.inl x1), some (.inl x2), some (.inl x3), some (.inl x4), some (.inl (x5 + 1)), some (.inl x6), some (.inl ((24 * x1) + x6)), some (.inl (x5 + 1)), o9, o10, none, o12, none] [.inl (x5 + 1), .inr (.inr x0)] H = _
                  refine Eq.trans (e1 hG PT_154 k154_196 _ _ _) ?_
                  refine bfc ?_ ?_
                  · refine bdc fun u5 => ?_
                    refine bdc fun _ => ?_
                    show G 154 199 [some (.inr (.inr x0)), some (.inl x1), some (.inl x2), some (.inl x3), some (.inl x4), some (.inl (x5 + 1)), some (.inl x6), some (.inl ((24 * x1) + x6)), some (.inl (x5 + 1)), o9, o10, none, o12, none] [] u5.2 = _
                    refine Eq.trans (e1 hG PT_154 k154_199 _ _ _) ?_
                    rfl
                  · rfl
                · refine bfc ?_ ?_
                  · show G 154 270 [some (.inr (.inr x0)), some (.inl x1), some (.inl x2), some (.inl x3), some (.inl x4), some (.inl x5), some (.inl x6), some (.inl ((24 * x1) + x6)), some (.inl (x5 + 1)), o9, o10, none, o12, none] [] H = _
                    refine Eq.trans (e1 hG PT_154 k154_270 _ _ _) ?_
                    rfl
                  · rfl
set_option maxRecDepth 100000 in
theorem b154_138 {G : AG} (hG : FIX G) (x0 : Nat) (x1 : Int32) (x2 : Int32) (x3 : Int32) (x4 : Int32) (x5 : Int32) (x6 : Int32) (x7 : Int32) (x8 : Int32) (o9 : Option AV) (o10 : Option AV) (o12 : Option AV) (H : Hp) : G 154 138 [some (.inr (.inr x0)), some (.inl x1), some (.inl x2), some (.inl x3), some (.inl x4), some (.inl x5), some (.inl x6), some (.inl x7), some (.inl x8), o9, o10, none, o12, none] [] H = ((hgR H x0 74).bind fun r1 => (hSI H r1 x3 x7).bind fun H2 => (hgR H2 x0 75).bind fun r3 => (hSI H2 r3 x3 x5).bind fun H4 => (hgR H4 x0 52).bind fun r5 => (hAI H4 r5 x7).bind fun i6 => bif decide ((i6 : Int32) ≠ (3 : Int32)) then G 154 175 [some (.inr (.inr x0)), some (.inl x1), some (.inl x2), some (.inl (x3 + 1)), some (.inl x4), some (.inl x5), some (.inl x6), some (.inl x7), some (.inl x8), o9, o10, none, o12, none] [.inl 0, .inl x4] H4 else G 154 175 [some (.inr (.inr x0)), some (.inl x1), some (.inl x2), some (.inl (x3 + 1)), some (.inl x4), some (.inl x5), some (.inl x6), some (.inl x7), some (.inl x8), o9, o10, none, o12, none] [.inl 1, .inl x4] H4) := by
  refine Eq.trans (e1 hG PT_154 k154_138 _ _ _) ?_
  show G 154 139 [some (.inr (.inr x0)), some (.inl x1), some (.inl x2), some (.inl x3), some (.inl x4), some (.inl x5), some (.inl x6), some (.inl x7), some (.inl x8), o9, o10, none, o12, none] [.inr (.inr x0)] H = _
  refine Eq.trans (e1 hG PT_154 k154_139 _ _ _) ?_
  refine bdc fun r1 => ?_
  show G 154 142 [some (.inr (.inr x0)), some (.inl x1), some (.inl x2), some (.inl x3), some (.inl x4), some (.inl x5), some (.inl x6), some (.inl x7), some (.inl x8), o9, o10, none, o12, none] [.inr (.inr r1)] H = _
  refine Eq.trans (e1 hG PT_154 k154_142 _ _ _) ?_
  show G 154 143 [some (.inr (.inr x0)), some (.inl x1), some (.inl x2), some (.inl x3), some (.inl x4), some (.inl x5), some (.inl x6), some (.inl x7), some (.inl x8), o9, o10, none, o12, none] [.inl x3, .inr (.inr r1)] H = _
  refine Eq.trans (e1 hG PT_154 k154_143 _ _ _) ?_
  show G 154 145 [some (.inr (.inr x0)), some (.inl x1), some (.inl x2), some (.inl x3), some (.inl x4), some (.inl x5), some (.inl x6), some (.inl x7), some (.inl x8), o9, o10, none, o12, none] [.inl x7, .inl x3, .inr (.inr r1)] H = _
  refine Eq.trans (e1 hG PT_154 k154_145 _ _ _) ?_
  refine bdc fun H2 => ?_
  show G 154 146 [some (.inr (.inr x0)), some (.inl x1), some (.inl x2), some (.inl x3), some (.inl x4), some (.inl x5), some (.inl x6), some (.inl x7), some (.inl x8), o9, o10, none, o12, none] [] H2 = _
  refine Eq.trans (e1 hG PT_154 k154_146 _ _ _) ?_
  show G 154 147 [some (.inr (.inr x0)), some (.inl x1), some (.inl x2), some (.inl x3), some (.inl x4), some (.inl x5), some (.inl x6), some (.inl x7), some (.inl x8), o9, o10, none, o12, none] [.inr (.inr x0)] H2 = _
  refine Eq.trans (e1 hG PT_154 k154_147 _ _ _) ?_
  refine bdc fun r3 => ?_
  show G 154 150 [some (.inr (.inr x0)), some (.inl x1), some (.inl x2), some (.inl x3), some (.inl x4), some (.inl x5), some (.inl x6), some (.inl x7), some (.inl x8), o9, o10, none, o12, none] [.inr (.inr r3)] H2 = _
  refine Eq.trans (e1 hG PT_154 k154_150 _ _ _) ?_
  show G 154 151 [some (.inr (.inr x0)), some (.inl x1), some (.inl x2), some (.inl x3), some (.inl x4), some (.inl x5), some (.inl x6), some (.inl x7), some (.inl x8), o9, o10, none, o12, none] [.inl x3, .inr (.inr r3)] H2 = _
  refine Eq.trans (e1 hG PT_154 k154_151 _ _ _) ?_
  show G 154 153 [some (.inr (.inr x0)), some (.inl x1), some (.inl x2), some (.inl x3), some (.inl x4), some (.inl x5), some (.inl x6), some (.inl x7), some (.inl x8), o9, o10, none, o12, none] [.inl x5, .inl x3, .inr (.inr r3)] H2 = _
  refine Eq.trans (e1 hG PT_154 k154_153 _ _ _) ?_
  refine bdc fun H4 => ?_
  show G 154 154 [some (.inr (.inr x0)), some (.inl x1), some (.inl x2), some (.inl x3), some (.inl x4), some (.inl x5), some (.inl x6), some (.inl x7), some (.inl x8), o9, o10, none, o12, none] [] H4 = _
  refine Eq.trans (e1 hG PT_154 k154_154 _ _ _) ?_
  show G 154 157 [some (.inr (.inr x0)), some (.inl x1), some (.inl x2), some (.inl (x3 + 1)), some (.inl x4), some (.inl x5), some (.inl x6), some (.inl x7), some (.inl x8), o9, o10, none, o12, none] [] H4 = _
  refine Eq.trans (e1 hG PT_154 k154_157 _ _ _) ?_
  show G 154 159 [some (.inr (.inr x0)), some (.inl x1), some (.inl x2), some (.inl (x3 + 1)), some (.inl x4), some (.inl x5), some (.inl x6), some (.inl x7), some (.inl x8), o9, o10, none, o12, none] [.inl x4] H4 = _
  refine Eq.trans (e1 hG PT_154 k154_159 _ _ _) ?_
  show G 154 160 [some (.inr (.inr x0)), some (.inl x1), some (.inl x2), some (.inl (x3 + 1)), some (.inl x4), some (.inl x5), some (.inl x6), some (.inl x7), some (.inl x8), o9, o10, none, o12, none] [.inr (.inr x0), .inl x4] H4 = _
  refine Eq.trans (e1 hG PT_154 k154_160 _ _ _) ?_
  refine bdc fun r5 => ?_
  show G 154 163 [some (.inr (.inr x0)), some (.inl x1), some (.inl x2), some (.inl (x3 + 1)), some (.inl x4), some (.inl x5), some (.inl x6), some (.inl x7), some (.inl x8), o9, o10, none, o12, none] [.inr (.inr r5), .inl x4] H4 = _
  refine Eq.trans (e1 hG PT_154 k154_163 _ _ _) ?_
  show G 154 165 [some (.inr (.inr x0)), some (.inl x1), some (.inl x2), some (.inl (x3 + 1)), some (.inl x4), some (.inl x5), some (.inl x6), some (.inl x7), some (.inl x8), o9, o10, none, o12, none] [.inl x7, .inr (.inr r5), .inl x4] H4 = _
  refine Eq.trans (e1 hG PT_154 k154_165 _ _ _) ?_
  refine bdc fun i6 => ?_
  show G 154 166 [some (.inr (.inr x0)), some (.inl x1), some (.inl x2), some (.inl (x3 + 1)), some (.inl x4), some (.inl x5), some (.inl x6), some (.inl x7), some (.inl x8), o9, o10, none, o12, none] [.inl i6, .inl x4] H4 = _
  refine Eq.trans (e1 hG PT_154 k154_166 _ _ _) ?_
  show G 154 167 [some (.inr (.inr x0)), some (.inl x1), some (.inl x2), some (.inl (x3 + 1)), some (.inl x4), some (.inl x5), some (.inl x6), some (.inl x7), some (.inl x8), o9, o10, none, o12, none] [.inl 3, .inl i6, .inl x4] H4 = _
  refine Eq.trans (e1 hG PT_154 k154_167 _ _ _) ?_
  refine bfc ?_ ?_
  · show G 154 174 [some (.inr (.inr x0)), some (.inl x1), some (.inl x2), some (.inl (x3 + 1)), some (.inl x4), some (.inl x5), some (.inl x6), some (.inl x7), some (.inl x8), o9, o10, none, o12, none] [.inl x4] H4 = _
    refine Eq.trans (e1 hG PT_154 k154_174 _ _ _) ?_
    rfl
  · show G 154 170 [some (.inr (.inr x0)), some (.inl x1), some (.inl x2), some (.inl (x3 + 1)), some (.inl x4), some (.inl x5), some (.inl x6), some (.inl x7), some (.inl x8), o9, o10, none, o12, none] [.inl x4] H4 = _
    refine Eq.trans (e1 hG PT_154 k154_170 _ _ _) ?_
    show G 154 171 [some (.inr (.inr x0)), some (.inl x1), some (.inl x2), some (.inl (x3 + 1)), some (.inl x4), some (.inl x5), some (.inl x6), some (.inl x7), some (.inl x8), o9, o10, none, o12, none] [.inl 1, .inl x4] H4 = _
    refine Eq.trans (e1 hG PT_154 k154_171 _ _ _) ?_
    rfl
set_option maxRecDepth 100000 in
theorem b154_175 {G : AG} (hG : FIX G) (x0 : Nat) (x1 : Int32) (x2 : Int32) (x3 : Int32) (x4 : Int32) (x5 : Int32) (x6 : Int32) (x7 : Int32) (x8 : Int32) (o9 : Option AV) (o10 : Option AV) (o12 : Option AV) (s0 : Int32) (s1 : Int32) (H : Hp) : G 154 175 [some (.inr (.inr x0)), some (.inl x1), some (.inl x2), some (.inl x3), some (.inl x4), some (.inl x5), some (.inl x6), some (.inl x7), some (.inl x8), o9, o10, none, o12, none] [.inl s0, .inl s1] H = (bif Nat.beq (H.1 x0).1 12 then (G 155 0 [some (.inr (.inr x0)), some (.inl ((x5 + 1))), none] [] H).bind fun u1 => (asV u1.1).bind fun _ => G 154 478 [some (.inr (.inr x0)), some (.inl x1), some (.inl x2), some (.inl x3), some (.inl (s1 + s0)), some (.inl (x5 + 1)), some (.inl x6), some (.inl x7), some (.inl x8), o9, o10, none, o12, none] [] u1.2 else none) := by
  refine Eq.trans (e1 hG PT_154 k154_175 _ _ _) ?_
  show G 154 176 [some (.inr (.inr x0)), some (.inl x1), some (.inl x2), some (.inl x3), some (.inl x4), some (.inl x5), some (.inl x6), some (.inl x7), some (.inl x8), o9, o10, none, o12, none] [.inl (s1 + s0)] H = _
  refine Eq.trans (e1 hG PT_154 k154_176 _ _ _) ?_
  show G 154 178 [some (.inr (.inr x0)), some (.inl x1), some (.inl x2), some (.inl x3), some (.inl (s1 + s0)), some (.inl x5), some (.inl x6), some (.inl x7), some (.inl x8), o9, o10, none, o12, none] [] H = _
  refine Eq.trans (e1 hG PT_154 k154_178 _ _ _) ?_
  show G 154 181 [some (.inr (.inr x0)), some (.inl x1), some (.inl x2), some (.inl x3), some (.inl (s1 + s0)), some (.inl (x5 + 1)), some (.inl x6), some (.inl x7), some (.inl x8), o9, o10, none, o12, none] [] H = _
  refine Eq.trans (e1 hG PT_154 k154_181 _ _ _) ?_
  show G 154 182 [some (.inr (.inr x0)), some (.inl x1), some (.inl x2), some (.inl x3), some (.inl (s1 + s0)), some (.inl (x5 + 1)), some (.inl x6), some (.inl x7), some (.inl x8), o9, o10, none, o12, none] [.inr (.inr x0)] H = _
  refine Eq.trans (e1 hG PT_154 k154_182 _ _ _) ?_
  show G 154 184 [some (.inr (.inr x0)), some (.inl x1), some (.inl x2), some (.inl x3), some (.inl (s1 + s0)), some (.inl (x5 + 1)), some (.inl x6), some (.inl x7), some (.inl x8), o9, o10, none, o12, none] [.inl (x5 + 1), .inr (.inr x0)] H = _
  refine Eq.trans (e1 hG PT_154 k154_184 _ _ _) ?_
  refine bfc ?_ ?_
  · refine bdc fun u1 => ?_
    refine bdc fun _ => ?_
    show G 154 187 [some (.inr (.inr x0)), some (.inl x1), some (.inl x2), some (.inl x3), some (.inl (s1 + s0)), some (.inl (x5 + 1)), some (.inl x6), some (.inl x7), some (.inl x8), o9, o10, none, o12, none] [] u1.2 = _
    refine Eq.trans (e1 hG PT_154 k154_187 _ _ _) ?_
    rfl
  · rfl
set_option maxRecDepth 100000 in
theorem b154_208 {G : AG} (hG : FIX G) (x0 : Nat) (x1 : Int32) (x2 : Int32) (x3 : Int32) (x4 : Int32) (x5 : Int32) (x6 : Int32) (x7 : Int32) (x8 : Int32) (o9 : Option AV) (o10 : Option AV) (o12 : Option AV) (H : Hp) : G 154 208 [some (.inr (.inr x0)), some (.inl x1), some (.inl x2), some (.inl x3), some (.inl x4), some (.inl x5), some (.inl x6), some (.inl x7), some (.inl x8), o9, o10, none, o12, none] [] H = ((hgR H x0 67).bind fun r1 => (hAJ H r1 ((252 * x5))).bind fun j2 => (hSJ H r1 ((252 * x5)) ((j2 + 8640))).bind fun H3 => (hgR H3 x0 74).bind fun r4 => (hAI H3 r4 x3).bind fun i5 => bif Nat.beq (H3.1 x0).1 12 then (G 158 0 [some (.inr (.inr x0)), some (.inl x5), some (.inl i5), some (.inl x4), none, none, none, none, none, none, none, none, none, none, none, none, none, none] [] H3).bind fun u6 => (asI u6.1).bind fun i7 => bif decide ((i7 : Int32) = 0) then G 154 257 [some (.inr (.inr x0)), some (.inl x1), some (.inl x2), some (.inl x3), some (.inl x4), some (.inl x5), some (.inl x6), some (.inl x7), some (.inl x8), o9, o10, none, o12, none] [] u6.2 else (hgR u6.2 x0 75).bind fun r8 => (hAI u6.2 r8 x3).bind fun i9 => bif Nat.beq (u6.2.1 x0).1 12 then (G 156 0 [some (.inr (.inr x0)), some (.inl i9), some (.inl x5), none] [] u6.2).bind fun u10 => (asI u10.1).bind fun i11 => bif decide ((i11 : Int32) ≠ 0) then (hgR u10.2 x0 75).bind fun r12 => (hAI u10.2 r12 x3).bind fun i13 => G 154 478 [some (.inr (.inr x0)), some (.inl x1), some (.inl x2), some (.inl x3), some (.inl x4), some (.inl i13), some (.inl x6), some (.inl x7), some (.inl x8), o9, o10, none, o12, none] [] u10.2 else G 154 257 [some (.inr (.inr x0)), some (.inl x1), some (.inl x2), some (.inl x3), some (.inl x4), some (.inl x5), some (.inl x6), some (.inl x7), some (.inl x8), o9, o10, none, o12, none] [] u10.2 else none else none) := by
  refine Eq.trans (e1 hG PT_154 k154_208 _ _ _) ?_
  show G 154 209 [some (.inr (.inr x0)), some (.inl x1), some (.inl x2), some (.inl x3), some (.inl x4), some (.inl x5), some (.inl x6), some (.inl x7), some (.inl x8), o9, o10, none, o12, none] [.inr (.inr x0)] H = _
  refine Eq.trans (e1 hG PT_154 k154_209 _ _ _) ?_
  refine bdc fun r1 => ?_
  show G 154 212 [some (.inr (.inr x0)), some (.inl x1), some (.inl x2), some (.inl x3), some (.inl x4), some (.inl x5), some (.inl x6), some (.inl x7), some (.inl x8), o9, o10, none, o12, none] [.inr (.inr r1)] H = _
  refine Eq.trans (e1 hG PT_154 k154_212 _ _ _) ?_
  show G 154 215 [some (.inr (.inr x0)), some (.inl x1), some (.inl x2), some (.inl x3), some (.inl x4), some (.inl x5), some (.inl x6), some (.inl x7), some (.inl x8), o9, o10, none, o12, none] [.inl 252, .inr (.inr r1)] H = _
  refine Eq.trans (e1 hG PT_154 k154_215 _ _ _) ?_
  show G 154 217 [some (.inr (.inr x0)), some (.inl x1), some (.inl x2), some (.inl x3), some (.inl x4), some (.inl x5), some (.inl x6), some (.inl x7), some (.inl x8), o9, o10, none, o12, none] [.inl x5, .inl 252, .inr (.inr r1)] H = _
  refine Eq.trans (e1 hG PT_154 k154_217 _ _ _) ?_
  show G 154 218 [some (.inr (.inr x0)), some (.inl x1), some (.inl x2), some (.inl x3), some (.inl x4), some (.inl x5), some (.inl x6), some (.inl x7), some (.inl x8), o9, o10, none, o12, none] [.inl (252 * x5), .inr (.inr r1)] H = _
  refine Eq.trans (e1 hG PT_154 k154_218 _ _ _) ?_
  show G 154 219 [some (.inr (.inr x0)), some (.inl x1), some (.inl x2), some (.inl x3), some (.inl x4), some (.inl x5), some (.inl x6), some (.inl x7), some (.inl x8), o9, o10, none, o12, none] [.inl (252 * x5), .inr (.inr r1), .inl (252 * x5), .inr (.inr r1)] H = _
  refine Eq.trans (e1 hG PT_154 k154_219 _ _ _) ?_
  refine bdc fun j2 => ?_
  show G 154 220 [some (.inr (.inr x0)), some (.inl x1), some (.inl x2), some (.inl x3), some (.inl x4), some (.inl x5), some (.inl x6), some (.inl x7), some (.inl x8), o9, o10, none, o12, none] [.inr (.inl j2), .inl (252 * x5), .inr (.inr r1)] H = _
  refine Eq.trans (e1 hG PT_154 k154_220 _ _ _) ?_
  show G 154 223 [some (.inr (.inr x0)), some (.inl x1), some (.inl x2), some (.inl x3), some (.inl x4), some (.inl x5), some (.inl x6), some (.inl x7), some (.inl x8), o9, o10, none, o12, none] [.inr (.inl 8640), .inr (.inl j2), .inl (252 * x5), .inr (.inr r1)] H = _
  refine Eq.trans (e1 hG PT_154 k154_223 _ _ _) ?_
  show G 154 224 [some (.inr (.inr x0)), some (.inl x1), some (.inl x2), some (.inl x3), some (.inl x4), some (.inl x5), some (.inl x6), some (.inl x7), some (.inl x8), o9, o10, none, o12, none] [.inr (.inl (j2 + 8640)), .inl (252 * x5), .inr (.inr r1)] H = _
  refine Eq.trans (e1 hG PT_154 k154_224 _ _ _) ?_
  refine bdc fun H3 => ?_
  show G 154 225 [some (.inr (.inr x0)), some (.inl x1), some (.inl x2), some (.inl x3), some (.inl x4), some (.inl x5), some (.inl x6), some (.inl x7), some (.inl x8), o9, o10, none, o12, none] [] H3 = _
  refine Eq.trans (e1 hG PT_154 k154_225 _ _ _) ?_
  show G 154 226 [some (.inr (.inr x0)), some (.inl x1), some (.inl x2), some (.inl x3), some (.inl x4), some (.inl x5), some (.inl x6), some (.inl x7), some (.inl x8), o9, o10, none, o12, none] [.inr (.inr x0)] H3 = _
  refine Eq.trans (e1 hG PT_154 k154_226 _ _ _) ?_
  show G 154 228 [some (.inr (.inr x0)), some (.inl x1), some (.inl x2), some (.inl x3), some (.inl x4), some (.inl x5), some (.inl x6), some (.inl x7), some (.inl x8), o9, o10, none, o12, none] [.inl x5, .inr (.inr x0)] H3 = _
  refine Eq.trans (e1 hG PT_154 k154_228 _ _ _) ?_
  show G 154 229 [some (.inr (.inr x0)), some (.inl x1), some (.inl x2), some (.inl x3), some (.inl x4), some (.inl x5), some (.inl x6), some (.inl x7), some (.inl x8), o9, o10, none, o12, none] [.inr (.inr x0), .inl x5, .inr (.inr x0)] H3 = _
  refine Eq.trans (e1 hG PT_154 k154_229 _ _ _) ?_
  refine bdc fun r4 => ?_
  show G 154 232 [some (.inr (.inr x0)), some (.inl x1), some (.inl x2), some (.inl x3), some (.inl x4), some (.inl x5), some (.inl x6), some (.inl x7), some (.inl x8), o9, o10, none, o12, none] [.inr (.inr r4), .inl x5, .inr (.inr x0)] H3 = _
  refine Eq.trans (e1 hG PT_154 k154_232 _ _ _) ?_
  show G 154 233 [some (.inr (.inr x0)), some (.inl x1), some (.inl x2), some (.inl x3), some (.inl x4), some (.inl x5), some (.inl x6), some (.inl x7), some (.inl x8), o9, o10, none, o12, none] [.inl x3, .inr (.inr r4), .inl x5, .inr (.inr x0)] H3 = _
  refine Eq.trans (e1 hG PT_154 k154_233 _ _ _) ?_
  refine bdc fun i5 => ?_
  show G 154 234 [some (.inr (.inr x0)), some (.inl x1), some (.inl x2), some (.inl x3), some (.inl x4), some (.inl x5), some (.inl x6), some (.inl x7), some (.inl x8), o9, o10, none, o12, none] [.inl i5, .inl x5, .inr (.inr x0)] H3 = _
  refine Eq.trans (e1 hG PT_154 k154_234 _ _ _) ?_
  show G 154 236 [some (.inr (.inr x0)), some (.inl x1), some (.inl x2), some (.inl x3), some (.inl x4), some (.inl x5), some (.inl x6), some (.inl x7), some (.inl x8), o9, o10, none, o12, none] [.inl x4, .inl i5, .inl x5, .inr (.inr x0)] H3 = _
  refine Eq.trans (e1 hG PT_154 k154_236 _ _ _) ?_
  refine bfc ?_ ?_
  · refine bdc fun u6 => ?_
    refine bdc fun i7 => ?_
    show G 154 239 [some (.inr (.inr x0)), some (.inl x1), some (.inl x2), some (.inl x3), some (.inl x4), some (.inl x5), some (.inl x6), some (.inl x7), some (.inl x8), o9, o10, none, o12, none] [.inl i7] u6.2 = _
    refine Eq.trans (e1 hG PT_154 k154_239 _ _ _) ?_
    refine bfc ?_ ?_
    · rfl
    · show G 154 242 [some (.inr (.inr x0)), some (.inl x1), some (.inl x2), some (.inl x3), some (.inl x4), some (.inl x5), some (.inl x6), some (.inl x7), some (.inl x8), o9, o10, none, o12, none] [] u6.2 = _
      refine Eq.trans (e1 hG PT_154 k154_242 _ _ _) ?_
      show G 154 243 [some (.inr (.inr x0)), some (.inl x1), some (.inl x2), some (.inl x3), some (.inl x4), some (.inl x5), some (.inl x6), some (.inl x7), some (.inl x8), o9, o10, none, o12, none] [.inr (.inr x0)] u6.2 = _
      refine Eq.trans (e1 hG PT_154 k154_243 _ _ _) ?_
      show G 154 244 [some (.inr (.inr x0)), some (.inl x1), some (.inl x2), some (.inl x3), some (.inl x4), some (.inl x5), some (.inl x6), some (.inl x7), some (.inl x8), o9, o10, none, o12, none] [.inr (.inr x0), .inr (.inr x0)] u6.2 = _
      refine Eq.trans (e1 hG PT_154 k154_244 _ _ _) ?_
      refine bdc fun r8 => ?_
      show G 154 247 [some (.inr (.inr x0)), some (.inl x1), some (.inl x2), some (.inl x3), some (.inl x4), some (.inl x5), some (.inl x6), some (.inl x7), some (.inl x8), o9, o10, none, o12, none] [.inr (.inr r8), .inr (.inr x0)] u6.2 = _
      refine Eq.trans (e1 hG PT_154 k154_247 _ _ _) ?_
      show G 154 248 [some (.inr (.inr x0)), some (.inl x1), some (.inl x2), some (.inl x3), some (.inl x4), some (.inl x5), some (.inl x6), some (.inl x7), some (.inl x8), o9, o10, none, o12, none] [.inl x3, .inr (.inr r8), .inr (.inr x0)] u6.2 = _
      refine Eq.trans (e1 hG PT_154 k154_248 _ _ _) ?_
      refine bdc fun i9 => ?_
      show G 154 249 [some (.inr (.inr x0)), some (.inl x1), some (.inl x2), some (.inl x3), some (.inl x4), some (.inl x5), some (.inl x6), some (.inl x7), some (.inl x8), o9, o10, none, o12, none] [.inl i9, .inr (.inr x0)] u6.2 = _
      refine Eq.trans (e1 hG PT_154 k154_249 _ _ _) ?_
      show G 154 251 [some (.inr (.inr x0)), some (.inl x1), some (.inl x2), some (.inl x3), some (.inl x4), some (.inl x5), some (.inl x6), some (.inl x7), some (.inl x8), o9, o10, none, o12, none] [.inl x5, .inl i9, .inr (.inr x0)] u6.2 = _
      refine Eq.trans (e1 hG PT_154 k154_251 _ _ _) ?_
      refine bfc ?_ ?_
      · refine bdc fun u10 => ?_
        refine bdc fun i11 => ?_
        show G 154 254 [some (.inr (.inr x0)), some (.inl x1), some (.inl x2), some (.inl x3), some (.inl x4), some (.inl x5), some (.inl x6), some (.inl x7), some (.inl x8), o9, o10, none, o12, none] [.inl i11] u10.2 = _
        refine Eq.trans (e1 hG PT_154 k154_254 _ _ _) ?_
        refine bfc ?_ ?_
        · show G 154 259 [some (.inr (.inr x0)), some (.inl x1), some (.inl x2), some (.inl x3), some (.inl x4), some (.inl x5), some (.inl x6), some (.inl x7), some (.inl x8), o9, o10, none, o12, none] [] u10.2 = _
          refine Eq.trans (e1 hG PT_154 k154_259 _ _ _) ?_
          show G 154 260 [some (.inr (.inr x0)), some (.inl x1), some (.inl x2), some (.inl x3), some (.inl x4), some (.inl x5), some (.inl x6), some (.inl x7), some (.inl x8), o9, o10, none, o12, none] [.inr (.inr x0)] u10.2 = _
          refine Eq.trans (e1 hG PT_154 k154_260 _ _ _) ?_
          refine bdc fun r12 => ?_
          show G 154 263 [some (.inr (.inr x0)), some (.inl x1), some (.inl x2), some (.inl x3), some (.inl x4), some (.inl x5), some (.inl x6), some (.inl x7), some (.inl x8), o9, o10, none, o12, none] [.inr (.inr r12)] u10.2 = _
          refine Eq.trans (e1 hG PT_154 k154_263 _ _ _) ?_
          show G 154 264 [some (.inr (.inr x0)), some (.inl x1), some (.inl x2), some (.inl x3), some (.inl x4), some (.inl x5), some (.inl x6), some (.inl x7), some (.inl x8), o9, o10, none, o12, none] [.inl x3, .inr (.inr r12)] u10.2 = _
          refine Eq.trans (e1 hG PT_154 k154_264 _ _ _) ?_
          refine bdc fun i13 => ?_
          show G 154 265 [some (.inr (.inr x0)), some (.inl x1), some (.inl x2), some (.inl x3), some (.inl x4), some (.inl x5), some (.inl x6), some (.inl x7), some (.inl x8), o9, o10, none, o12, none] [.inl i13] u10.2 = _
          refine Eq.trans (e1 hG PT_154 k154_265 _ _ _) ?_
          show G 154 267 [some (.inr (.inr x0)), some (.inl x1), some (.inl x2), some (.inl x3), some (.inl x4), some (.inl i13), some (.inl x6), some (.inl x7), some (.inl x8), o9, o10, none, o12, none] [] u10.2 = _
          refine Eq.trans (e1 hG PT_154 k154_267 _ _ _) ?_
          rfl
        · rfl
      · rfl
  · rfl
set_option maxRecDepth 100000 in
theorem b154_257 {G : AG} (hG : FIX G) (x0 : Nat) (x1 : Int32) (x2 : Int32) (x3 : Int32) (x4 : Int32) (x5 : Int32) (x6 : Int32) (x7 : Int32) (x8 : Int32) (o9 : Option AV) (o10 : Option AV) (o12 : Option AV) (H : Hp) : G 154 257 [some (.inr (.inr x0)), some (.inl x1), some (.inl x2), some (.inl x3), some (.inl x4), some (.inl x5), some (.inl x6), some (.inl x7), some (.inl x8), o9, o10, none, o12, none] [] H = (retZ 0 H) := by
  refine Eq.trans (e1 hG PT_154 k154_257 _ _ _) ?_
  show G 154 258 [some (.inr (.inr x0)), some (.inl x1), some (.inl x2), some (.inl x3), some (.inl x4), some (.inl x5), some (.inl x6), some (.inl x7), some (.inl x8), o9, o10, none, o12, none] [.inl 0] H = _
  exact e1 hG PT_154 k154_258 _ _ _
set_option maxRecDepth 100000 in
theorem b154_273 {G : AG} (hG : FIX G) (x0 : Nat) (x1 : Int32) (x2 : Int32) (x3 : Int32) (x4 : Int32) (x5 : Int32) (x6 : Int32) (x7 : Int32) (x8 : Int32) (o9 : Option AV) (o10 : Option AV) (o12 : Option AV) (H : Hp) : G 154 273 [some (.inr (.inr x0)), some (.inl x1), some (.inl x2), some (.inl x3), some (.inl x4), some (.inl x5), some (.inl x6), some (.inl x7), some (.inl x8), o9, o10, none, o12, none] [] H = (G 154 276 [some (.inr (.inr x0)), some (.inl x1), some (.inl x2), some (.inl x3), some (.inl x4), some (.inl x5), some (.inl x6), some (.inl x7), some (.inl x8), some (.inl 0), o10, none, o12, none] [] H) := by
  refine Eq.trans (e1 hG PT_154 k154_273 _ _ _) ?_
  show G 154 274 [some (.inr (.inr x0)), some (.inl x1), some (.inl x2), some (.inl x3), some (.inl x4), some (.inl x5), some (.inl x6), some (.inl x7), some (.inl x8), o9, o10, none, o12, none] [.inl 0] H = _
  refine Eq.trans (e1 hG PT_154 k154_274 _ _ _) ?_
  rfl
set_option maxRecDepth 100000 in
theorem b154_276 {G : AG} (hG : FIX G) (x0 : Nat) (x1 : Int32) (x2 : Int32) (x3 : Int32) (x4 : Int32) (x5 : Int32) (x6 : Int32) (x7 : Int32) (x8 : Int32) (x9 : Int32) (o10 : Option AV) (o12 : Option AV) (H : Hp) : G 154 276 [some (.inr (.inr x0)), some (.inl x1), some (.inl x2), some (.inl x3), some (.inl x4), some (.inl x5), some (.inl x6), some (.inl x7), some (.inl x8), some (.inl x9), o10, none, o12, none] [] H = (bif decide ((252 : Int32) ≤ (x9 : Int32)) then (hgR H x0 67).bind fun r1 => (hAJ H r1 ((252 * x5))).bind fun j2 => (hSJ H r1 ((252 * x5)) ((j2 + 8640))).bind fun H3 => (hgR H3 x0 75).bind fun r4 => (hAI H3 r4 x3).bind fun i5 => bif Nat.beq (H3.1 x0).1 12 then (G 156 0 [some (.inr (.inr x0)), some (.inl i5), some (.inl x5), none] [] H3).bind fun u6 => (asI u6.1).bind fun i7 => bif decide ((i7 : Int32) ≠ 0) then (hgR u6.2 x0 75).bind fun r8 => (hAI u6.2 r8 x3).bind fun i9 => G 154 478 [some (.inr (.inr x0)), some (.inl x1), some (.inl x2), some (.inl x3), some (.inl x4), some (.inl i9), some (.inl x6), some (.inl x7), some (.inl x8), some (.inl x9), o10, none, o12, none] [] u6.2 else retZ 0 u6.2 else none else (hgR H x0 67).bind fun r10 => (hAJ H r10 (((252 * (x5 - 1)) + x9))).bind fun j11 => (hgR H x0 67).bind fun r12 => (hAJ H r12 (((252 * x5) + x9))).bind fun j13 => (hgR H x0 67).bind fun r14 => bif decide (((lg_cmp j11 j13) : Int32) ≤ 0) then G 154 344 [some (.inr (.inr x0)), some (.inl x1), some (.inl x2), some (.inl x3), some (.inl x4), some (.inl x5), some (.inl x6), some (.inl x7), some (.inl x8), some (.inl x9), some (.inr (.inl j11)), none, some (.inr (.inl j13)), none] [.inl 0, .inl ((252 * x5) + x9), .inr (.inr r14)] H else G 154 344 [some (.inr (.inr x0)), some (.inl x1), some (.inl x2), some (.inl x3), some (.inl x4), some (.inl x5), some (.inl x6), some (.inl x7), some (.inl x8), some (.inl x9), some (.inr (.inl j11)), none, some (.inr (.inl j13)), none] [.inl 1, .inl ((252 * x5) + x9), .inr (.inr r14)] H) := by
  refine Eq.trans (e1 hG PT_154 k154_276 _ _ _) ?_
  show G 154 278 [some (.inr (.inr x0)), some (.inl x1), some (.inl x2), some (.inl x3), some (.inl x4), some (.inl x5), some (.inl x6), some (.inl x7), some (.inl x8), some (.inl x9), o10, none, o12, none] [.inl x9] H = _
  refine Eq.trans (e1 hG PT_154 k154_278 _ _ _) ?_
  show G 154 281 [some (.inr (.inr x0)), some (.inl x1), some (.inl x2), some (.inl x3), some (.inl x4), some (.inl x5), some (.inl x6), some (.inl x7), some (.inl x8), some (.inl x9), o10, none, o12, none] [.inl 252, .inl x9] H = _
  refine Eq.trans (e1 hG PT_154 k154_281 _ _ _) ?_
  refine bfc ?_ ?_
  · show G 154 371 [some (.inr (.inr x0)), some (.inl x1), some (.inl x2), some (.inl x3), some (.inl x4), some (.inl x5), some (.inl x6), some (.inl x7), some (.inl x8), some (.inl x9), o10, none, o12, none] [] H = _
    refine Eq.trans (e1 hG PT_154 k154_371 _ _ _) ?_
    show G 154 372 [some (.inr (.inr x0)), some (.inl x1), some (.inl x2), some (.inl x3), some (.inl x4), some (.inl x5), some (.inl x6), some (.inl x7), some (.inl x8), some (.inl x9), o10, none, o12, none] [.inr (.inr x0)] H = _
    refine Eq.trans (e1 hG PT_154 k154_372 _ _ _) ?_
    refine bdc fun r1 => ?_
    show G 154 375 [some (.inr (.inr x0)), some (.inl x1), some (.inl x2), some (.inl x3), some (.inl x4), some (.inl x5), some (.inl x6), some (.inl x7), some (.inl x8), some (.inl x9), o10, none, o12, none] [.inr (.inr r1)] H = _
    refine Eq.trans (e1 hG PT_154 k154_375 _ _ _) ?_
    show G 154 378 [some (.inr (.inr x0)), some (.inl x1), some (.inl x2), some (.inl x3), some (.inl x4), some (.inl x5), some (.inl x6), some (.inl x7), some (.inl x8), some (.inl x9), o10, none, o12, none] [.inl 252, .inr (.inr r1)] H = _
    refine Eq.trans (e1 hG PT_154 k154_378 _ _ _) ?_
    show G 154 380 [some (.inr (.inr x0)), some (.inl x1), some (.inl x2), some (.inl x3), some (.inl x4), some (.inl x5), some (.inl x6), some (.inl x7), some (.inl x8), some (.inl x9), o10, none, o12, none] [.inl x5, .inl 252, .inr (.inr r1)] H = _
    refine Eq.trans (e1 hG PT_154 k154_380 _ _ _) ?_
    show G 154 381 [some (.inr (.inr x0)), some (.inl x1), some (.inl x2), some (.inl x3), some (.inl x4), some (.inl x5), some (.inl x6), some (.inl x7), some (.inl x8), some (.inl x9), o10, none, o12, none] [.inl (252 * x5), .inr (.inr r1)] H = _
    refine Eq.trans (e1 hG PT_154 k154_381 _ _ _) ?_
    show G 154 382 [some (.inr (.inr x0)), some (.inl x1), some (.inl x2), some (.inl x3), some (.inl x4), some (.inl x5), some (.inl x6), some (.inl x7), some (.inl x8), some (.inl x9), o10, none, o12, none] [.inl (252 * x5), .inr (.inr r1), .inl (252 * x5), .inr (.inr r1)] H = _
    refine Eq.trans (e1 hG PT_154 k154_382 _ _ _) ?_
    refine bdc fun j2 => ?_
    show G 154 383 [some (.inr (.inr x0)), some (.inl x1), some (.inl x2), some (.inl x3), some (.inl x4), some (.inl x5), some (.inl x6), some (.inl x7), some (.inl x8), some (.inl x9), o10, none, o12, none] [.inr (.inl j2), .inl (252 * x5), .inr (.inr r1)] H = _
    refine Eq.trans (e1 hG PT_154 k154_383 _ _ _) ?_
    show G 154 386 [some (.inr (.inr x0)), some (.inl x1), some (.inl x2), some (.inl x3), some (.inl x4), some (.inl x5), some (.inl x6), some (.inl x7), some (.inl x8), some (.inl x9), o10, none, o12, none] [.inr (.inl 8640), .inr (.inl j2), .inl (252 * x5), .inr (.inr r1)] H = _
    refine Eq.trans (e1 hG PT_154 k154_386 _ _ _) ?_
    show G 154 387 [some (.inr (.inr x0)), some (.inl x1), some (.inl x2), some (.inl x3), some (.inl x4), some (.inl x5), some (.inl x6), some (.inl x7), some (.inl x8), some (.inl x9), o10, none, o12, none] [.inr (.inl (j2 + 8640)), .inl (252 * x5), .inr (.inr r1)] H = _
    refine Eq.trans (e1 hG PT_154 k154_387 _ _ _) ?_
    refine bdc fun H3 => ?_
    show G 154 388 [some (.inr (.inr x0)), some (.inl x1), some (.inl x2), some (.inl x3), some (.inl x4), some (.inl x5), some (.inl x6), some (.inl x7), some (.inl x8), some (.inl x9), o10, none, o12, none] [] H3 = _
    refine Eq.trans (e1 hG PT_154 k154_388 _ _ _) ?_
    show G 154 389 [some (.inr (.inr x0)), some (.inl x1), some (.inl x2), some (.inl x3), some (.inl x4), some (.inl x5), some (.inl x6), some (.inl x7), some (.inl x8), some (.inl x9), o10, none, o12, none] [.inr (.inr x0)] H3 = _
    refine Eq.trans (e1 hG PT_154 k154_389 _ _ _) ?_
    show G 154 390 [some (.inr (.inr x0)), some (.inl x1), some (.inl x2), some (.inl x3), some (.inl x4), some (.inl x5), some (.inl x6), some (.inl x7), some (.inl x8), some (.inl x9), o10, none, o12, none] [.inr (.inr x0), .inr (.inr x0)] H3 = _
    refine Eq.trans (e1 hG PT_154 k154_390 _ _ _) ?_
    refine bdc fun r4 => ?_
    show G 154 393 [some (.inr (.inr x0)), some (.inl x1), some (.inl x2), some (.inl x3), some (.inl x4), some (.inl x5), some (.inl x6), some (.inl x7), some (.inl x8), some (.inl x9), o10, none, o12, none] [.inr (.inr r4), .inr (.inr x0)] H3 = _
    refine Eq.trans (e1 hG PT_154 k154_393 _ _ _) ?_
    show G 154 394 [some (.inr (.inr x0)), some (.inl x1), some (.inl x2), some (.inl x3), some (.inl x4), some (.inl x5), some (.inl x6), some (.inl x7), some (.inl x8), some (.inl x9), o10, none, o12, none] [.inl x3, .inr (.inr r4), .inr (.inr x0)] H3 = _
    refine Eq.trans (e1 hG PT_154 k154_394 _ _ _) ?_
    refine bdc fun i5 => ?_
    show G 154 395 [some (.inr (.inr x0)), some (.inl x1), some (.inl x2), some (.inl x3), some (.inl x4), some (.inl x5), some (.inl x6), some (.inl x7), some (.inl x8), some (.inl x9), o10, none, o12, none] [.inl i5, .inr (.inr x0)] H3 = _
    refine Eq.trans (e1 hG PT_154 k154_395 _ _ _) ?_
    show G 154 397 [some (.inr (.inr x0)), some (.inl x1), some (.inl x2), some (.inl x3), some (.inl x4), some (.inl x5), some (.inl x6), some (.inl x7), some (.inl x8), some (.inl x9), o10, none, o12, none] [.inl x5, .inl i5, .inr (.inr x0)] H3 = _
    refine Eq.trans (e1 hG PT_154 k154_397 _ _ _) ?_
    refine bfc ?_ ?_
    · refine bdc fun u6 => ?_
      refine bdc fun i7 => ?_
      show G 154 400 [some (.inr (.inr x0)), some (.inl x1), some (.inl x2), some (.inl x3), some (.inl x4), some (.inl x5), some (.inl x6), some (.inl x7), some (.inl x8), some (.inl x9), o10, none, o12, none] [.inl i7] u6.2 = _
      refine Eq.trans (e1 hG PT_154 k154_400 _ _ _) ?_
      refine bfc ?_ ?_
      · show G 154 405 [some (.inr (.inr x0)), some (.inl x1), some (.inl x2), some (.inl x3), some (.inl x4), some (.inl x5), some (.inl x6), some (.inl x7), some (.inl x8), some (.inl x9), o10, none, o12, none] [] u6.2 = _
        refine Eq.trans (e1 hG PT_154 k154_405 _ _ _) ?_
        show G 154 406 [some (.inr (.inr x0)), some (.inl x1), some (.inl x2), some (.inl x3), some (.inl x4), some (.inl x5), some (.inl x6), some (.inl x7), some (.inl x8), some (.inl x9), o10, none, o12, none] [.inr (.inr x0)] u6.2 = _
        refine Eq.trans (e1 hG PT_154 k154_406 _ _ _) ?_
        refine bdc fun r8 => ?_
        show G 154 409 [some (.inr (.inr x0)), some (.inl x1), some (.inl x2), some (.inl x3), some (.inl x4), some (.inl x5), some (.inl x6), some (.inl x7), some (.inl x8), some (.inl x9), o10, none, o12, none] [.inr (.inr r8)] u6.2 = _
        refine Eq.trans (e1 hG PT_154 k154_409 _ _ _) ?_
        show G 154 410 [some (.inr (.inr x0)), some (.inl x1), some (.inl x2), some (.inl x3), some (.inl x4), some (.inl x5), some (.inl x6), some (.inl x7), some (.inl x8), some (.inl x9), o10, none, o12, none] [.inl x3, .inr (.inr r8)] u6.2 = _
        refine Eq.trans (e1 hG PT_154 k154_410 _ _ _) ?_
        refine bdc fun i9 => ?_
        show G 154 411 [some (.inr (.inr x0)), some (.inl x1), some (.inl x2), some (.inl x3), some (.inl x4), some (.inl x5), some (.inl x6), some (.inl x7), some (.inl x8), some (.inl x9), o10, none, o12, none] [.inl i9] u6.2 = _
        refine Eq.trans (e1 hG PT_154 k154_411 _ _ _) ?_
        show G 154 413 [some (.inr (.inr x0)), some (.inl x1), some (.inl x2), some (.inl x3), some (.inl x4), some (.inl i9), some (.inl x6), some (.inl x7), some (.inl x8), some (.inl x9), o10, none, o12, none] [] u6.2 = _
        refine Eq.trans (e1 hG PT_154 k154_413 _ _ _) ?_
        rfl
      · show G 154 403 [some (.inr (.inr x0)), some (.inl x1), some (.inl x2), some (.inl x3), some (.inl x4), some (.inl x5), some (.inl x6), some (.inl x7), some (.inl x8), some (.inl x9), o10, none, o12, none] [] u6.2 = _
        refine Eq.trans (e1 hG PT_154 k154_403 _ _ _) ?_
        show G 154 404 [some (.inr (.inr x0)), some (.inl x1), some (.inl x2), some (.inl x3), some (.inl x4), some (.inl x5), some (.inl x6), some (.inl x7), some (.inl x8), some (.inl x9), o10, none, o12, none] [.inl 0] u6.2 = _
        exact e1 hG PT_154 k154_404 _ _ _
    · rfl
  · show G 154 284 [some (.inr (.inr x0)), some (.inl x1), some (.inl x2), some (.inl x3), some (.inl x4), some (.inl x5), some (.inl x6), some (.inl x7), some (.inl x8), some (.inl x9), o10, none, o12, none] [] H = _
    refine Eq.trans (e1 hG PT_154 k154_284 _ _ _) ?_
    show G 154 285 [some (.inr (.inr x0)), some (.inl x1), some (.inl x2), some (.inl x3), some (.inl x4), some (.inl x5), some (.inl x6), some (.inl x7), some (.inl x8), some (.inl x9), o10, none, o12, none] [.inr (.inr x0)] H = _
    refine Eq.trans (e1 hG PT_154 k154_285 _ _ _) ?_
    refine bdc fun r10 => ?_
    show G 154 288 [some (.inr (.inr x0)), some (.inl x1), some (.inl x2), some (.inl x3), some (.inl x4), some (.inl x5), some (.inl x6), some (.inl x7), some (.inl x8), some (.inl x9), o10, none, o12, none] [.inr (.inr r10)] H = _
    refine Eq.trans (e1 hG PT_154 k154_288 _ _ _) ?_
    show G 154 291 [some (.inr (.inr x0)), some (.inl x1), some (.inl x2), some (.inl x3), some (.inl x4), some (.inl x5), some (.inl x6), some (.inl x7), some (.inl x8), some (.inl x9), o10, none, o12, none] [.inl 252, .inr (.inr r10)] H = _
    refine Eq.trans (e1 hG PT_154 k154_291 _ _ _) ?_
    show G 154 293 [some (.inr (.inr x0)), some (.inl x1), some (.inl x2), some (.inl x3), some (.inl x4), some (.inl x5), some (.inl x6), some (.inl x7), some (.inl x8), some (.inl x9), o10, none, o12, none] [.inl x5, .inl 252, .inr (.inr r10)] H = _
    refine Eq.trans (e1 hG PT_154 k154_293 _ _ _) ?_
    show G 154 294 [some (.inr (.inr x0)), some (.inl x1), some (.inl x2), some (.inl x3), some (.inl x4), some (.inl x5), some (.inl x6), some (.inl x7), some (.inl x8), some (.inl x9), o10, none, o12, none] [.inl 1, .inl x5, .inl 252, .inr (.inr r10)] H = _
    refine Eq.trans (e1 hG PT_154 k154_294 _ _ _) ?_
    show G 154 295 [some (.inr (.inr x0)), some (.inl x1), some (.inl x2), some (.inl x3), some (.inl x4), some (.inl x5), some (.inl x6), some (.inl x7), some (.inl x8), some (.inl x9), o10, none, o12, none] [.inl (x5 - 1), .inl 252, .inr (.inr r10)] H = _
    refine Eq.trans (e1 hG PT_154 k154_295 _ _ _) ?_
    show G 154 296 [some (.inr (.inr x0)), some (.inl x1), some (.inl x2), some (.inl x3), some (.inl x4), some (.inl x5), some (.inl x6), some (.inl x7), some (.inl x8), some (.inl x9), o10, none, o12, none] [.inl (252 * (x5 - 1)), .inr (.inr r10)] H = _
    refine Eq.trans (e1 hG PT_154 k154_296 _ _ _) ?_
    show G 154 298 [some (.inr (.inr x0)), some (.inl x1), some (.inl x2), some (.inl x3), some (.inl x4), some (.inl x5), some (.inl x6), some (.inl x7), some (.inl x8), some (.inl x9), o10, none, o12, none] [.inl x9, .inl (252 * (x5 - 1)), .inr (.inr r10)] H = _
    refine Eq.trans (e1 hG PT_154 k154_298 _ _ _) ?_
    show G 154 299 [some (.inr (.inr x0)), some (.inl x1), some (.inl x2), some (.inl x3), some (.inl x4), some (.inl x5), some (.inl x6), some (.inl x7), some (.inl x8), some (.inl x9), o10, none, o12, none] [.inl ((252 * (x5 - 1)) + x9), .inr (.inr r10)] H = _
    refine Eq.trans (e1 hG PT_154 k154_299 _ _ _) ?_
    refine bdc fun j11 => ?_
    show G 154 300 [some (.inr (.inr x0)), some (.inl x1), some (.inl x2), some (.inl x3), some (.inl x4), some (.inl x5), some (.inl x6), some (.inl x7), some (.inl x8), some (.inl x9), o10, none, o12, none] [.inr (.inl j11)] H = _
    refine Eq.trans (e1 hG PT_154 k154_300 _ _ _) ?_
    show G 154 302 [some (.inr (.inr x0)), some (.inl x1), some (.inl x2), some (.inl x3), some (.inl x4), some (.inl x5), some (.inl x6), some (.inl x7), some (.inl x8), some (.inl x9), some (.inr (.inl j11)), none, o12, none] [] H = _
    refine Eq.trans (e1 hG PT_154 k154_302 _ _ _) ?_
    show G 154 303 [some (.inr (.inr x0)), some (.inl x1), some (.inl x2), some (.inl x3), some (.inl x4), some (.inl x5), some (.inl x6), some (.inl x7), some (.inl x8), some (.inl x9), some (.inr (.inl j11)), none, o12, none] [.inr (.inr x0)] H = _
    refine Eq.trans (e1 hG PT_154 k154_303 _ _ _) ?_
    refine bdc fun r12 => ?_
    show G 154 306 [some (.inr (.inr x0)), some (.inl x1), some (.inl x2), some (.inl x3), some (.inl x4), some (.inl x5), some (.inl x6), some (.inl x7), some (.inl x8), some (.inl x9), some (.inr (.inl j11)), none, o12, none] [.inr (.inr r12)] H = _
    refine Eq.trans (e1 hG PT_154 k154_306 _ _ _) ?_
    show G 154 309 [some (.inr (.inr x0)), some (.inl x1), some (.inl x2), some (.inl x3), some (.inl x4), some (.inl x5), some (.inl x6), some (.inl x7), some (.inl x8), some (.inl x9), some (.inr (.inl j11)), none, o12, none] [.inl 252, .inr (.inr r12)] H = _
    refine Eq.trans (e1 hG PT_154 k154_309 _ _ _) ?_
    show G 154 311 [some (.inr (.inr x0)), some (.inl x1), some (.inl x2), some (.inl x3), some (.inl x4), some (.inl x5), some (.inl x6), some (.inl x7), some (.inl x8), some (.inl x9), some (.inr (.inl j11)), none, o12, none] [.inl x5, .inl 252, .inr (.inr r12)] H = _
    refine Eq.trans (e1 hG PT_154 k154_311 _ _ _) ?_
    show G 154 312 [some (.inr (.inr x0)), some (.inl x1), some (.inl x2), some (.inl x3), some (.inl x4), some (.inl x5), some (.inl x6), some (.inl x7), some (.inl x8), some (.inl x9), some (.inr (.inl j11)), none, o12, none] [.inl (252 * x5), .inr (.inr r12)] H = _
    refine Eq.trans (e1 hG PT_154 k154_312 _ _ _) ?_
    show G 154 314 [some (.inr (.inr x0)), some (.inl x1), some (.inl x2), some (.inl x3), some (.inl x4), some (.inl x5), some (.inl x6), some (.inl x7), some (.inl x8), some (.inl x9), some (.inr (.inl j11)), none, o12, none] [.inl x9, .inl (252 * x5), .inr (.inr r12)] H = _
    refine Eq.trans (e1 hG PT_154 k154_314 _ _ _) ?_
    show G 154 315 [some (.inr (.inr x0)), some (.inl x1), some (.inl x2), some (.inl x3), some (.inl x4), some (.inl x5), some (.inl x6), some (.inl x7), some (.inl x8), some (.inl x9), some (.inr (.inl j11)), none, o12, none] [.inl ((252 * x5) + x9), .inr (.inr r12)] H = _
    refine Eq.trans (e1 hG PT_154 k154_315 _ _ _) ?_
    refine bdc fun j13 => ?_
    show G 154 316 [some (.inr (.inr x0)), some (.inl x1), some (.inl x2), some (.inl x3), some (.inl x4), some (.inl x5), some (.inl x6), some (.inl x7), some (.inl x8), some (.inl x9), some (.inr (.inl j11)), none, o12, none] [.inr (.inl j13)] H = _
    refine Eq.trans (e1 hG PT_154 k154_316 _ _ _) ?_
    show G 154 318 [some (.inr (.inr x0)), some (.inl x1), some (.inl x2), some (.inl x3), some (.inl x4), some (.inl x5), some (.inl x6), some (.inl x7), some (.inl x8), some (.inl x9), some (.inr (.inl j11)), none, some (.inr (.inl j13)), none] [] H = _
    refine Eq.trans (e1 hG PT_154 k154_318 _ _ _) ?_
    show G 154 319 [some (.inr (.inr x0)), some (.inl x1), some (.inl x2), some (.inl x3), some (.inl x4), some (.inl x5), some (.inl x6), some (.inl x7), some (.inl x8), some (.inl x9), some (.inr (.inl j11)), none, some (.inr (.inl j13)), none] [.inr (.inr x0)] H = _
    refine Eq.trans (e1 hG PT_154 k154_319 _ _ _) ?_
    refine bdc fun r14 => ?_
    show G 154 322 [some (.inr (.inr x0)), some (.inl x1), some (.inl x2), some (.inl x3), some (.inl x4), some (.inl x5), some (.inl x6), some (.inl x7), some (.inl x8), some (.inl x9), some (.inr (.inl j11)), none, some (.inr (.inl j13)), none] [.inr (.inr r14)] H = _
    refine Eq.trans (e1 hG PT_154 k154_322 _ _ _) ?_
    show G 154 325 [some (.inr (.inr x0)), some (.inl x1), some (.inl x2), some (.inl x3), some (.inl x4), some (.inl x5), some (.inl x6), some (.inl x7), some (.inl x8), some (.inl x9), some (.inr (.inl j11)), none, some (.inr (.inl j13)), none] [.inl 252, .inr (.inr r14)] H = _
    refine Eq.trans (e1 hG PT_154 k154_325 _ _ _) ?_
    show G 154 327 [some (.inr (.inr x0)), some (.inl x1), some (.inl x2), some (.inl x3), some (.inl x4), some (.inl x5), some (.inl x6), some (.inl x7), some (.inl x8), some (.inl x9), some (.inr (.inl j11)), none, some (.inr (.inl j13)), none] [.inl x5, .inl 252, .inr (.inr r14)] H = _
    refine Eq.trans (e1 hG PT_154 k154_327 _ _ _) ?_
    show G 154 328 [some (.inr (.inr x0)), some (.inl x1), some (.inl x2), some (.inl x3), some (.inl x4), some (.inl x5), some (.inl x6), some (.inl x7), some (.inl x8), some (.inl x9), some (.inr (.inl j11)), none, some (.inr (.inl j13)), none] [.inl (252 * x5), .inr (.inr r14)] H = _
    refine Eq.trans (e1 hG PT_154 k154_328 _ _ _) ?_
    show G 154 330 [some (.inr (.inr x0)), some (.inl x1), some (.inl x2), some (.inl x3), some (.inl x4), some (.inl x5), some (.inl x6), some (.inl x7), some (.inl x8), some (.inl x9), some (.inr (.inl j11)), none, some (.inr (.inl j13)), none] [.inl x9, .inl (252 * x5), .inr (.inr r14)] H = _
    refine Eq.trans (e1 hG PT_154 k154_330 _ _ _) ?_
    show G 154 331 [some (.inr (.inr x0)), some (.inl x1), some (.inl x2), some (.inl x3), some (.inl x4), some (.inl x5), some (.inl x6), some (.inl x7), some (.inl x8), some (.inl x9), some (.inr (.inl j11)), none, some (.inr (.inl j13)), none] [.inl ((252 * x5) + x9), .inr (.inr r14)] H = _
    refine Eq.trans (e1 hG PT_154 k154_331 _ _ _) ?_
    show G 154 333 [some (.inr (.inr x0)), some (.inl x1), some (.inl x2), some (.inl x3), some (.inl x4), some (.inl x5), some (.inl x6), some (.inl x7), some (.inl x8), some (.inl x9), some (.inr (.inl j11)), none, some (.inr (.inl j13)), none] [.inr (.inl j11), .inl ((252 * x5) + x9), .inr (.inr r14)] H = _
    refine Eq.trans (e1 hG PT_154 k154_333 _ _ _) ?_
    show G 154 335 [some (.inr (.inr x0)), some (.inl x1), some (.inl x2), some (.inl x3), some (.inl x4), some (.inl x5), some (.inl x6), some (.inl x7), some (.inl x8), some (.inl x9), some (.inr (.inl j11)), none, some (.inr (.inl j13)), none] [.inr (.inl j13), .inr (.inl j11), .inl ((252 * x5) + x9), .inr (.inr r14)] H = _
    refine Eq.trans (e1 hG PT_154 k154_335 _ _ _) ?_
    show G 154 336 [some (.inr (.inr x0)), some (.inl x1), some (.inl x2), some (.inl x3), some (.inl x4), some (.inl x5), some (.inl x6), some (.inl x7), some (.inl x8), some (.inl x9), some (.inr (.inl j11)), none, some (.inr (.inl j13)), none] [.inl (lg_cmp j11 j13), .inl ((252 * x5) + x9), .inr (.inr r14)] H = _
    refine Eq.trans (e1 hG PT_154 k154_336 _ _ _) ?_
    refine bfc ?_ ?_
    · show G 154 343 [some (.inr (.inr x0)), some (.inl x1), some (.inl x2), some (.inl x3), some (.inl x4), some (.inl x5), some (.inl x6), some (.inl x7), some (.inl x8), some (.inl x9), some (.inr (.inl j11)), none, some (.inr (.inl j13)), none] [.inl ((252 * x5) + x9), .inr (.inr r14)] H = _
      refine Eq.trans (e1 hG PT_154 k154_343 _ _ _) ?_
      rfl
    · show G 154 339 [some (.inr (.inr x0)), some (.inl x1), some (.inl x2), some (.inl x3), some (.inl x4), some (.inl x5), some (.inl x6), some (.inl x7), some (.inl x8), some (.inl x9), some (.inr (.inl j11)), none, some (.inr (.inl j13)), none] [.inl ((252 * x5) + x9), .inr (.inr r14)] H = _
      refine Eq.trans (e1 hG PT_154 k154_339 _ _ _) ?_
      show G 154 340 [some (.inr (.inr x0)), some (.inl x1), some (.inl x2), some (.inl x3), some (.inl x4), some (.inl x5), some (.inl x6), some (.inl x7), some (.inl x8), some (.inl x9), some (.inr (.inl j11)), none, some (.inr (.inl j13)), none] [.inl 1, .inl ((252 * x5) + x9), .inr (.inr r14)] H = _
      refine Eq.trans (e1 hG PT_154 k154_340 _ _ _) ?_
      rfl
set_option maxRecDepth 100000 in
theorem b154_344 {G : AG} (hG : FIX G) (x0 : Nat) (x1 : Int32) (x2 : Int32) (x3 : Int32) (x4 : Int32) (x5 : Int32) (x6 : Int32) (x7 : Int32) (x8 : Int32) (x9 : Int32) (x10 : Int64) (x12 : Int64) (s0 : Int32) (s1 : Int32) (s2 : Nat) (H : Hp) : G 154 344 [some (.inr (.inr x0)), some (.inl x1), some (.inl x2), some (.inl x3), some (.inl x4), some (.inl x5), some (.inl x6), some (.inl x7), some (.inl x8), some (.inl x9), some (.inr (.inl x10)), none, some (.inr (.inl x12)), none] [.inl s0, .inl s1, .inr (.inr s2)] H = (bif decide ((x2 : Int32) ≠ (1 : Int32)) then G 154 354 [some (.inr (.inr x0)), some (.inl x1), some (.inl x2), some (.inl x3), some (.inl x4), some (.inl x5), some (.inl x6), some (.inl x7), some (.inl x8), some (.inl x9), some (.inr (.inl x10)), none, some (.inr (.inl x12)), none] [.inl 0, .inl s0, .inl s1, .inr (.inr s2)] H else G 154 354 [some (.inr (.inr x0)), some (.inl x1), some (.inl x2), some (.inl x3), some (.inl x4), some (.inl x5), some (.inl x6), some (.inl x7), some (.inl x8), some (.inl x9), some (.inr (.inl x10)), none, some (.inr (.inl x12)), none] [.inl 1, .inl s0, .inl s1, .inr (.inr s2)] H) := by
  refine Eq.trans (e1 hG PT_154 k154_344 _ _ _) ?_
  show G 154 345 [some (.inr (.inr x0)), some (.inl x1), some (.inl x2), some (.inl x3), some (.inl x4), some (.inl x5), some (.inl x6), some (.inl x7), some (.inl x8), some (.inl x9), some (.inr (.inl x10)), none, some (.inr (.inl x12)), none] [.inl x2, .inl s0, .inl s1, .inr (.inr s2)] H = _
  refine Eq.trans (e1 hG PT_154 k154_345 _ _ _) ?_
  show G 154 346 [some (.inr (.inr x0)), some (.inl x1), some (.inl x2), some (.inl x3), some (.inl x4), some (.inl x5), some (.inl x6), some (.inl x7), some (.inl x8), some (.inl x9), some (.inr (.inl x10)), none, some (.inr (.inl x12)), none] [.inl 1, .inl x2, .inl s0, .inl s1, .inr (.inr s2)] H = _
  refine Eq.trans (e1 hG PT_154 k154_346 _ _ _) ?_
  refine bfc ?_ ?_
  · show G 154 353 [some (.inr (.inr x0)), some (.inl x1), some (.inl x2), some (.inl x3), some (.inl x4), some (.inl x5), some (.inl x6), some (.inl x7), some (.inl x8), some (.inl x9), some (.inr (.inl x10)), none, some (.inr (.inl x12)), none] [.inl s0, .inl s1, .inr (.inr s2)] H = _
    refine Eq.trans (e1 hG PT_154 k154_353 _ _ _) ?_
    rfl
  · show G 154 349 [some (.inr (.inr x0)), some (.inl x1), some (.inl x2), some (.inl x3), some (.inl x4), some (.inl x5), some (.inl x6), some (.inl x7), some (.inl x8), some (.inl x9), some (.inr (.inl x10)), none, some (.inr (.inl x12)), none] [.inl s0, .inl s1, .inr (.inr s2)] H = _
    refine Eq.trans (e1 hG PT_154 k154_349 _ _ _) ?_
    show G 154 350 [some (.inr (.inr x0)), some (.inl x1), some (.inl x2), some (.inl x3), some (.inl x4), some (.inl x5), some (.inl x6), some (.inl x7), some (.inl x8), some (.inl x9), some (.inr (.inl x10)), none, some (.inr (.inl x12)), none] [.inl 1, .inl s0, .inl s1, .inr (.inr s2)] H = _
    refine Eq.trans (e1 hG PT_154 k154_350 _ _ _) ?_
    rfl
set_option maxRecDepth 100000 in
theorem b154_354 {G : AG} (hG : FIX G) (x0 : Nat) (x1 : Int32) (x2 : Int32) (x3 : Int32) (x4 : Int32) (x5 : Int32) (x6 : Int32) (x7 : Int32) (x8 : Int32) (x9 : Int32) (x10 : Int64) (x12 : Int64) (s0 : Int32) (s1 : Int32) (s2 : Int32) (s3 : Nat) (H : Hp) : G 154 354 [some (.inr (.inr x0)), some (.inl x1), some (.inl x2), some (.inl x3), some (.inl x4), some (.inl x5), some (.inl x6), some (.inl x7), some (.inl x8), some (.inl x9), some (.inr (.inl x10)), none, some (.inr (.inl x12)), none] [.inl s0, .inl s1, .inl s2, .inr (.inr s3)] H = (bif decide ((s1 : Int32) ≠ (s0 : Int32)) then G 154 364 [some (.inr (.inr x0)), some (.inl x1), some (.inl x2), some (.inl x3), some (.inl x4), some (.inl x5), some (.inl x6), some (.inl x7), some (.inl x8), some (.inl x9), some (.inr (.inl x10)), none, some (.inr (.inl x12)), none] [.inr (.inl x12), .inl s2, .inr (.inr s3)] H else G 154 364 [some (.inr (.inr x0)), some (.inl x1), some (.inl x2), some (.inl x3), some (.inl x4), some (.inl x5), some (.inl x6), some (.inl x7), some (.inl x8), some (.inl x9), some (.inr (.inl x10)), none, some (.inr (.inl x12)), none] [.inr (.inl x10), .inl s2, .inr (.inr s3)] H) := by
  refine Eq.trans (e1 hG PT_154 k154_354 _ _ _) ?_
  refine bfc ?_ ?_
  · show G 154 362 [some (.inr (.inr x0)), some (.inl x1), some (.inl x2), some (.inl x3), some (.inl x4), some (.inl x5), some (.inl x6), some (.inl x7), some (.inl x8), some (.inl x9), some (.inr (.inl x10)), none, some (.inr (.inl x12)), none] [.inl s2, .inr (.inr s3)] H = _
    refine Eq.trans (e1 hG PT_154 k154_362 _ _ _) ?_
    rfl
  · show G 154 357 [some (.inr (.inr x0)), some (.inl x1), some (.inl x2), some (.inl x3), some (.inl x4), some (.inl x5), some (.inl x6), some (.inl x7), some (.inl x8), some (.inl x9), some (.inr (.inl x10)), none, some (.inr (.inl x12)), none] [.inl s2, .inr (.inr s3)] H = _
    refine Eq.trans (e1 hG PT_154 k154_357 _ _ _) ?_
    show G 154 359 [some (.inr (.inr x0)), some (.inl x1), some (.inl x2), some (.inl x3), some (.inl x4), some (.inl x5), some (.inl x6), some (.inl x7), some (.inl x8), some (.inl x9), some (.inr (.inl x10)), none, some (.inr (.inl x12)), none] [.inr (.inl x10), .inl s2, .inr (.inr s3)] H = _
    refine Eq.trans (e1 hG PT_154 k154_359 _ _ _) ?_
    rfl
set_option maxRecDepth 100000 in
theorem b154_364 {G : AG} (hG : FIX G) (x0 : Nat) (x1 : Int32) (x2 : Int32) (x3 : Int32) (x4 : Int32) (x5 : Int32) (x6 : Int32) (x7 : Int32) (x8 : Int32) (x9 : Int32) (x10 : Int64) (x12 : Int64) (s0 : Int64) (s1 : Int32) (s2 : Nat) (H : Hp) : G 154 364 [some (.inr (.inr x0)), some (.inl x1), some (.inl x2), some (.inl x3), some (.inl x4), some (.inl x5), some (.inl x6), some (.inl x7), some (.inl x8), some (.inl x9), some (.inr (.inl x10)), none, some (.inr (.inl x12)), none] [.inr (.inl s0), .inl s1, .inr (.inr s2)] H = ((hSJ H s2 s1 s0).bind fun H1 => G 154 276 [some (.inr (.inr x0)), some (.inl x1), some (.inl x2), some (.inl x3), some (.inl x4), some (.inl x5), some (.inl x6), some (.inl x7), some (.inl x8), some (.inl (x9 + 1)), some (.inr (.inl x10)), none, some (.inr (.inl x12)), none] [] H1) := by
  refine Eq.trans (e1 hG PT_154 k154_364 _ _ _) ?_
  refine bdc fun H1 => ?_
  show G 154 365 [some (.inr (.inr x0)), some (.inl x1), some (.inl x2), some (.inl x3), some (.inl x4), some (.inl x5), some (.inl x6), some (.inl x7), some (.inl x8), some (.inl x9), some (.inr (.inl x10)), none, some (.inr (.inl x12)), none] [] H1 = _
  refine Eq.trans (e1 hG PT_154 k154_365 _ _ _) ?_
  show G 154 368 [some (.inr (.inr x0)), some (.inl x1), some (.inl x2), some (.inl x3), some (.inl x4), some (.inl x5), some (.inl x6), some (.inl x7), some (.inl x8), some (.inl (x9 + 1)), some (.inr (.inl x10)), none, some (.inr (.inl x12)), none] [] H1 = _
  refine Eq.trans (e1 hG PT_154 k154_368 _ _ _) ?_
  rfl
set_option maxRecDepth 100000 in
theorem b154_416 {G : AG} (hG : FIX G) (x0 : Nat) (x1 : Int32) (x2 : Int32) (x3 : Int32) (x4 : Int32) (x5 : Int32) (x6 : Int32) (x7 : Int32) (x8 : Int32) (o9 : Option AV) (o10 : Option AV) (o12 : Option AV) (H : Hp) : G 154 416 [some (.inr (.inr x0)), some (.inl x1), some (.inl x2), some (.inl x3), some (.inl x4), some (.inl x5), some (.inl x6), some (.inl x7), some (.inl x8), o9, o10, none, o12, none] [] H = ((hgR H x0 70).bind fun r1 => (hgR H x0 54).bind fun r2 => (hAI H r2 x7).bind fun i3 => (hAZ H r1 (((2 * i3) + x2))).bind fun i4 => bif decide ((i4 : Int32) = 0) then bif Nat.beq (H.1 x0).1 12 then (G 163 0 [some (.inr (.inr x0)), some (.inl x8), some (.inl x7), some (.inl x2), some (.inl x4), none, none, none, none, none, none, none, none, none, none, none, none] [] H).bind fun u5 => (asV u5.1).bind fun _ => (hgR u5.2 x0 67).bind fun r6 => (hAJ u5.2 r6 ((252 * x8))).bind fun j7 => (hSJ u5.2 r6 ((252 * x8)) ((j7 + 8640))).bind fun H8 => bif Nat.beq (H8.1 x0).1 12 then (G 156 0 [some (.inr (.inr x0)), some (.inl x5), some (.inl x8), none] [] H8).bind fun u9 => (asI u9.1).bind fun i10 => bif decide ((i10 : Int32) ≠ 0) then G 154 478 [some (.inr (.inr x0)), some (.inl x1), some (.inl x2), some (.inl x3), some (.inl x4), some (.inl x5), some (.inl x6), some (.inl x7), some (.inl x8), o9, o10, none, o12, none] [] u9.2 else retZ 0 u9.2 else none else none else retZ 0 H) := by
  refine Eq.trans (e1 hG PT_154 k154_416 _ _ _) ?_
  show G 154 417 [some (.inr (.inr x0)), some (.inl x1), some (.inl x2), some (.inl x3), some (.inl x4), some (.inl x5), some (.inl x6), some (.inl x7), some (.inl x8), o9, o10, none, o12, none] [.inr (.inr x0)] H = _
  refine Eq.trans (e1 hG PT_154 k154_417 _ _ _) ?_
  refine bdc fun r1 => ?_
  show G 154 420 [some (.inr (.inr x0)), some (.inl x1), some (.inl x2), some (.inl x3), some (.inl x4), some (.inl x5), some (.inl x6), some (.inl x7), some (.inl x8), o9, o10, none, o12, none] [.inr (.inr r1)] H = _
  refine Eq.trans (e1 hG PT_154 k154_420 _ _ _) ?_
  show G 154 421 [some (.inr (.inr x0)), some (.inl x1), some (.inl x2), some (.inl x3), some (.inl x4), some (.inl x5), some (.inl x6), some (.inl x7), some (.inl x8), o9, o10, none, o12, none] [.inl 2, .inr (.inr r1)] H = _
  refine Eq.trans (e1 hG PT_154 k154_421 _ _ _) ?_
  show G 154 422 [some (.inr (.inr x0)), some (.inl x1), some (.inl x2), some (.inl x3), some (.inl x4), some (.inl x5), some (.inl x6), some (.inl x7), some (.inl x8), o9, o10, none, o12, none] [.inr (.inr x0), .inl 2, .inr (.inr r1)] H = _
  refine Eq.trans (e1 hG PT_154 k154_422 _ _ _) ?_
  refine bdc fun r2 => ?_
  show G 154 425 [some (.inr (.inr x0)), some (.inl x1), some (.inl x2), some (.inl x3), some (.inl x4), some (.inl x5), some (.inl x6), some (.inl x7), some (.inl x8), o9, o10, none, o12, none] [.inr (.inr r2), .inl 2, .inr (.inr r1)] H = _
  refine Eq.trans (e1 hG PT_154 k154_425 _ _ _) ?_
  show G 154 427 [some (.inr (.inr x0)), some (.inl x1), some (.inl x2), some (.inl x3), some (.inl x4), some (.inl x5), some (.inl x6), some (.inl x7), some (.inl x8), o9, o10, none, o12, none] [.inl x7, .inr (.inr r2), .inl 2, .inr (.inr r1)] H = _
  refine Eq.trans (e1 hG PT_154 k154_427 _ _ _) ?_
  refine bdc fun i3 => ?_
  show G 154 428 [some (.inr (.inr x0)), some (.inl x1), some (.inl x2), some (.inl x3), some (.inl x4), some (.inl x5), some (.inl x6), some (.inl x7), some (.inl x8), o9, o10, none, o12, none] [.inl i3, .inl 2, .inr (.inr r1)] H = _
  refine Eq.trans (e1 hG PT_154 k154_428 _ _ _) ?_
  show G 154 429 [some (.inr (.inr x0)), some (.inl x1), some (.inl x2), some (.inl x3), some (.inl x4), some (.inl x5), some (.inl x6), some (.inl x7), some (.inl x8), o9, o10, none, o12, none] [.inl (2 * i3), .inr (.inr r1)] H = _
  refine Eq.trans (e1 hG PT_154 k154_429 _ _ _) ?_
  show G 154 430 [some (.inr (.inr x0)), some (.inl x1), some (.inl x2), some (.inl x3), some (.inl x4), some (.inl x5), some (.inl x6), some (.inl x7), some (.inl x8), o9, o10, none, o12, none] [.inl x2, .inl (2 * i3), .inr (.inr r1)] H = _
  refine Eq.trans (e1 hG PT_154 k154_430 _ _ _) ?_
  show G 154 431 [some (.inr (.inr x0)), some (.inl x1), some (.inl x2), some (.inl x3), some (.inl x4), some (.inl x5), some (.inl x6), some (.inl x7), some (.inl x8), o9, o10, none, o12, none] [.inl ((2 * i3) + x2), .inr (.inr r1)] H = _
  refine Eq.trans (e1 hG PT_154 k154_431 _ _ _) ?_
  refine bdc fun i4 => ?_
  show G 154 432 [some (.inr (.inr x0)), some (.inl x1), some (.inl x2), some (.inl x3), some (.inl x4), some (.inl x5), some (.inl x6), some (.inl x7), some (.inl x8), o9, o10, none, o12, none] [.inl i4] H = _
  refine Eq.trans (e1 hG PT_154 k154_432 _ _ _) ?_
  refine bfc ?_ ?_
  · show G 154 437 [some (.inr (.inr x0)), some (.inl x1), some (.inl x2), some (.inl x3), some (.inl x4), some (.inl x5), some (.inl x6), some (.inl x7), some (.inl x8), o9, o10, none, o12, none] [] H = _
    refine Eq.trans (e1 hG PT_154 k154_437 _ _ _) ?_
    show G 154 438 [some (.inr (.inr x0)), some (.inl x1), some (.inl x2), some (.inl x3), some (.inl x4), some (.inl x5), some (.inl x6), some (.inl x7), some (.inl x8), o9, o10, none, o12, none] [.inr (.inr x0)] H = _
    refine Eq.trans (e1 hG PT_154 k154_438 _ _ _) ?_
    show G 154 440 [some (.inr (.inr x0)), some (.inl x1), some (.inl x2), some (.inl x3), some (.inl x4), some (.inl x5), some (.inl x6), some (.inl x7), some (.inl x8), o9, o10, none, o12, none] [.inl x8, .inr (.inr x0)] H = _
    refine Eq.trans (e1 hG PT_154 k154_440 _ _ _) ?_
    show G 154 442 [some (.inr (.inr x0)), some (.inl x1), some (.inl x2), some (.inl x3), some (.inl x4), some (.inl x5), some (.inl x6), some (.inl x7), some (.inl x8), o9, o10, none, o12, none] [.inl x7, .inl x8, .inr (.inr x0)] H = _
    refine Eq.trans (e1 hG PT_154 k154_442 _ _ _) ?_
    show G 154 443 [some (.inr (.inr x0)), some (.inl x1), some (.inl x2), some (.inl x3), some (.inl x4), some (.inl x5), some (.inl x6), some (.inl x7), some (.inl x8), o9, o10, none, o12, none] [.inl x2, .inl x7, .inl x8, .inr (.inr x0)] H = _
    refine Eq.trans (e1 hG PT_154 k154_443 _ _ _) ?_
    show G 154 445 [some (.inr (.inr x0)), some (.inl x1), some (.inl x2), some (.inl x3), some (.inl x4), some (.inl x5), some (.inl x6), some (.inl x7), some (.inl x8), o9, o10, none, o12, none] [.inl x4, .inl x2, .inl x7, .inl x8, .inr (.inr x0)] H = _
    refine Eq.trans (e1 hG PT_154 k154_445 _ _ _) ?_
    refine bfc ?_ ?_
    · refine bdc fun u5 => ?_
      refine bdc fun _ => ?_
      show G 154 448 [some (.inr (.inr x0)), some (.inl x1), some (.inl x2), some (.inl x3), some (.inl x4), some (.inl x5), some (.inl x6), some (.inl x7), some (.inl x8), o9, o10, none, o12, none] [] u5.2 = _
      refine Eq.trans (e1 hG PT_154 k154_448 _ _ _) ?_
      show G 154 449 [some (.inr (.inr x0)), some (.inl x1), some (.inl x2), some (.inl x3), some (.inl x4), some (.inl x5), some (.inl x6), some (.inl x7), some (.inl x8), o9, o10, none, o12, none] [.inr (.inr x0)] u5.2 = _
      refine Eq.trans (e1 hG PT_154 k154_449 _ _ _) ?_
      refine bdc fun r6 => ?_
      show G 154 452 [some (.inr (.inr x0)), some (.inl x1), some (.inl x2), some (.inl x3), some (.inl x4), some (.inl x5), some (.inl x6), some (.inl x7), some (.inl x8), o9, o10, none, o12, none] [.inr (.inr r6)] u5.2 = _
      refine Eq.trans (e1 hG PT_154 k154_452 _ _ _) ?_
      show G 154 455 [some (.inr (.inr x0)), some (.inl x1), some (.inl x2), some (.inl x3), some (.inl x4), some (.inl x5), some (.inl x6), some (.inl x7), some (.inl x8), o9, o10, none, o12, none] [.inl 252, .inr (.inr r6)] u5.2 = _
      refine Eq.trans (e1 hG PT_154 k154_455 _ _ _) ?_
      show G 154 457 [some (.inr (.inr x0)), some (.inl x1), some (.inl x2), some (.inl x3), some (.inl x4), some (.inl x5), some (.inl x6), some (.inl x7), some (.inl x8), o9, o10, none, o12, none] [.inl x8, .inl 252, .inr (.inr r6)] u5.2 = _
      refine Eq.trans (e1 hG PT_154 k154_457 _ _ _) ?_
      show G 154 458 [some (.inr (.inr x0)), some (.inl x1), some (.inl x2), some (.inl x3), some (.inl x4), some (.inl x5), some (.inl x6), some (.inl x7), some (.inl x8), o9, o10, none, o12, none] [.inl (252 * x8), .inr (.inr r6)] u5.2 = _
      refine Eq.trans (e1 hG PT_154 k154_458 _ _ _) ?_
      show G 154 459 [some (.inr (.inr x0)), some (.inl x1), some (.inl x2), some (.inl x3), some (.inl x4), some (.inl x5), some (.inl x6), some (.inl x7), some (.inl x8), o9, o10, none, o12, none] [.inl (252 * x8), .inr (.inr r6), .inl (252 * x8), .inr (.inr r6)] u5.2 = _
      refine Eq.trans (e1 hG PT_154 k154_459 _ _ _) ?_
      refine bdc fun j7 => ?_
      show G 154 460 [some (.inr (.inr x0)), some (.inl x1), some (.inl x2), some (.inl x3), some (.inl x4), some (.inl x5), some (.inl x6), some (.inl x7), some (.inl x8), o9, o10, none, o12, none] [.inr (.inl j7), .inl (252 * x8), .inr (.inr r6)] u5.2 = _
      refine Eq.trans (e1 hG PT_154 k154_460 _ _ _) ?_
      show G 154 463 [some (.inr (.inr x0)), some (.inl x1), some (.inl x2), some (.inl x3), some (.inl x4), some (.inl x5), some (.inl x6), some (.inl x7), some (.inl x8), o9, o10, none, o12, none] [.inr (.inl 8640), .inr (.inl j7), .inl (252 * x8), .inr (.inr r6)] u5.2 = _
      refine Eq.trans (e1 hG PT_154 k154_463 _ _ _) ?_
      show G 154 464 [some (.inr (.inr x0)), some (.inl x1), some (.inl x2), some (.inl x3), some (.inl x4), some (.inl x5), some (.inl x6), some (.inl x7), some (.inl x8), o9, o10, none, o12, none] [.inr (.inl (j7 + 8640)), .inl (252 * x8), .inr (.inr r6)] u5.2 = _
      refine Eq.trans (e1 hG PT_154 k154_464 _ _ _) ?_
      refine bdc fun H8 => ?_
      show G 154 465 [some (.inr (.inr x0)), some (.inl x1), some (.inl x2), some (.inl x3), some (.inl x4), some (.inl x5), some (.inl x6), some (.inl x7), some (.inl x8), o9, o10, none, o12, none] [] H8 = _
      refine Eq.trans (e1 hG PT_154 k154_465 _ _ _) ?_
      show G 154 466 [some (.inr (.inr x0)), some (.inl x1), some (.inl x2), some (.inl x3), some (.inl x4), some (.inl x5), some (.inl x6), some (.inl x7), some (.inl x8), o9, o10, none, o12, none] [.inr (.inr x0)] H8 = _
      refine Eq.trans (e1 hG PT_154 k154_466 _ _ _) ?_
      show G 154 468 [some (.inr (.inr x0)), some (.inl x1), some (.inl x2), some (.inl x3), some (.inl x4), some (.inl x5), some (.inl x6), some (.inl x7), some (.inl x8), o9, o10, none, o12, none] [.inl x5, .inr (.inr x0)] H8 = _
      refine Eq.trans (e1 hG PT_154 k154_468 _ _ _) ?_
      show G 154 470 [some (.inr (.inr x0)), some (.inl x1), some (.inl x2), some (.inl x3), some (.inl x4), some (.inl x5), some (.inl x6), some (.inl x7), some (.inl x8), o9, o10, none, o12, none] [.inl x8, .inl x5, .inr (.inr x0)] H8 = _
      refine Eq.trans (e1 hG PT_154 k154_470 _ _ _) ?_
      refine bfc ?_ ?_
      · refine bdc fun u9 => ?_
        refine bdc fun i10 => ?_
        show G 154 473 [some (.inr (.inr x0)), some (.inl x1), some (.inl x2), some (.inl x3), some (.inl x4), some (.inl x5), some (.inl x6), some (.inl x7), some (.inl x8), o9, o10, none, o12, none] [.inl i10] u9.2 = _
        refine Eq.trans (e1 hG PT_154 k154_473 _ _ _) ?_
        refine bfc ?_ ?_
        · rfl
        · show G 154 476 [some (.inr (.inr x0)), some (.inl x1), some (.inl x2), some (.inl x3), some (.inl x4), some (.inl x5), some (.inl x6), some (.inl x7), some (.inl x8), o9, o10, none, o12, none] [] u9.2 = _
          refine Eq.trans (e1 hG PT_154 k154_476 _ _ _) ?_
          show G 154 477 [some (.inr (.inr x0)), some (.inl x1), some (.inl x2), some (.inl x3), some (.inl x4), some (.inl x5), some (.inl x6), some (.inl x7), some (.inl x8), o9, o10, none, o12, none] [.inl 0] u9.2 = _
          exact e1 hG PT_154 k154_477 _ _ _
      · rfl
    · rfl
  · show G 154 435 [some (.inr (.inr x0)), some (.inl x1), some (.inl x2), some (.inl x3), some (.inl x4), some (.inl x5), some (.inl x6), some (.inl x7), some (.inl x8), o9, o10, none, o12, none] [] H = _
    refine Eq.trans (e1 hG PT_154 k154_435 _ _ _) ?_
    show G 154 436 [some (.inr (.inr x0)), some (.inl x1), some (.inl x2), some (.inl x3), some (.inl x4), some (.inl x5), some (.inl x6), some (.inl x7), some (.inl x8), o9, o10, none, o12, none] [.inl 0] H = _
    exact e1 hG PT_154 k154_436 _ _ _
set_option maxRecDepth 100000 in
theorem b154_478 {G : AG} (hG : FIX G) (x0 : Nat) (x1 : Int32) (x2 : Int32) (x3 : Int32) (x4 : Int32) (x5 : Int32) (x6 : Int32) (x7 : Int32) (x8 : Int32) (o9 : Option AV) (o10 : Option AV) (o12 : Option AV) (H : Hp) : G 154 478 [some (.inr (.inr x0)), some (.inl x1), some (.inl x2), some (.inl x3), some (.inl x4), some (.inl x5), some (.inl x6), some (.inl x7), some (.inl x8), o9, o10, none, o12, none] [] H = (G 154 18 [some (.inr (.inr x0)), some (.inl x1), some (.inl x2), some (.inl x3), some (.inl x4), some (.inl x5), some (.inl (x6 + 1)), some (.inl x7), some (.inl x8), o9, o10, none, o12, none] [] H) := by
  refine Eq.trans (e1 hG PT_154 k154_478 _ _ _) ?_
  show G 154 481 [some (.inr (.inr x0)), some (.inl x1), some (.inl x2), some (.inl x3), some (.inl x4), some (.inl x5), some (.inl (x6 + 1)), some (.inl x7), some (.inl x8), o9, o10, none, o12, none] [] H = _
  refine Eq.trans (e1 hG PT_154 k154_481 _ _ _) ?_
  rfl
set_option maxRecDepth 100000 in
theorem b154_487 {G : AG} (hG : FIX G) (x0 : Nat) (x1 : Int32) (x2 : Int32) (x3 : Int32) (x4 : Int32) (x5 : Int32) (x6 : Int32) (o7 : Option AV) (o8 : Option AV) (o9 : Option AV) (o10 : Option AV) (o12 : Option AV) (H : Hp) : G 154 487 [some (.inr (.inr x0)), some (.inl x1), some (.inl x2), some (.inl x3), some (.inl x4), some (.inl x5), some (.inl x6), o7, o8, o9, o10, none, o12, none] [] H = (bif decide ((252 : Int32) ≤ (x6 : Int32)) then retZ 1 H else (hgR H x0 67).bind fun r1 => (hgR H x0 67).bind fun r2 => (hAJ H r2 ((4032 + x6))).bind fun j3 => (hSJ H r1 (((252 * ((2 * x1) + x2)) + x6)) j3).bind fun H4 => G 154 487 [some (.inr (.inr x0)), some (.inl x1), some (.inl x2), some (.inl x3), some (.inl x4), some (.inl x5), some (.inl (x6 + 1)), o7, o8, o9, o10, none, o12, none] [] H4) := by
  refine Eq.trans (e1 hG PT_154 k154_487 _ _ _) ?_
  show G 154 489 [some (.inr (.inr x0)), some (.inl x1), some (.inl x2), some (.inl x3), some (.inl x4), some (.inl x5), some (.inl x6), o7, o8, o9, o10, none, o12, none] [.inl x6] H = _
  refine Eq.trans (e1 hG PT_154 k154_489 _ _ _) ?_
  show G 154 492 [some (.inr (.inr x0)), some (.inl x1), some (.inl x2), some (.inl x3), some (.inl x4), some (.inl x5), some (.inl x6), o7, o8, o9, o10, none, o12, none] [.inl 252, .inl x6] H = _
  refine Eq.trans (e1 hG PT_154 k154_492 _ _ _) ?_
  refine bfc ?_ ?_
  · show G 154 529 [some (.inr (.inr x0)), some (.inl x1), some (.inl x2), some (.inl x3), some (.inl x4), some (.inl x5), some (.inl x6), o7, o8, o9, o10, none, o12, none] [] H = _
    refine Eq.trans (e1 hG PT_154 k154_529 _ _ _) ?_
    show G 154 530 [some (.inr (.inr x0)), some (.inl x1), some (.inl x2), some (.inl x3), some (.inl x4), some (.inl x5), some (.inl x6), o7, o8, o9, o10, none, o12, none] [.inl 1] H = _
    exact e1 hG PT_154 k154_530 _ _ _
  · show G 154 495 [some (.inr (.inr x0)), some (.inl x1), some (.inl x2), some (.inl x3), some (.inl x4), some (.inl x5), some (.inl x6), o7, o8, o9, o10, none, o12, none] [] H = _
    refine Eq.trans (e1 hG PT_154 k154_495 _ _ _) ?_
    show G 154 496 [some (.inr (.inr x0)), some (.inl x1), some (.inl x2), some (.inl x3), some (.inl x4), some (.inl x5), some (.inl x6), o7, o8, o9, o10, none, o12, none] [.inr (.inr x0)] H = _
    refine Eq.trans (e1 hG PT_154 k154_496 _ _ _) ?_
    refine bdc fun r1 => ?_
    show G 154 499 [some (.inr (.inr x0)), some (.inl x1), some (.inl x2), some (.inl x3), some (.inl x4), some (.inl x5), some (.inl x6), o7, o8, o9, o10, none, o12, none] [.inr (.inr r1)] H = _
    refine Eq.trans (e1 hG PT_154 k154_499 _ _ _) ?_
    show G 154 502 [some (.inr (.inr x0)), some (.inl x1), some (.inl x2), some (.inl x3), some (.inl x4), some (.inl x5), some (.inl x6), o7, o8, o9, o10, none, o12, none] [.inl 252, .inr (.inr r1)] H = _
    refine Eq.trans (e1 hG PT_154 k154_502 _ _ _) ?_
    show G 154 503 [some (.inr (.inr x0)), some (.inl x1), some (.inl x2), some (.inl x3), some (.inl x4), some (.inl x5), some (.inl x6), o7, o8, o9, o10, none, o12, none] [.inl 2, .inl 252, .inr (.inr r1)] H = _
    refine Eq.trans (e1 hG PT_154 k154_503 _ _ _) ?_
    show G 154 504 [some (.inr (.inr x0)), some (.inl x1), some (.inl x2), some (.inl x3), some (.inl x4), some (.inl x5), some (.inl x6), o7, o8, o9, o10, none, o12, none] [.inl x1, .inl 2, .inl 252, .inr (.inr r1)] H = _
    refine Eq.trans (e1 hG PT_154 k154_504 _ _ _) ?_
    show G 154 505 [some (.inr (.inr x0)), some (.inl x1), some (.inl x2), some (.inl x3), some (.inl x4), some (.inl x5), some (.inl x6), o7, o8, o9, o10, none, o12, none] [.inl (2 * x1), .inl 252, .inr (.inr r1)] H = _
    refine Eq.trans (e1 hG PT_154 k154_505 _ _ _) ?_
    show G 154 506 [some (.inr (.inr x0)), some (.inl x1), some (.inl x2), some (.inl x3), some (.inl x4), some (.inl x5), some (.inl x6), o7, o8, o9, o10, none, o12, none] [.inl x2, .inl (2 * x1), .inl 252, .inr (.inr r1)] H = _
    refine Eq.trans (e1 hG PT_154 k154_506 _ _ _) ?_
    show G 154 507 [some (.inr (.inr x0)), some (.inl x1), some (.inl x2), some (.inl x3), some (.inl x4), some (.inl x5), some (.inl x6), o7, o8, o9, o10, none, o12, none] [.inl ((2 * x1) + x2), .inl 252, .inr (.inr r1)] H = _
    refine Eq.trans (e1 hG PT_154 k154_507 _ _ _) ?_
    show G 154 508 [some (.inr (.inr x0)), some (.inl x1), some (.inl x2), some (.inl x3), some (.inl x4), some (.inl x5), some (.inl x6), o7, o8, o9, o10, none, o12, none] [.inl (252 * ((2 * x1) + x2)), .inr (.inr r1)] H = _
    refine Eq.trans (e1 hG PT_154 k154_508 _ _ _) ?_
    show G 154 510 [some (.inr (.inr x0)), some (.inl x1), some (.inl x2), some (.inl x3), some (.inl x4), some (.inl x5), some (.inl x6), o7, o8, o9, o10, none, o12, none] [.inl x6, .inl (252 * ((2 * x1) + x2)), .inr (.inr r1)] H = _
    refine Eq.trans (e1 hG PT_154 k154_510 _ _ _) ?_
    show G 154 511 [some (.inr (.inr x0)), some (.inl x1), some (.inl x2), some (.inl x3), some (.inl x4), some (.inl x5), some (.inl x6), o7, o8, o9, o10, none, o12, none] [.inl ((252 * ((2 * x1) + x2)) + x6), .inr (.inr r1)] H = _
    refine Eq.trans (e1 hG PT_154 k154_511 _ _ _) ?_
    show G 154 512 [some (.inr (.inr x0)), some (.inl x1), some (.inl x2), some (.inl x3), some (.inl x4), some (.inl x5), some (.inl x6), o7, o8, o9, o10, none, o12, none] [.inr (.inr x0), .inl ((252 * ((2 * x1) + x2)) + x6), .inr (.inr r1)] H = _
    refine Eq.trans (e1 hG PT_154 k154_512 _ _ _) ?_
    refine bdc fun r2 => ?_
    show G 154 515 [some (.inr (.inr x0)), some (.inl x1), some (.inl x2), some (.inl x3), some (.inl x4), some (.inl x5), some (.inl x6), o7, o8, o9, o10, none, o12, none] [.inr (.inr r2), .inl ((252 * ((2 * x1) + x2)) + x6), .inr (.inr r1)] H = _
    refine Eq.trans (e1 hG PT_154 k154_515 _ _ _) ?_
    show G 154 518 [some (.inr (.inr x0)), some (.inl x1), some (.inl x2), some (.inl x3), some (.inl x4), some (.inl x5), some (.inl x6), o7, o8, o9, o10, none, o12, none] [.inl 4032, .inr (.inr r2), .inl ((252 * ((2 * x1) + x2)) + x6), .inr (.inr r1)] H = _
    refine Eq.trans (e1 hG PT_154 k154_518 _ _ _) ?_
    show G 154 520 [some (.inr (.inr x0)), some (.inl x1), some (.inl x2), some (.inl x3), some (.inl x4), some (.inl x5), some (.inl x6), o7, o8, o9, o10, none, o12, none] [.inl x6, .inl 4032, .inr (.inr r2), .inl ((252 * ((2 * x1) + x2)) + x6), .inr (.inr r1)] H = _
    refine Eq.trans (e1 hG PT_154 k154_520 _ _ _) ?_
    show G 154 521 [some (.inr (.inr x0)), some (.inl x1), some (.inl x2), some (.inl x3), some (.inl x4), some (.inl x5), some (.inl x6), o7, o8, o9, o10, none, o12, none] [.inl (4032 + x6), .inr (.inr r2), .inl ((252 * ((2 * x1) + x2)) + x6), .inr (.inr r1)] H = _
    refine Eq.trans (e1 hG PT_154 k154_521 _ _ _) ?_
    refine bdc fun j3 => ?_
    show G 154 522 [some (.inr (.inr x0)), some (.inl x1), some (.inl x2), some (.inl x3), some (.inl x4), some (.inl x5), some (.inl x6), o7, o8, o9, o10, none, o12, none] [.inr (.inl j3), .inl ((252 * ((2 * x1) + x2)) + x6), .inr (.inr r1)] H = _
    refine Eq.trans (e1 hG PT_154 k154_522 _ _ _) ?_
    refine bdc fun H4 => ?_
    show G 154 523 [some (.inr (.inr x0)), some (.inl x1), some (.inl x2), some (.inl x3), some (.inl x4), some (.inl x5), some (.inl x6), o7, o8, o9, o10, none, o12, none] [] H4 = _
    refine Eq.trans (e1 hG PT_154 k154_523 _ _ _) ?_
    show G 154 526 [some (.inr (.inr x0)), some (.inl x1), some (.inl x2), some (.inl x3), some (.inl x4), some (.inl x5), some (.inl (x6 + 1)), o7, o8, o9, o10, none, o12, none] [] H4 = _
    refine Eq.trans (e1 hG PT_154 k154_526 _ _ _) ?_
    rfl
-- StepsAheadModel.empty(I)V
theorem PT_155 : PT 155 = pt155 := rfl
theorem k155_0 : lkp pt155 0 = iP 1 (fK (.inl 0)) := rfl
theorem k155_1 : lkp pt155 1 = iP 2 (fIst 2) := rfl
theorem k155_2 : lkp pt155 2 = iP 3 (fIld 2) := rfl
theorem k155_3 : lkp pt155 3 = iP 6 (fK (.inl 252)) := rfl
theorem k155_6 : lkp pt155 6 = iB 9 28 (b2 (fun x y => decide (y ≤ x))) := rfl
theorem k155_9 : lkp pt155 9 = iP 10 (fAld 0) := rfl
theorem k155_10 : lkp pt155 10 = iRR 13 (gtR 67) := rfl
theorem k155_13 : lkp pt155 13 = iP 16 (fK (.inl 252)) := rfl
theorem k155_16 : lkp pt155 16 = iP 17 (fIld 1) := rfl
theorem k155_17 : lkp pt155 17 = iP 18 (f2I (fun x y => x * y)) := rfl
theorem k155_18 : lkp pt155 18 = iP 19 (fIld 2) := rfl
theorem k155_19 : lkp pt155 19 = iP 20 (f2I (fun x y => x + y)) := rfl
theorem k155_20 : lkp pt155 20 = iP 21 (fK (.inr (.inl 0))) := rfl
theorem k155_21 : lkp pt155 21 = iW 22 wAJ := rfl
theorem k155_22 : lkp pt155 22 = iP 25 (fInc 2 1) := rfl
theorem k155_25 : lkp pt155 25 = iP 2 fGo := rfl
theorem k155_28 : lkp pt155 28 = iRet rV := rfl
theorem b155_0 {G : AG} (hG : FIX G) (x0 : Nat) (x1 : Int32) (H : Hp) : G 155 0 [some (.inr (.inr x0)), some (.inl x1), none] [] H = (G 155 2 [some (.inr (.inr x0)), some (.inl x1), some (.inl 0)] [] H) := by
  refine Eq.trans (e1 hG PT_155 k155_0 _ _ _) ?_
  show G 155 1 [some (.inr (.inr x0)), some (.inl x1), none] [.inl 0] H = _
  refine Eq.trans (e1 hG PT_155 k155_1 _ _ _) ?_
  rfl
theorem b155_2 {G : AG} (hG : FIX G) (x0 : Nat) (x1 : Int32) (x2 : Int32) (H : Hp) : G 155 2 [some (.inr (.inr x0)), some (.inl x1), some (.inl x2)] [] H = (bif decide ((252 : Int32) ≤ (x2 : Int32)) then some (none, H) else (hgR H x0 67).bind fun r1 => (hSJ H r1 (((252 * x1) + x2)) 0).bind fun H2 => G 155 2 [some (.inr (.inr x0)), some (.inl x1), some (.inl (x2 + 1))] [] H2) := by
  refine Eq.trans (e1 hG PT_155 k155_2 _ _ _) ?_
  show G 155 3 [some (.inr (.inr x0)), some (.inl x1), some (.inl x2)] [.inl x2] H = _
  refine Eq.trans (e1 hG PT_155 k155_3 _ _ _) ?_
  show G 155 6 [some (.inr (.inr x0)), some (.inl x1), some (.inl x2)] [.inl 252, .inl x2] H = _
  refine Eq.trans (e1 hG PT_155 k155_6 _ _ _) ?_
  refine bfc ?_ ?_
  · show G 155 28 [some (.inr (.inr x0)), some (.inl x1), some (.inl x2)] [] H = _
    exact e1 hG PT_155 k155_28 _ _ _
  · show G 155 9 [some (.inr (.inr x0)), some (.inl x1), some (.inl x2)] [] H = _
    refine Eq.trans (e1 hG PT_155 k155_9 _ _ _) ?_
    show G 155 10 [some (.inr (.inr x0)), some (.inl x1), some (.inl x2)] [.inr (.inr x0)] H = _
    refine Eq.trans (e1 hG PT_155 k155_10 _ _ _) ?_
    refine bdc fun r1 => ?_
    show G 155 13 [some (.inr (.inr x0)), some (.inl x1), some (.inl x2)] [.inr (.inr r1)] H = _
    refine Eq.trans (e1 hG PT_155 k155_13 _ _ _) ?_
    show G 155 16 [some (.inr (.inr x0)), some (.inl x1), some (.inl x2)] [.inl 252, .inr (.inr r1)] H = _
    refine Eq.trans (e1 hG PT_155 k155_16 _ _ _) ?_
    show G 155 17 [some (.inr (.inr x0)), some (.inl x1), some (.inl x2)] [.inl x1, .inl 252, .inr (.inr r1)] H = _
    refine Eq.trans (e1 hG PT_155 k155_17 _ _ _) ?_
    show G 155 18 [some (.inr (.inr x0)), some (.inl x1), some (.inl x2)] [.inl (252 * x1), .inr (.inr r1)] H = _
    refine Eq.trans (e1 hG PT_155 k155_18 _ _ _) ?_
    show G 155 19 [some (.inr (.inr x0)), some (.inl x1), some (.inl x2)] [.inl x2, .inl (252 * x1), .inr (.inr r1)] H = _
    refine Eq.trans (e1 hG PT_155 k155_19 _ _ _) ?_
    show G 155 20 [some (.inr (.inr x0)), some (.inl x1), some (.inl x2)] [.inl ((252 * x1) + x2), .inr (.inr r1)] H = _
    refine Eq.trans (e1 hG PT_155 k155_20 _ _ _) ?_
    show G 155 21 [some (.inr (.inr x0)), some (.inl x1), some (.inl x2)] [.inr (.inl 0), .inl ((252 * x1) + x2), .inr (.inr r1)] H = _
    refine Eq.trans (e1 hG PT_155 k155_21 _ _ _) ?_
    refine bdc fun H2 => ?_
    show G 155 22 [some (.inr (.inr x0)), some (.inl x1), some (.inl x2)] [] H2 = _
    refine Eq.trans (e1 hG PT_155 k155_22 _ _ _) ?_
    show G 155 25 [some (.inr (.inr x0)), some (.inl x1), some (.inl (x2 + 1))] [] H2 = _
    refine Eq.trans (e1 hG PT_155 k155_25 _ _ _) ?_
    rfl
-- StepsAheadModel.joins(II)Z
theorem PT_156 : PT 156 = pt156 := rfl
theorem k156_0 : lkp pt156 0 = iP 1 (fAld 0) := rfl
theorem k156_1 : lkp pt156 1 = iP 2 (fIld 2) := rfl
theorem k156_2 : lkp pt156 2 = iCK 5 12 157 4 2 1 := rfl
theorem k156_5 : lkp pt156 5 = iB 8 10 (b1 (fun x => decide (x ≠ 0))) := rfl
theorem k156_8 : lkp pt156 8 = iP 9 (fK (.inl 0)) := rfl
theorem k156_9 : lkp pt156 9 = iRet rZ := rfl
theorem k156_10 : lkp pt156 10 = iP 11 (fK (.inl 0)) := rfl
theorem k156_11 : lkp pt156 11 = iP 12 (fIst 3) := rfl
theorem k156_12 : lkp pt156 12 = iP 13 (fIld 3) := rfl
theorem k156_13 : lkp pt156 13 = iP 16 (fK (.inl 252)) := rfl
theorem k156_16 : lkp pt156 16 = iB 19 52 (b2 (fun x y => decide (y ≤ x))) := rfl
theorem k156_19 : lkp pt156 19 = iP 20 (fAld 0) := rfl
theorem k156_20 : lkp pt156 20 = iRR 23 (gtR 67) := rfl
theorem k156_23 : lkp pt156 23 = iP 26 (fK (.inl 252)) := rfl
theorem k156_26 : lkp pt156 26 = iP 27 (fIld 1) := rfl
theorem k156_27 : lkp pt156 27 = iP 28 (f2I (fun x y => x * y)) := rfl
theorem k156_28 : lkp pt156 28 = iP 29 (fIld 3) := rfl
theorem k156_29 : lkp pt156 29 = iP 30 (f2I (fun x y => x + y)) := rfl
theorem k156_30 : lkp pt156 30 = iP 31 fDup2 := rfl
theorem k156_31 : lkp pt156 31 = iRJ 32 qAJ := rfl
theorem k156_32 : lkp pt156 32 = iP 33 (fAld 0) := rfl
theorem k156_33 : lkp pt156 33 = iRR 36 (gtR 67) := rfl
theorem k156_36 : lkp pt156 36 = iP 39 (fK (.inl 252)) := rfl
theorem k156_39 : lkp pt156 39 = iP 40 (fIld 2) := rfl
theorem k156_40 : lkp pt156 40 = iP 41 (f2I (fun x y => x * y)) := rfl
theorem k156_41 : lkp pt156 41 = iP 42 (fIld 3) := rfl
theorem k156_42 : lkp pt156 42 = iP 43 (f2I (fun x y => x + y)) := rfl
theorem k156_43 : lkp pt156 43 = iRJ 44 qAJ := rfl
theorem k156_44 : lkp pt156 44 = iP 45 (f2J (fun x y => x + y)) := rfl
theorem k156_45 : lkp pt156 45 = iW 46 wAJ := rfl
theorem k156_46 : lkp pt156 46 = iP 49 (fInc 3 1) := rfl
theorem k156_49 : lkp pt156 49 = iP 12 fGo := rfl
theorem k156_52 : lkp pt156 52 = iP 53 (fAld 0) := rfl
theorem k156_53 : lkp pt156 53 = iP 54 (fIld 1) := rfl
theorem k156_54 : lkp pt156 54 = iCK 57 12 157 4 2 1 := rfl
theorem k156_57 : lkp pt156 57 = iRet rZ := rfl
theorem b156_0 {G : AG} (hG : FIX G) (x0 : Nat) (x1 : Int32) (x2 : Int32) (H : Hp) : G 156 0 [some (.inr (.inr x0)), some (.inl x1), some (.inl x2), none] [] H = (bif Nat.beq (H.1 x0).1 12 then (G 157 0 [some (.inr (.inr x0)), some (.inl x2), none, none] [] H).bind fun u1 => (asI u1.1).bind fun i2 => bif decide ((i2 : Int32) ≠ 0) then G 156 12 [some (.inr (.inr x0)), some (.inl x1), some (.inl x2), some (.inl 0)] [] u1.2 else retZ 0 u1.2 else none) := by
  refine Eq.trans (e1 hG PT_156 k156_0 _ _ _) ?_
  show G 156 1 [some (.inr (.inr x0)), some (.inl x1), some (.inl x2), none] [.inr (.inr x0)] H = _
  refine Eq.trans (e1 hG PT_156 k156_1 _ _ _) ?_
  show G 156 2 [some (.inr (.inr x0)), some (.inl x1), some (.inl x2), none] [.inl x2, .inr (.inr x0)] H = _
  refine Eq.trans (e1 hG PT_156 k156_2 _ _ _) ?_
  refine bfc ?_ ?_
  · refine bdc fun u1 => ?_
    refine bdc fun i2 => ?_
    show G 156 5 [some (.inr (.inr x0)), some (.inl x1), some (.inl x2), none] [.inl i2] u1.2 = _
    refine Eq.trans (e1 hG PT_156 k156_5 _ _ _) ?_
    refine bfc ?_ ?_
    · show G 156 10 [some (.inr (.inr x0)), some (.inl x1), some (.inl x2), none] [] u1.2 = _
      refine Eq.trans (e1 hG PT_156 k156_10 _ _ _) ?_
      show G 156 11 [some (.inr (.inr x0)), some (.inl x1), some (.inl x2), none] [.inl 0] u1.2 = _
      refine Eq.trans (e1 hG PT_156 k156_11 _ _ _) ?_
      rfl
    · show G 156 8 [some (.inr (.inr x0)), some (.inl x1), some (.inl x2), none] [] u1.2 = _
      refine Eq.trans (e1 hG PT_156 k156_8 _ _ _) ?_
      show G 156 9 [some (.inr (.inr x0)), some (.inl x1), some (.inl x2), none] [.inl 0] u1.2 = _
      exact e1 hG PT_156 k156_9 _ _ _
  · rfl
theorem b156_12 {G : AG} (hG : FIX G) (x0 : Nat) (x1 : Int32) (x2 : Int32) (x3 : Int32) (H : Hp) : G 156 12 [some (.inr (.inr x0)), some (.inl x1), some (.inl x2), some (.inl x3)] [] H = (bif decide ((252 : Int32) ≤ (x3 : Int32)) then bif Nat.beq (H.1 x0).1 12 then (G 157 0 [some (.inr (.inr x0)), some (.inl x1), none, none] [] H).bind fun u1 => (asI u1.1).bind fun i2 => retZ i2 u1.2 else none else (hgR H x0 67).bind fun r3 => (hAJ H r3 (((252 * x1) + x3))).bind fun j4 => (hgR H x0 67).bind fun r5 => (hAJ H r5 (((252 * x2) + x3))).bind fun j6 => (hSJ H r3 (((252 * x1) + x3)) ((j4 + j6))).bind fun H7 => G 156 12 [some (.inr (.inr x0)), some (.inl x1), some (.inl x2), some (.inl (x3 + 1))] [] H7) := by
  refine Eq.trans (e1 hG PT_156 k156_12 _ _ _) ?_
  show G 156 13 [some (.inr (.inr x0)), some (.inl x1), some (.inl x2), some (.inl x3)] [.inl x3] H = _
  refine Eq.trans (e1 hG PT_156 k156_13 _ _ _) ?_
  show G 156 16 [some (.inr (.inr x0)), some (.inl x1), some (.inl x2), some (.inl x3)] [.inl 252, .inl x3] H = _
  refine Eq.trans (e1 hG PT_156 k156_16 _ _ _) ?_
  refine bfc ?_ ?_
  · show G 156 52 [some (.inr (.inr x0)), some (.inl x1), some (.inl x2), some (.inl x3)] [] H = _
    refine Eq.trans (e1 hG PT_156 k156_52 _ _ _) ?_
    show G 156 53 [some (.inr (.inr x0)), some (.inl x1), some (.inl x2), some (.inl x3)] [.inr (.inr x0)] H = _
    refine Eq.trans (e1 hG PT_156 k156_53 _ _ _) ?_
    show G 156 54 [some (.inr (.inr x0)), some (.inl x1), some (.inl x2), some (.inl x3)] [.inl x1, .inr (.inr x0)] H = _
    refine Eq.trans (e1 hG PT_156 k156_54 _ _ _) ?_
    refine bfc ?_ ?_
    · refine bdc fun u1 => ?_
      refine bdc fun i2 => ?_
      show G 156 57 [some (.inr (.inr x0)), some (.inl x1), some (.inl x2), some (.inl x3)] [.inl i2] u1.2 = _
      exact e1 hG PT_156 k156_57 _ _ _
    · rfl
  · show G 156 19 [some (.inr (.inr x0)), some (.inl x1), some (.inl x2), some (.inl x3)] [] H = _
    refine Eq.trans (e1 hG PT_156 k156_19 _ _ _) ?_
    show G 156 20 [some (.inr (.inr x0)), some (.inl x1), some (.inl x2), some (.inl x3)] [.inr (.inr x0)] H = _
    refine Eq.trans (e1 hG PT_156 k156_20 _ _ _) ?_
    refine bdc fun r3 => ?_
    show G 156 23 [some (.inr (.inr x0)), some (.inl x1), some (.inl x2), some (.inl x3)] [.inr (.inr r3)] H = _
    refine Eq.trans (e1 hG PT_156 k156_23 _ _ _) ?_
    show G 156 26 [some (.inr (.inr x0)), some (.inl x1), some (.inl x2), some (.inl x3)] [.inl 252, .inr (.inr r3)] H = _
    refine Eq.trans (e1 hG PT_156 k156_26 _ _ _) ?_
    show G 156 27 [some (.inr (.inr x0)), some (.inl x1), some (.inl x2), some (.inl x3)] [.inl x1, .inl 252, .inr (.inr r3)] H = _
    refine Eq.trans (e1 hG PT_156 k156_27 _ _ _) ?_
    show G 156 28 [some (.inr (.inr x0)), some (.inl x1), some (.inl x2), some (.inl x3)] [.inl (252 * x1), .inr (.inr r3)] H = _
    refine Eq.trans (e1 hG PT_156 k156_28 _ _ _) ?_
    show G 156 29 [some (.inr (.inr x0)), some (.inl x1), some (.inl x2), some (.inl x3)] [.inl x3, .inl (252 * x1), .inr (.inr r3)] H = _
    refine Eq.trans (e1 hG PT_156 k156_29 _ _ _) ?_
    show G 156 30 [some (.inr (.inr x0)), some (.inl x1), some (.inl x2), some (.inl x3)] [.inl ((252 * x1) + x3), .inr (.inr r3)] H = _
    refine Eq.trans (e1 hG PT_156 k156_30 _ _ _) ?_
    show G 156 31 [some (.inr (.inr x0)), some (.inl x1), some (.inl x2), some (.inl x3)] [.inl ((252 * x1) + x3), .inr (.inr r3), .inl ((252 * x1) + x3), .inr (.inr r3)] H = _
    refine Eq.trans (e1 hG PT_156 k156_31 _ _ _) ?_
    refine bdc fun j4 => ?_
    show G 156 32 [some (.inr (.inr x0)), some (.inl x1), some (.inl x2), some (.inl x3)] [.inr (.inl j4), .inl ((252 * x1) + x3), .inr (.inr r3)] H = _
    refine Eq.trans (e1 hG PT_156 k156_32 _ _ _) ?_
    show G 156 33 [some (.inr (.inr x0)), some (.inl x1), some (.inl x2), some (.inl x3)] [.inr (.inr x0), .inr (.inl j4), .inl ((252 * x1) + x3), .inr (.inr r3)] H = _
    refine Eq.trans (e1 hG PT_156 k156_33 _ _ _) ?_
    refine bdc fun r5 => ?_
    show G 156 36 [some (.inr (.inr x0)), some (.inl x1), some (.inl x2), some (.inl x3)] [.inr (.inr r5), .inr (.inl j4), .inl ((252 * x1) + x3), .inr (.inr r3)] H = _
    refine Eq.trans (e1 hG PT_156 k156_36 _ _ _) ?_
    show G 156 39 [some (.inr (.inr x0)), some (.inl x1), some (.inl x2), some (.inl x3)] [.inl 252, .inr (.inr r5), .inr (.inl j4), .inl ((252 * x1) + x3), .inr (.inr r3)] H = _
    refine Eq.trans (e1 hG PT_156 k156_39 _ _ _) ?_
    show G 156 40 [some (.inr (.inr x0)), some (.inl x1), some (.inl x2), some (.inl x3)] [.inl x2, .inl 252, .inr (.inr r5), .inr (.inl j4), .inl ((252 * x1) + x3), .inr (.inr r3)] H = _
    refine Eq.trans (e1 hG PT_156 k156_40 _ _ _) ?_
    show G 156 41 [some (.inr (.inr x0)), some (.inl x1), some (.inl x2), some (.inl x3)] [.inl (252 * x2), .inr (.inr r5), .inr (.inl j4), .inl ((252 * x1) + x3), .inr (.inr r3)] H = _
    refine Eq.trans (e1 hG PT_156 k156_41 _ _ _) ?_
    show G 156 42 [some (.inr (.inr x0)), some (.inl x1), some (.inl x2), some (.inl x3)] [.inl x3, .inl (252 * x2), .inr (.inr r5), .inr (.inl j4), .inl ((252 * x1) + x3), .inr (.inr r3)] H = _
    refine Eq.trans (e1 hG PT_156 k156_42 _ _ _) ?_
    show G 156 43 [some (.inr (.inr x0)), some (.inl x1), some (.inl x2), some (.inl x3)] [.inl ((252 * x2) + x3), .inr (.inr r5), .inr (.inl j4), .inl ((252 * x1) + x3), .inr (.inr r3)] H = _
    refine Eq.trans (e1 hG PT_156 k156_43 _ _ _) ?_
    refine bdc fun j6 => ?_
    show G 156 44 [some (.inr (.inr x0)), some (.inl x1), some (.inl x2), some (.inl x3)] [.inr (.inl j6), .inr (.inl j4), .inl ((252 * x1) + x3), .inr (.inr r3)] H = _
    refine Eq.trans (e1 hG PT_156 k156_44 _ _ _) ?_
    show G 156 45 [some (.inr (.inr x0)), some (.inl x1), some (.inl x2), some (.inl x3)] [.inr (.inl (j4 + j6)), .inl ((252 * x1) + x3), .inr (.inr r3)] H = _
    refine Eq.trans (e1 hG PT_156 k156_45 _ _ _) ?_
    refine bdc fun H7 => ?_
    show G 156 46 [some (.inr (.inr x0)), some (.inl x1), some (.inl x2), some (.inl x3)] [] H7 = _
    refine Eq.trans (e1 hG PT_156 k156_46 _ _ _) ?_
    show G 156 49 [some (.inr (.inr x0)), some (.inl x1), some (.inl x2), some (.inl (x3 + 1))] [] H7 = _
    refine Eq.trans (e1 hG PT_156 k156_49 _ _ _) ?_
    rfl
-- StepsAheadModel.isGood(I)Z
theorem PT_157 : PT 157 = pt157 := rfl
theorem k157_0 : lkp pt157 0 = iP 1 (fK (.inl 1)) := rfl
theorem k157_1 : lkp pt157 1 = iP 2 (fIst 2) := rfl
theorem k157_2 : lkp pt157 2 = iP 3 (fK (.inl 0)) := rfl
theorem k157_3 : lkp pt157 3 = iP 4 (fIst 3) := rfl
theorem k157_4 : lkp pt157 4 = iP 5 (fIld 3) := rfl
theorem k157_5 : lkp pt157 5 = iP 8 (fK (.inl 252)) := rfl
theorem k157_8 : lkp pt157 8 = iB 11 51 (b2 (fun x y => decide (y ≤ x))) := rfl
theorem k157_11 : lkp pt157 11 = iP 12 (fIld 2) := rfl
theorem k157_12 : lkp pt157 12 = iB 15 43 (b1 (fun x => decide (x = 0))) := rfl
theorem k157_15 : lkp pt157 15 = iP 16 (fAld 0) := rfl
theorem k157_16 : lkp pt157 16 = iRR 19 (gtR 67) := rfl
theorem k157_19 : lkp pt157 19 = iP 22 (fK (.inl 252)) := rfl
theorem k157_22 : lkp pt157 22 = iP 23 (fIld 1) := rfl
theorem k157_23 : lkp pt157 23 = iP 24 (f2I (fun x y => x * y)) := rfl
theorem k157_24 : lkp pt157 24 = iP 25 (fIld 3) := rfl
theorem k157_25 : lkp pt157 25 = iP 26 (f2I (fun x y => x + y)) := rfl
theorem k157_26 : lkp pt157 26 = iRJ 27 qAJ := rfl
theorem k157_27 : lkp pt157 27 = iP 30 (fK (.inr (.inl (-8640000000)))) := rfl
theorem k157_30 : lkp pt157 30 = iP 33 (fK (.inr (.inl 8640000000))) := rfl
theorem k157_33 : lkp pt157 33 = iC 36 130 6 3 1 := rfl
theorem k157_36 : lkp pt157 36 = iB 39 43 (b1 (fun x => decide (x = 0))) := rfl
theorem k157_39 : lkp pt157 39 = iP 40 (fK (.inl 1)) := rfl
theorem k157_40 : lkp pt157 40 = iP 44 fGo := rfl
theorem k157_43 : lkp pt157 43 = iP 44 (fK (.inl 0)) := rfl
theorem k157_44 : lkp pt157 44 = iP 45 (fIst 2) := rfl
theorem k157_45 : lkp pt157 45 = iP 48 (fInc 3 1) := rfl
theorem k157_48 : lkp pt157 48 = iP 4 fGo := rfl
theorem k157_51 : lkp pt157 51 = iP 52 (fIld 2) := rfl
theorem k157_52 : lkp pt157 52 = iRet rZ := rfl
theorem b157_0 {G : AG} (hG : FIX G) (x0 : Nat) (x1 : Int32) (H : Hp) : G 157 0 [some (.inr (.inr x0)), some (.inl x1), none, none] [] H = (G 157 4 [some (.inr (.inr x0)), some (.inl x1), some (.inl 1), some (.inl 0)] [] H) := by
  refine Eq.trans (e1 hG PT_157 k157_0 _ _ _) ?_
  show G 157 1 [some (.inr (.inr x0)), some (.inl x1), none, none] [.inl 1] H = _
  refine Eq.trans (e1 hG PT_157 k157_1 _ _ _) ?_
  show G 157 2 [some (.inr (.inr x0)), some (.inl x1), some (.inl 1), none] [] H = _
  refine Eq.trans (e1 hG PT_157 k157_2 _ _ _) ?_
  show G 157 3 [some (.inr (.inr x0)), some (.inl x1), some (.inl 1), none] [.inl 0] H = _
  refine Eq.trans (e1 hG PT_157 k157_3 _ _ _) ?_
  rfl
theorem b157_4 {G : AG} (hG : FIX G) (x0 : Nat) (x1 : Int32) (x2 : Int32) (x3 : Int32) (H : Hp) : G 157 4 [some (.inr (.inr x0)), some (.inl x1), some (.inl x2), some (.inl x3)] [] H = (bif decide ((252 : Int32) ≤ (x3 : Int32)) then retZ x2 H else bif decide ((x2 : Int32) = 0) then G 157 43 [some (.inr (.inr x0)), some (.inl x1), some (.inl x2), some (.inl x3)] [] H else (hgR H x0 67).bind fun r1 => (hAJ H r1 (((252 * x1) + x3))).bind fun j2 => (G 130 0 [some (.inr (.inl j2)), none, some (.inr (.inl ((-8640000000)))), none, some (.inr (.inl 8640000000)), none] [] H).bind fun u3 => (asI u3.1).bind fun i4 => bif decide ((i4 : Int32) = 0) then G 157 43 [some (.inr (.inr x0)), some (.inl x1), some (.inl x2), some (.inl x3)] [] u3.2 else G 157 44 [some (.inr (.inr x0)), some (.inl x1), some (.inl x2), some (.inl x3)] [.inl 1] u3.2) := by
  refine Eq.trans (e1 hG PT_157 k157_4 _ _ _) ?_
  show G 157 5 [some (.inr (.inr x0)), some (.inl x1), some (.inl x2), some (.inl x3)] [.inl x3] H = _
  refine Eq.trans (e1 hG PT_157 k157_5 _ _ _) ?_
  show G 157 8 [some (.inr (.inr x0)), some (.inl x1), some (.inl x2), some (.inl x3)] [.inl 252, .inl x3] H = _
  refine Eq.trans (e1 hG PT_157 k157_8 _ _ _) ?_
  refine bfc ?_ ?_
  · show G 157 51 [some (.inr (.inr x0)), some (.inl x1), some (.inl x2), some (.inl x3)] [] H = _
    refine Eq.trans (e1 hG PT_157 k157_51 _ _ _) ?_
    show G 157 52 [some (.inr (.inr x0)), some (.inl x1), some (.inl x2), some (.inl x3)] [.inl x2] H = _
    exact e1 hG PT_157 k157_52 _ _ _
  · show G 157 11 [some (.inr (.inr x0)), some (.inl x1), some (.inl x2), some (.inl x3)] [] H = _
    refine Eq.trans (e1 hG PT_157 k157_11 _ _ _) ?_
    show G 157 12 [some (.inr (.inr x0)), some (.inl x1), some (.inl x2), some (.inl x3)] [.inl x2] H = _
    refine Eq.trans (e1 hG PT_157 k157_12 _ _ _) ?_
    refine bfc ?_ ?_
    · rfl
    · show G 157 15 [some (.inr (.inr x0)), some (.inl x1), some (.inl x2), some (.inl x3)] [] H = _
      refine Eq.trans (e1 hG PT_157 k157_15 _ _ _) ?_
      show G 157 16 [some (.inr (.inr x0)), some (.inl x1), some (.inl x2), some (.inl x3)] [.inr (.inr x0)] H = _
      refine Eq.trans (e1 hG PT_157 k157_16 _ _ _) ?_
      refine bdc fun r1 => ?_
      show G 157 19 [some (.inr (.inr x0)), some (.inl x1), some (.inl x2), some (.inl x3)] [.inr (.inr r1)] H = _
      refine Eq.trans (e1 hG PT_157 k157_19 _ _ _) ?_
      show G 157 22 [some (.inr (.inr x0)), some (.inl x1), some (.inl x2), some (.inl x3)] [.inl 252, .inr (.inr r1)] H = _
      refine Eq.trans (e1 hG PT_157 k157_22 _ _ _) ?_
      show G 157 23 [some (.inr (.inr x0)), some (.inl x1), some (.inl x2), some (.inl x3)] [.inl x1, .inl 252, .inr (.inr r1)] H = _
      refine Eq.trans (e1 hG PT_157 k157_23 _ _ _) ?_
      show G 157 24 [some (.inr (.inr x0)), some (.inl x1), some (.inl x2), some (.inl x3)] [.inl (252 * x1), .inr (.inr r1)] H = _
      refine Eq.trans (e1 hG PT_157 k157_24 _ _ _) ?_
      show G 157 25 [some (.inr (.inr x0)), some (.inl x1), some (.inl x2), some (.inl x3)] [.inl x3, .inl (252 * x1), .inr (.inr r1)] H = _
      refine Eq.trans (e1 hG PT_157 k157_25 _ _ _) ?_
      show G 157 26 [some (.inr (.inr x0)), some (.inl x1), some (.inl x2), some (.inl x3)] [.inl ((252 * x1) + x3), .inr (.inr r1)] H = _
      refine Eq.trans (e1 hG PT_157 k157_26 _ _ _) ?_
      refine bdc fun j2 => ?_
      show G 157 27 [some (.inr (.inr x0)), some (.inl x1), some (.inl x2), some (.inl x3)] [.inr (.inl j2)] H = _
      refine Eq.trans (e1 hG PT_157 k157_27 _ _ _) ?_
      show G 157 30 [some (.inr (.inr x0)), some (.inl x1), some (.inl x2), some (.inl x3)] [.inr (.inl (-8640000000)), .inr (.inl j2)] H = _
      refine Eq.trans (e1 hG PT_157 k157_30 _ _ _) ?_
      show G 157 33 [some (.inr (.inr x0)), some (.inl x1), some (.inl x2), some (.inl x3)] [.inr (.inl 8640000000), .inr (.inl (-8640000000)), .inr (.inl j2)] H = _
      refine Eq.trans (e1 hG PT_157 k157_33 _ _ _) ?_
      refine bdc fun u3 => ?_
      refine bdc fun i4 => ?_
      show G 157 36 [some (.inr (.inr x0)), some (.inl x1), some (.inl x2), some (.inl x3)] [.inl i4] u3.2 = _
      refine Eq.trans (e1 hG PT_157 k157_36 _ _ _) ?_
      refine bfc ?_ ?_
      · rfl
      · show G 157 39 [some (.inr (.inr x0)), some (.inl x1), some (.inl x2), some (.inl x3)] [] u3.2 = _
        refine Eq.trans (e1 hG PT_157 k157_39 _ _ _) ?_
        show G 157 40 [some (.inr (.inr x0)), some (.inl x1), some (.inl x2), some (.inl x3)] [.inl 1] u3.2 = _
        refine Eq.trans (e1 hG PT_157 k157_40 _ _ _) ?_
        rfl
theorem b157_43 {G : AG} (hG : FIX G) (x0 : Nat) (x1 : Int32) (x2 : Int32) (x3 : Int32) (H : Hp) : G 157 43 [some (.inr (.inr x0)), some (.inl x1), some (.inl x2), some (.inl x3)] [] H = (G 157 44 [some (.inr (.inr x0)), some (.inl x1), some (.inl x2), some (.inl x3)] [.inl 0] H) := by
  refine Eq.trans (e1 hG PT_157 k157_43 _ _ _) ?_
  rfl
theorem b157_44 {G : AG} (hG : FIX G) (x0 : Nat) (x1 : Int32) (x2 : Int32) (x3 : Int32) (s0 : Int32) (H : Hp) : G 157 44 [some (.inr (.inr x0)), some (.inl x1), some (.inl x2), some (.inl x3)] [.inl s0] H = (G 157 4 [some (.inr (.inr x0)), some (.inl x1), some (.inl s0), some (.inl (x3 + 1))] [] H) := by
  refine Eq.trans (e1 hG PT_157 k157_44 _ _ _) ?_
  show G 157 45 [some (.inr (.inr x0)), some (.inl x1), some (.inl s0), some (.inl x3)] [] H = _
  refine Eq.trans (e1 hG PT_157 k157_45 _ _ _) ?_
  show G 157 48 [some (.inr (.inr x0)), some (.inl x1), some (.inl s0), some (.inl (x3 + 1))] [] H = _
  refine Eq.trans (e1 hG PT_157 k157_48 _ _ _) ?_
  rfl
-- StepsAheadModel.sumUp(III)Z
theorem PT_158 : PT 158 = pt158 := rfl
theorem k158_0 : lkp pt158 0 = iP 1 (fK (.inl 2)) := rfl
theorem k158_1 : lkp pt158 1 = iP 2 (fIld 3) := rfl
theorem k158_2 : lkp pt158 2 = iP 3 (f2I (fun x y => x + y)) := rfl
theorem k158_3 : lkp pt158 3 = iP 5 (fIst 4) := rfl
theorem k158_5 : lkp pt158 5 = iP 7 (fIld 4) := rfl
theorem k158_7 : lkp pt158 7 = iC 10 159 3 1 1 := rfl
theorem k158_10 : lkp pt158 10 = iP 12 (fIst 5) := rfl
theorem k158_12 : lkp pt158 12 = iP 13 (fK (.inl 1)) := rfl
theorem k158_13 : lkp pt158 13 = iP 15 (fIst 6) := rfl
theorem k158_15 : lkp pt158 15 = iP 16 (fK (.inl 0)) := rfl
theorem k158_16 : lkp pt158 16 = iP 18 (fIst 7) := rfl
theorem k158_18 : lkp pt158 18 = iP 20 (fIld 7) := rfl
theorem k158_20 : lkp pt158 20 = iP 21 (fK (.inl 2)) := rfl
theorem k158_21 : lkp pt158 21 = iP 22 (fIld 3) := rfl
theorem k158_22 : lkp pt158 22 = iP 23 (f2I (fun x y => x + y)) := rfl
theorem k158_23 : lkp pt158 23 = iB 26 61 (b2 (fun x y => decide (y ≤ x))) := rfl
theorem k158_26 : lkp pt158 26 = iP 28 (fIld 6) := rfl
theorem k158_28 : lkp pt158 28 = iB 31 52 (b1 (fun x => decide (x = 0))) := rfl
theorem k158_31 : lkp pt158 31 = iP 32 (fAld 0) := rfl
theorem k158_32 : lkp pt158 32 = iRR 35 (gtR 55) := rfl
theorem k158_35 : lkp pt158 35 = iP 37 (fK (.inl 12)) := rfl
theorem k158_37 : lkp pt158 37 = iP 38 (fIld 2) := rfl
theorem k158_38 : lkp pt158 38 = iP 39 (f2I (fun x y => x * y)) := rfl
theorem k158_39 : lkp pt158 39 = iP 40 (fK (.inl 1)) := rfl
theorem k158_40 : lkp pt158 40 = iP 41 (f2I (fun x y => x + y)) := rfl
theorem k158_41 : lkp pt158 41 = iP 43 (fIld 7) := rfl
theorem k158_43 : lkp pt158 43 = iP 44 (f2I (fun x y => x + y)) := rfl
theorem k158_44 : lkp pt158 44 = iRI 45 qAI := rfl
theorem k158_45 : lkp pt158 45 = iB 48 52 (b1 (fun x => decide (x ≠ 0))) := rfl
theorem k158_48 : lkp pt158 48 = iP 49 (fK (.inl 1)) := rfl
theorem k158_49 : lkp pt158 49 = iP 53 fGo := rfl
theorem k158_52 : lkp pt158 52 = iP 53 (fK (.inl 0)) := rfl
theorem k158_53 : lkp pt158 53 = iP 55 (fIst 6) := rfl
theorem k158_55 : lkp pt158 55 = iP 58 (fInc 7 1) := rfl
theorem k158_58 : lkp pt158 58 = iP 18 fGo := rfl
theorem k158_61 : lkp pt158 61 = iP 62 (fK (.inl 0)) := rfl
theorem k158_62 : lkp pt158 62 = iP 64 (fIst 7) := rfl
theorem k158_64 : lkp pt158 64 = iP 66 (fIld 7) := rfl
theorem k158_66 : lkp pt158 66 = iP 69 (fK (.inl 252)) := rfl
theorem k158_69 : lkp pt158 69 = iB 72 86 (b2 (fun x y => decide (y ≤ x))) := rfl
theorem k158_72 : lkp pt158 72 = iP 73 (fAld 0) := rfl
theorem k158_73 : lkp pt158 73 = iRR 76 (gtR 71) := rfl
theorem k158_76 : lkp pt158 76 = iP 78 (fIld 7) := rfl
theorem k158_78 : lkp pt158 78 = iP 79 (fK (.inr (.inl 0))) := rfl
theorem k158_79 : lkp pt158 79 = iW 80 wAJ := rfl
theorem k158_80 : lkp pt158 80 = iP 83 (fInc 7 1) := rfl
theorem k158_83 : lkp pt158 83 = iP 64 fGo := rfl
theorem k158_86 : lkp pt158 86 = iP 88 (fIld 6) := rfl
theorem k158_88 : lkp pt158 88 = iB 91 224 (b1 (fun x => decide (x = 0))) := rfl
theorem k158_91 : lkp pt158 91 = iP 92 (fK (.inl 0)) := rfl
theorem k158_92 : lkp pt158 92 = iP 94 (fIst 7) := rfl
theorem k158_94 : lkp pt158 94 = iP 96 (fIld 7) := rfl
theorem k158_96 : lkp pt158 96 = iP 99 (fK (.inl 252)) := rfl
theorem k158_99 : lkp pt158 99 = iB 102 221 (b2 (fun x y => decide (y ≤ x))) := rfl
theorem k158_102 : lkp pt158 102 = iP 103 (fAld 0) := rfl
theorem k158_103 : lkp pt158 103 = iRR 106 (gtR 67) := rfl
theorem k158_106 : lkp pt158 106 = iP 109 (fK (.inl 252)) := rfl
theorem k158_109 : lkp pt158 109 = iP 110 (fIld 1) := rfl
theorem k158_110 : lkp pt158 110 = iP 111 (f2I (fun x y => x * y)) := rfl
theorem k158_111 : lkp pt158 111 = iP 113 (fIld 7) := rfl
theorem k158_113 : lkp pt158 113 = iP 114 (f2I (fun x y => x + y)) := rfl
theorem k158_114 : lkp pt158 114 = iRJ 115 qAJ := rfl
theorem k158_115 : lkp pt158 115 = iP 117 (fLst 8) := rfl
theorem k158_117 : lkp pt158 117 = iP 118 (fAld 0) := rfl
theorem k158_118 : lkp pt158 118 = iRR 121 (gtR 61) := rfl
theorem k158_121 : lkp pt158 121 = iP 122 (fK (.inl 5)) := rfl
theorem k158_122 : lkp pt158 122 = iP 124 (fIld 7) := rfl
theorem k158_124 : lkp pt158 124 = iP 125 (f2I (fun x y => x * y)) := rfl
theorem k158_125 : lkp pt158 125 = iP 127 (fIld 4) := rfl
theorem k158_127 : lkp pt158 127 = iP 128 (f2I (fun x y => x + y)) := rfl
theorem k158_128 : lkp pt158 128 = iRI 129 qAI := rfl
theorem k158_129 : lkp pt158 129 = iP 131 (fIst 10) := rfl
theorem k158_131 : lkp pt158 131 = iP 132 (fAld 0) := rfl
theorem k158_132 : lkp pt158 132 = iRR 135 (gtR 62) := rfl
theorem k158_135 : lkp pt158 135 = iP 136 (fAld 0) := rfl
theorem k158_136 : lkp pt158 136 = iP 138 (fIld 7) := rfl
theorem k158_138 : lkp pt158 138 = iCK 141 12 160 4 2 1 := rfl
theorem k158_141 : lkp pt158 141 = iP 143 (fIld 10) := rfl
theorem k158_143 : lkp pt158 143 = iP 145 (fIld 5) := rfl
theorem k158_145 : lkp pt158 145 = iP 146 (f2I (fun x y => x * y)) := rfl
theorem k158_146 : lkp pt158 146 = iP 147 (f2I (fun x y => x - y)) := rfl
theorem k158_147 : lkp pt158 147 = iRI 148 qAI := rfl
theorem k158_148 : lkp pt158 148 = iP 150 (fIst 11) := rfl
theorem k158_150 : lkp pt158 150 = iP 151 (fK (.inl 1)) := rfl
theorem k158_151 : lkp pt158 151 = iP 153 (fIst 12) := rfl
theorem k158_153 : lkp pt158 153 = iP 155 (fIld 12) := rfl
theorem k158_155 : lkp pt158 155 = iP 156 (fAld 0) := rfl
theorem k158_156 : lkp pt158 156 = iRR 159 (gtR 55) := rfl
theorem k158_159 : lkp pt158 159 = iP 161 (fK (.inl 12)) := rfl
theorem k158_161 : lkp pt158 161 = iP 162 (fIld 2) := rfl
theorem k158_162 : lkp pt158 162 = iP 163 (f2I (fun x y => x * y)) := rfl
theorem k158_163 : lkp pt158 163 = iRI 164 qAI := rfl
theorem k158_164 : lkp pt158 164 = iB 167 215 (b2 (fun x y => decide (y < x))) := rfl
theorem k158_167 : lkp pt158 167 = iP 168 (fK (.inr (.inl 1))) := rfl
theorem k158_168 : lkp pt158 168 = iP 170 (fLst 13) := rfl
theorem k158_170 : lkp pt158 170 = iP 171 (fK (.inl 0)) := rfl
theorem k158_171 : lkp pt158 171 = iP 173 (fIst 15) := rfl
theorem k158_173 : lkp pt158 173 = iP 175 (fIld 15) := rfl
theorem k158_175 : lkp pt158 175 = iP 177 (fIld 10) := rfl
theorem k158_177 : lkp pt158 177 = iB 180 194 (b2 (fun x y => decide (y ≤ x))) := rfl
theorem k158_180 : lkp pt158 180 = iP 182 (fJld 13) := rfl
theorem k158_182 : lkp pt158 182 = iP 184 (fIld 12) := rfl
theorem k158_184 : lkp pt158 184 = iP 185 fI2l := rfl
theorem k158_185 : lkp pt158 185 = iP 186 (f2J (fun x y => x * y)) := rfl
theorem k158_186 : lkp pt158 186 = iP 188 (fLst 13) := rfl
theorem k158_188 : lkp pt158 188 = iP 191 (fInc 15 1) := rfl
theorem k158_191 : lkp pt158 191 = iP 173 fGo := rfl
theorem k158_194 : lkp pt158 194 = iP 195 (fAld 0) := rfl
theorem k158_195 : lkp pt158 195 = iRR 198 (gtR 71) := rfl
theorem k158_198 : lkp pt158 198 = iP 200 (fIld 11) := rfl
theorem k158_200 : lkp pt158 200 = iP 201 fDup2 := rfl
set_option maxRecDepth 100000 in
theorem k158_201 : lkp pt158 201 = iRJ 202 qAJ := rfl
set_option maxRecDepth 100000 in
theorem k158_202 : lkp pt158 202 = iP 204 (fJld 8) := rfl
set_option maxRecDepth 100000 in
theorem k158_204 : lkp pt158 204 = iP 206 (fJld 13) := rfl
set_option maxRecDepth 100000 in
theorem k158_206 : lkp pt158 206 = iP 207 (f2J (fun x y => x * y)) := rfl
set_option maxRecDepth 100000 in
theorem k158_207 : lkp pt158 207 = iP 208 (f2J (fun x y => x + y)) := rfl
set_option maxRecDepth 100000 in
theorem k158_208 : lkp pt158 208 = iW 209 wAJ := rfl
set_option maxRecDepth 100000 in
theorem k158_209 : lkp pt158 209 = iP 212 (fInc 12 1) := rfl
set_option maxRecDepth 100000 in
theorem k158_212 : lkp pt158 212 = iP 153 fGo := rfl
set_option maxRecDepth 100000 in
theorem k158_215 : lkp pt158 215 = iP 218 (fInc 7 1) := rfl
set_option maxRecDepth 100000 in
theorem k158_218 : lkp pt158 218 = iP 94 fGo := rfl
set_option maxRecDepth 100000 in
theorem k158_221 : lkp pt158 221 = iP 474 fGo := rfl
set_option maxRecDepth 100000 in
theorem k158_224 : lkp pt158 224 = iP 225 (fAld 0) := rfl
set_option maxRecDepth 100000 in
theorem k158_225 : lkp pt158 225 = iP 227 (fK (.inl 58)) := rfl
set_option maxRecDepth 100000 in
theorem k158_227 : lkp pt158 227 = iP 228 (fIld 2) := rfl
set_option maxRecDepth 100000 in
theorem k158_228 : lkp pt158 228 = iP 229 (fK (.inl 0)) := rfl
set_option maxRecDepth 100000 in
theorem k158_229 : lkp pt158 229 = iP 230 (fIld 3) := rfl
set_option maxRecDepth 100000 in
theorem k158_230 : lkp pt158 230 = iCK 233 12 161 13 5 0 := rfl
set_option maxRecDepth 100000 in
theorem k158_233 : lkp pt158 233 = iP 234 (fK (.inl 0)) := rfl
set_option maxRecDepth 100000 in
theorem k158_234 : lkp pt158 234 = iP 236 (fIst 7) := rfl
set_option maxRecDepth 100000 in
theorem k158_236 : lkp pt158 236 = iP 238 (fIld 7) := rfl
set_option maxRecDepth 100000 in
theorem k158_238 : lkp pt158 238 = iP 241 (fK (.inl 252)) := rfl
set_option maxRecDepth 100000 in
theorem k158_241 : lkp pt158 241 = iB 244 426 (b2 (fun x y => decide (y ≤ x))) := rfl
set_option maxRecDepth 100000 in
theorem k158_244 : lkp pt158 244 = iP 245 (fAld 0) := rfl
set_option maxRecDepth 100000 in
theorem k158_245 : lkp pt158 245 = iRR 248 (gtR 67) := rfl
set_option maxRecDepth 100000 in
theorem k158_248 : lkp pt158 248 = iP 251 (fK (.inl 252)) := rfl
set_option maxRecDepth 100000 in
theorem k158_251 : lkp pt158 251 = iP 252 (fIld 1) := rfl
set_option maxRecDepth 100000 in
theorem k158_252 : lkp pt158 252 = iP 253 (f2I (fun x y => x * y)) := rfl
set_option maxRecDepth 100000 in
theorem k158_253 : lkp pt158 253 = iP 255 (fIld 7) := rfl
set_option maxRecDepth 100000 in
theorem k158_255 : lkp pt158 255 = iP 256 (f2I (fun x y => x + y)) := rfl
set_option maxRecDepth 100000 in
theorem k158_256 : lkp pt158 256 = iRJ 257 qAJ := rfl
set_option maxRecDepth 100000 in
theorem k158_257 : lkp pt158 257 = iP 259 (fLst 8) := rfl
set_option maxRecDepth 100000 in
theorem k158_259 : lkp pt158 259 = iP 261 (fJld 8) := rfl
set_option maxRecDepth 100000 in
theorem k158_261 : lkp pt158 261 = iP 262 (fK (.inr (.inl 0))) := rfl
set_option maxRecDepth 100000 in
theorem k158_262 : lkp pt158 262 = iP 263 fLcmp := rfl
set_option maxRecDepth 100000 in
theorem k158_263 : lkp pt158 263 = iB 266 420 (b1 (fun x => decide (x = 0))) := rfl
set_option maxRecDepth 100000 in
theorem k158_266 : lkp pt158 266 = iP 267 (fAld 0) := rfl
set_option maxRecDepth 100000 in
theorem k158_267 : lkp pt158 267 = iP 269 (fIld 7) := rfl
set_option maxRecDepth 100000 in
theorem k158_269 : lkp pt158 269 = iCK 272 12 162 4 2 1 := rfl
set_option maxRecDepth 100000 in
theorem k158_272 : lkp pt158 272 = iP 273 (fK (.inl 5)) := rfl
set_option maxRecDepth 100000 in
theorem k158_273 : lkp pt158 273 = iB 276 278 (b2 (fun x y => decide (x ≠ y))) := rfl
set_option maxRecDepth 100000 in
theorem k158_276 : lkp pt158 276 = iP 277 (fK (.inl 0)) := rfl
set_option maxRecDepth 100000 in
theorem k158_277 : lkp pt158 277 = iRet rZ := rfl
set_option maxRecDepth 100000 in
theorem k158_278 : lkp pt158 278 = iP 279 (fAld 0) := rfl
set_option maxRecDepth 100000 in
theorem k158_279 : lkp pt158 279 = iRR 282 (gtR 61) := rfl
set_option maxRecDepth 100000 in
theorem k158_282 : lkp pt158 282 = iP 283 (fK (.inl 5)) := rfl
set_option maxRecDepth 100000 in
theorem k158_283 : lkp pt158 283 = iP 285 (fIld 7) := rfl
set_option maxRecDepth 100000 in
theorem k158_285 : lkp pt158 285 = iP 286 (f2I (fun x y => x * y)) := rfl
set_option maxRecDepth 100000 in
theorem k158_286 : lkp pt158 286 = iP 288 (fIld 4) := rfl
set_option maxRecDepth 100000 in
theorem k158_288 : lkp pt158 288 = iP 289 (f2I (fun x y => x + y)) := rfl
set_option maxRecDepth 100000 in
theorem k158_289 : lkp pt158 289 = iRI 290 qAI := rfl
set_option maxRecDepth 100000 in
theorem k158_290 : lkp pt158 290 = iP 292 (fIst 10) := rfl
set_option maxRecDepth 100000 in
theorem k158_292 : lkp pt158 292 = iP 293 (fAld 0) := rfl
set_option maxRecDepth 100000 in
theorem k158_293 : lkp pt158 293 = iP 295 (fIld 7) := rfl
set_option maxRecDepth 100000 in
theorem k158_295 : lkp pt158 295 = iCK 298 12 160 4 2 1 := rfl
set_option maxRecDepth 100000 in
theorem k158_298 : lkp pt158 298 = iP 300 (fIld 10) := rfl
set_option maxRecDepth 100000 in
theorem k158_300 : lkp pt158 300 = iP 302 (fIld 5) := rfl
set_option maxRecDepth 100000 in
theorem k158_302 : lkp pt158 302 = iP 303 (f2I (fun x y => x * y)) := rfl
set_option maxRecDepth 100000 in
theorem k158_303 : lkp pt158 303 = iP 304 (f2I (fun x y => x - y)) := rfl
set_option maxRecDepth 100000 in
theorem k158_304 : lkp pt158 304 = iP 306 (fIst 11) := rfl
set_option maxRecDepth 100000 in
theorem k158_306 : lkp pt158 306 = iP 307 (fK (.inl 1)) := rfl
set_option maxRecDepth 100000 in
theorem k158_307 : lkp pt158 307 = iP 309 (fIst 12) := rfl
set_option maxRecDepth 100000 in
theorem k158_309 : lkp pt158 309 = iP 311 (fIld 12) := rfl
set_option maxRecDepth 100000 in
theorem k158_311 : lkp pt158 311 = iP 313 (fIld 10) := rfl
set_option maxRecDepth 100000 in
theorem k158_313 : lkp pt158 313 = iP 314 (fK (.inl 1)) := rfl
set_option maxRecDepth 100000 in
theorem k158_314 : lkp pt158 314 = iP 315 (f2I (fun x y => x + y)) := rfl
set_option maxRecDepth 100000 in
theorem k158_315 : lkp pt158 315 = iB 318 420 (b2 (fun x y => decide (y < x))) := rfl
set_option maxRecDepth 100000 in
theorem k158_318 : lkp pt158 318 = iP 320 (fJld 8) := rfl
set_option maxRecDepth 100000 in
theorem k158_320 : lkp pt158 320 = iP 321 (fAld 0) := rfl
set_option maxRecDepth 100000 in
theorem k158_321 : lkp pt158 321 = iRR 324 (gtR 73) := rfl
set_option maxRecDepth 100000 in
theorem k158_324 : lkp pt158 324 = iP 326 (fK (.inl 6)) := rfl
set_option maxRecDepth 100000 in
theorem k158_326 : lkp pt158 326 = iP 328 (fIld 10) := rfl
set_option maxRecDepth 100000 in
theorem k158_328 : lkp pt158 328 = iP 329 (f2I (fun x y => x * y)) := rfl
set_option maxRecDepth 100000 in
theorem k158_329 : lkp pt158 329 = iP 331 (fIld 12) := rfl
set_option maxRecDepth 100000 in
theorem k158_331 : lkp pt158 331 = iP 332 (f2I (fun x y => x + y)) := rfl
set_option maxRecDepth 100000 in
theorem k158_332 : lkp pt158 332 = iRI 333 qAI := rfl
set_option maxRecDepth 100000 in
theorem k158_333 : lkp pt158 333 = iP 334 fI2l := rfl
set_option maxRecDepth 100000 in
theorem k158_334 : lkp pt158 334 = iP 335 (f2J (fun x y => x * y)) := rfl
set_option maxRecDepth 100000 in
theorem k158_335 : lkp pt158 335 = iP 337 (fLst 13) := rfl
set_option maxRecDepth 100000 in
theorem k158_337 : lkp pt158 337 = iP 338 (fK (.inl 0)) := rfl
set_option maxRecDepth 100000 in
theorem k158_338 : lkp pt158 338 = iP 340 (fIst 15) := rfl
set_option maxRecDepth 100000 in
theorem k158_340 : lkp pt158 340 = iP 342 (fIld 15) := rfl
set_option maxRecDepth 100000 in
theorem k158_342 : lkp pt158 342 = iP 345 (fK (.inl 252)) := rfl
set_option maxRecDepth 100000 in
theorem k158_345 : lkp pt158 345 = iB 348 414 (b2 (fun x y => decide (y ≤ x))) := rfl
set_option maxRecDepth 100000 in
theorem k158_348 : lkp pt158 348 = iP 350 (fJld 13) := rfl
set_option maxRecDepth 100000 in
theorem k158_350 : lkp pt158 350 = iP 351 (fK (.inr (.inl 0))) := rfl
set_option maxRecDepth 100000 in
theorem k158_351 : lkp pt158 351 = iP 352 fLcmp := rfl
set_option maxRecDepth 100000 in
theorem k158_352 : lkp pt158 352 = iB 355 414 (b1 (fun x => decide (x = 0))) := rfl
set_option maxRecDepth 100000 in
theorem k158_355 : lkp pt158 355 = iP 356 (fAld 0) := rfl
set_option maxRecDepth 100000 in
theorem k158_356 : lkp pt158 356 = iRR 359 (gtR 67) := rfl
set_option maxRecDepth 100000 in
theorem k158_359 : lkp pt158 359 = iP 362 (fK (.inl 252)) := rfl
set_option maxRecDepth 100000 in
theorem k158_362 : lkp pt158 362 = iP 364 (fK (.inl 58)) := rfl
set_option maxRecDepth 100000 in
theorem k158_364 : lkp pt158 364 = iP 366 (fIld 12) := rfl
set_option maxRecDepth 100000 in
theorem k158_366 : lkp pt158 366 = iP 367 (f2I (fun x y => x + y)) := rfl
set_option maxRecDepth 100000 in
theorem k158_367 : lkp pt158 367 = iP 368 (f2I (fun x y => x * y)) := rfl
set_option maxRecDepth 100000 in
theorem k158_368 : lkp pt158 368 = iP 370 (fIld 15) := rfl
set_option maxRecDepth 100000 in
theorem k158_370 : lkp pt158 370 = iP 371 (f2I (fun x y => x + y)) := rfl
set_option maxRecDepth 100000 in
theorem k158_371 : lkp pt158 371 = iRJ 372 qAJ := rfl
set_option maxRecDepth 100000 in
theorem k158_372 : lkp pt158 372 = iP 374 (fLst 16) := rfl
set_option maxRecDepth 100000 in
theorem k158_374 : lkp pt158 374 = iP 376 (fJld 16) := rfl
set_option maxRecDepth 100000 in
theorem k158_376 : lkp pt158 376 = iP 377 (fK (.inr (.inl 0))) := rfl
set_option maxRecDepth 100000 in
theorem k158_377 : lkp pt158 377 = iP 378 fLcmp := rfl
set_option maxRecDepth 100000 in
theorem k158_378 : lkp pt158 378 = iB 381 408 (b1 (fun x => decide (x = 0))) := rfl
set_option maxRecDepth 100000 in
theorem k158_381 : lkp pt158 381 = iP 382 (fAld 0) := rfl
set_option maxRecDepth 100000 in
theorem k158_382 : lkp pt158 382 = iRR 385 (gtR 71) := rfl
set_option maxRecDepth 100000 in
theorem k158_385 : lkp pt158 385 = iP 386 (fAld 0) := rfl
set_option maxRecDepth 100000 in
theorem k158_386 : lkp pt158 386 = iRR 389 (gtR 62) := rfl
set_option maxRecDepth 100000 in
theorem k158_389 : lkp pt158 389 = iP 391 (fIld 11) := rfl
set_option maxRecDepth 100000 in
theorem k158_391 : lkp pt158 391 = iP 392 (fAld 0) := rfl
set_option maxRecDepth 100000 in
theorem k158_392 : lkp pt158 392 = iP 394 (fIld 15) := rfl
set_option maxRecDepth 100000 in
theorem k158_394 : lkp pt158 394 = iCK 397 12 160 4 2 1 := rfl
set_option maxRecDepth 100000 in
theorem k158_397 : lkp pt158 397 = iP 398 (f2I (fun x y => x + y)) := rfl
set_option maxRecDepth 100000 in
theorem k158_398 : lkp pt158 398 = iRI 399 qAI := rfl
set_option maxRecDepth 100000 in
theorem k158_399 : lkp pt158 399 = iP 400 fDup2 := rfl
set_option maxRecDepth 100000 in
theorem k158_400 : lkp pt158 400 = iRJ 401 qAJ := rfl
set_option maxRecDepth 100000 in
theorem k158_401 : lkp pt158 401 = iP 403 (fJld 13) := rfl
set_option maxRecDepth 100000 in
theorem k158_403 : lkp pt158 403 = iP 405 (fJld 16) := rfl
set_option maxRecDepth 100000 in
theorem k158_405 : lkp pt158 405 = iP 406 (f2J (fun x y => x * y)) := rfl
set_option maxRecDepth 100000 in
theorem k158_406 : lkp pt158 406 = iP 407 (f2J (fun x y => x + y)) := rfl
set_option maxRecDepth 100000 in
theorem k158_407 : lkp pt158 407 = iW 408 wAJ := rfl
set_option maxRecDepth 100000 in
theorem k158_408 : lkp pt158 408 = iP 411 (fInc 15 1) := rfl
set_option maxRecDepth 100000 in
theorem k158_411 : lkp pt158 411 = iP 340 fGo := rfl
set_option maxRecDepth 100000 in
theorem k158_414 : lkp pt158 414 = iP 417 (fInc 12 1) := rfl
set_option maxRecDepth 100000 in
theorem k158_417 : lkp pt158 417 = iP 309 fGo := rfl
set_option maxRecDepth 100000 in
theorem k158_420 : lkp pt158 420 = iP 423 (fInc 7 1) := rfl
set_option maxRecDepth 100000 in
theorem k158_423 : lkp pt158 423 = iP 236 fGo := rfl
set_option maxRecDepth 100000 in
theorem k158_426 : lkp pt158 426 = iP 427 (fK (.inl 0)) := rfl
set_option maxRecDepth 100000 in
theorem k158_427 : lkp pt158 427 = iP 429 (fIst 7) := rfl
set_option maxRecDepth 100000 in
theorem k158_429 : lkp pt158 429 = iP 431 (fIld 7) := rfl
set_option maxRecDepth 100000 in
theorem k158_431 : lkp pt158 431 = iP 434 (fK (.inl 252)) := rfl
set_option maxRecDepth 100000 in
theorem k158_434 : lkp pt158 434 = iB 437 474 (b2 (fun x y => decide (y ≤ x))) := rfl
set_option maxRecDepth 100000 in
theorem k158_437 : lkp pt158 437 = iP 438 (fAld 0) := rfl
set_option maxRecDepth 100000 in
theorem k158_438 : lkp pt158 438 = iRR 441 (gtR 71) := rfl
set_option maxRecDepth 100000 in
theorem k158_441 : lkp pt158 441 = iP 443 (fIld 7) := rfl
set_option maxRecDepth 100000 in
theorem k158_443 : lkp pt158 443 = iRJ 444 qAJ := rfl
set_option maxRecDepth 100000 in
theorem k158_444 : lkp pt158 444 = iP 447 (fK (.inr (.inl 60))) := rfl
set_option maxRecDepth 100000 in
theorem k158_447 : lkp pt158 447 = iRJ 448 (q2J (fun x y => x - x / y * y)) := rfl
set_option maxRecDepth 100000 in
theorem k158_448 : lkp pt158 448 = iP 449 (fK (.inr (.inl 0))) := rfl
set_option maxRecDepth 100000 in
theorem k158_449 : lkp pt158 449 = iP 450 fLcmp := rfl
set_option maxRecDepth 100000 in
theorem k158_450 : lkp pt158 450 = iB 453 455 (b1 (fun x => decide (x = 0))) := rfl
set_option maxRecDepth 100000 in
theorem k158_453 : lkp pt158 453 = iP 454 (fK (.inl 0)) := rfl
set_option maxRecDepth 100000 in
theorem k158_454 : lkp pt158 454 = iRet rZ := rfl
set_option maxRecDepth 100000 in
theorem k158_455 : lkp pt158 455 = iP 456 (fAld 0) := rfl
set_option maxRecDepth 100000 in
theorem k158_456 : lkp pt158 456 = iRR 459 (gtR 71) := rfl
set_option maxRecDepth 100000 in
theorem k158_459 : lkp pt158 459 = iP 461 (fIld 7) := rfl
set_option maxRecDepth 100000 in
theorem k158_461 : lkp pt158 461 = iP 462 fDup2 := rfl
set_option maxRecDepth 100000 in
theorem k158_462 : lkp pt158 462 = iRJ 463 qAJ := rfl
set_option maxRecDepth 100000 in
theorem k158_463 : lkp pt158 463 = iP 466 (fK (.inr (.inl 60))) := rfl
set_option maxRecDepth 100000 in
theorem k158_466 : lkp pt158 466 = iRJ 467 (q2J (fun x y => x / y)) := rfl
set_option maxRecDepth 100000 in
theorem k158_467 : lkp pt158 467 = iW 468 wAJ := rfl
set_option maxRecDepth 100000 in
theorem k158_468 : lkp pt158 468 = iP 471 (fInc 7 1) := rfl
set_option maxRecDepth 100000 in
theorem k158_471 : lkp pt158 471 = iP 429 fGo := rfl
set_option maxRecDepth 100000 in
theorem k158_474 : lkp pt158 474 = iP 475 (fK (.inl 0)) := rfl
set_option maxRecDepth 100000 in
theorem k158_475 : lkp pt158 475 = iP 477 (fIst 7) := rfl
set_option maxRecDepth 100000 in
theorem k158_477 : lkp pt158 477 = iP 479 (fIld 7) := rfl
set_option maxRecDepth 100000 in
theorem k158_479 : lkp pt158 479 = iP 482 (fK (.inl 252)) := rfl
set_option maxRecDepth 100000 in
theorem k158_482 : lkp pt158 482 = iB 485 511 (b2 (fun x y => decide (y ≤ x))) := rfl
set_option maxRecDepth 100000 in
theorem k158_485 : lkp pt158 485 = iP 486 (fAld 0) := rfl
set_option maxRecDepth 100000 in
theorem k158_486 : lkp pt158 486 = iRR 489 (gtR 67) := rfl
set_option maxRecDepth 100000 in
theorem k158_489 : lkp pt158 489 = iP 492 (fK (.inl 252)) := rfl
set_option maxRecDepth 100000 in
theorem k158_492 : lkp pt158 492 = iP 493 (fIld 1) := rfl
set_option maxRecDepth 100000 in
theorem k158_493 : lkp pt158 493 = iP 494 (f2I (fun x y => x * y)) := rfl
set_option maxRecDepth 100000 in
theorem k158_494 : lkp pt158 494 = iP 496 (fIld 7) := rfl
set_option maxRecDepth 100000 in
theorem k158_496 : lkp pt158 496 = iP 497 (f2I (fun x y => x + y)) := rfl
set_option maxRecDepth 100000 in
theorem k158_497 : lkp pt158 497 = iP 498 (fAld 0) := rfl
set_option maxRecDepth 100000 in
theorem k158_498 : lkp pt158 498 = iRR 501 (gtR 71) := rfl
set_option maxRecDepth 100000 in
theorem k158_501 : lkp pt158 501 = iP 503 (fIld 7) := rfl
set_option maxRecDepth 100000 in
theorem k158_503 : lkp pt158 503 = iRJ 504 qAJ := rfl
set_option maxRecDepth 100000 in
theorem k158_504 : lkp pt158 504 = iW 505 wAJ := rfl
set_option maxRecDepth 100000 in
theorem k158_505 : lkp pt158 505 = iP 508 (fInc 7 1) := rfl
set_option maxRecDepth 100000 in
theorem k158_508 : lkp pt158 508 = iP 477 fGo := rfl
set_option maxRecDepth 100000 in
theorem k158_511 : lkp pt158 511 = iP 512 (fK (.inl 1)) := rfl
set_option maxRecDepth 100000 in
theorem k158_512 : lkp pt158 512 = iRet rZ := rfl
set_option maxRecDepth 100000 in
theorem b158_0 {G : AG} (hG : FIX G) (x0 : Nat) (x1 : Int32) (x2 : Int32) (x3 : Int32) (H : Hp) : G 158 0 [some (.inr (.inr x0)), some (.inl x1), some (.inl x2), some (.inl x3), none, none, none, none, none, none, none, none, none, none, none, none, none, none] [] H = ((G 159 0 [some (.inl ((2 + x3))), none, none] [] H).bind fun u1 => (asI u1.1).bind fun i2 => G 158 18 [some (.inr (.inr x0)), some (.inl x1), some (.inl x2), some (.inl x3), some (.inl (2 + x3)), some (.inl i2), some (.inl 1), some (.inl 0), none, none, none, none, none, none, none, none, none, none] [] u1.2) := by
  refine Eq.trans (e1 hG PT_158 k158_0 _ _ _) ?_
  show G 158 1 [some (.inr (.inr x0)), some (.inl x1), some (.inl x2), some (.inl x3), none, none, none, none, none, none, none, none, none, none, none, none, none, none] [.inl 2] H = _
  refine Eq.trans (e1 hG PT_158 k158_1 _ _ _) ?_
  show G 158 2 [some (.inr (.inr x0)), some (.inl x1), some (.inl x2), some (.inl x3), none, none, none, none, none, none, none, none, none, none, none, none, none, none] [.inl x3, .inl 2] H = _
  refine Eq.trans (e1 hG PT_158 k158_2 _ _ _) ?_
  show G 158 3 [some (.inr (.inr x0)), some (.inl x1), some (.inl x2), some (.inl x3), none, none, none, none, none, none, none, none, none, none, none, none, none, none] [.inl (2 + x3)] H = _
  refine Eq.trans (e1 hG PT_158 k158_3 _ _ _) ?_
  show G 158 5 [some (.inr (.inr x0)), some (.inl x1), some (.inl x2), some (.inl x3), some (.inl (2 + x3)), none, none, none, none, none, none, none, none, none, none, none, none, none] [] H = _
  refine Eq.trans (e1 hG PT_158 k158_5 _ _ _) ?_
  show G 158 7 [some (.inr (.inr x0)), some (.inl x1), some (.inl x2), some (.inl x3), some (.inl (2 + x3)), none, none, none, none, none, none, none, none, none, none, none, none, none] [.inl (2 + x3)] H = _
  refine Eq.trans (e1 hG PT_158 k158_7 _ _ _) ?_
  refine bdc fun u1 => ?_
  refine bdc fun i2 => ?_
  show G 158 10 [some (.inr (.inr x0)), some (.inl x1), some (.inl x2), some (.inl x3), some (.inl (2 + x3)), none, none, none, none, none, none, none, none, none, none, none, none, none] [.inl i2] u1.2 = _
  refine Eq.trans (e1 hG PT_158 k158_10 _ _ _) ?_
  show G 158 12 [some (.inr (.inr x0)), some (.inl x1), some (.inl x2), some (.inl x3), some (.inl (2 + x3)), some (.inl i2), none, none, none, none, none, none, none, none, none, none, none, none] [] u1.2 = _
  refine Eq.trans (e1 hG PT_158 k158_12 _ _ _) ?_
  show G 158 13 [some (.inr (.inr x0)), some (.inl x1), some (.inl x2), some (.inl x3), some (.inl (2 + x3)), some (.inl i2), none, none, none, none, none, none, none, none, none, none, none, none] [.inl 1] u1.2 = _
  refine Eq.trans (e1 hG PT_158 k158_13 _ _ _) ?_
  show G 158 15 [some (.inr (.inr x0)), some (.inl x1), some (.inl x2), some (.inl x3), some (.inl (2 + x3)), some (.inl i2), some (.inl 1), none, none, none, none, none, none, none, none, none, none, none] [] u1.2 = _
  refine Eq.trans (e1 hG PT_158 k158_15 _ _ _) ?_
  show G 158 16 [some (.inr (.inr x0)), some (.inl x1), some (.inl x2), some (.inl x3), some (.inl (2 + x3)), some (.inl i2), some (.inl 1), none, none, none, none, none, none, none, none, none, none, none] [.inl 0] u1.2 = _
  refine Eq.trans (e1 hG PT_158 k158_16 _ _ _) ?_
  rfl
set_option maxRecDepth 100000 in
theorem b158_18 {G : AG} (hG : FIX G) (x0 : Nat) (x1 : Int32) (x2 : Int32) (x3 : Int32) (x4 : Int32) (x5 : Int32) (x6 : Int32) (x7 : Int32) (H : Hp) : G 158 18 [some (.inr (.inr x0)), some (.inl x1), some (.inl x2), some (.inl x3), some (.inl x4), some (.inl x5), some (.inl x6), some (.inl x7), none, none, none, none, none, none, none, none, none, none] [] H = (bif decide (((2 + x3) : Int32) ≤ (x7 : Int32)) then G 158 64 [some (.inr (.inr x0)), some (.inl x1), some (.inl x2), some (.inl x3), some (.inl x4), some (.inl x5), some (.inl x6), some (.inl 0), none, none, none, none, none, none, none, none, none, none] [] H else bif decide ((x6 : Int32) = 0) then G 158 52 [some (.inr (.inr x0)), some (.inl x1), some (.inl x2), some (.inl x3), some (.inl x4), some (.inl x5), some (.inl x6), some (.inl x7), none, none, none, none, none, none, none, none, none, none] [] H else (hgR H x0 55).bind fun r1 => (hAI H r1 ((((12 * x2) + 1) + x7))).bind fun i2 => bif decide ((i2 : Int32) ≠ 0) then G 158 52 [some (.inr (.inr x0)), some (.inl x1), some (.inl x2), some (.inl x3), some (.inl x4), some (.inl x5), some (.inl x6), some (.inl x7), none, none, none, none, none, none, none, none, none, none] [] H else G 158 53 [some (.inr (.inr x0)), some (.inl x1), some (.inl x2), some (.inl x3), some (.inl x4), some (.inl x5), some (.inl x6), some (.inl x7), none, none, none, none, none, none, none, none, none, none] [.inl 1] H) := by
  refine Eq.trans (e1 hG PT_158 k158_18 _ _ _) ?_
  show G 158 20 [some (.inr (.inr x0)), some (.inl x1), some (.inl x2), some (.inl x3), some (.inl x4), some (.inl x5), some (.inl x6), some (.inl x7), none, none, none, none, none, none, none, none, none, none] [.inl x7] H = _
  refine Eq.trans (e1 hG PT_158 k158_20 _ _ _) ?_
  show G 158 21 [some (.inr (.inr x0)), some (.inl x1), some (.inl x2), some (.inl x3), some (.inl x4), some (.inl x5), some (.inl x6), some (.inl x7), none, none, none, none, none, none, none, none, none, none] [.inl 2, .inl x7] H = _
  refine Eq.trans (e1 hG PT_158 k158_21 _ _ _) ?_
  show G 158 22 [some (.inr (.inr x0)), some (.inl x1), some (.inl x2), some (.inl x3), some (.inl x4), some (.inl x5), some (.inl x6), some (.inl x7), none, none, none, none, none, none, none, none, none, none] [.inl x3, .inl 2, .inl x7] H = _
  refine Eq.trans (e1 hG PT_158 k158_22 _ _ _) ?_
  show G 158 23 [some (.inr (.inr x0)), some (.inl x1), some (.inl x2), some (.inl x3), some (.inl x4), some (.inl x5), some (.inl x6), some (.inl x7), none, none, none, none, none, none, none, none, none, none] [.inl (2 + x3), .inl x7] H = _
  refine Eq.trans (e1 hG PT_158 k158_23 _ _ _) ?_
  refine bfc ?_ ?_
  · show G 158 61 [some (.inr (.inr x0)), some (.inl x1), some (.inl x2), some (.inl x3), some (.inl x4), some (.inl x5), some (.inl x6), some (.inl x7), none, none, none, none, none, none, none, none, none, none] [] H = _
    refine Eq.trans (e1 hG PT_158 k158_61 _ _ _) ?_
    show G 158 62 [some (.inr (.inr x0)), some (.inl x1), some (.inl x2), some (.inl x3), some (.inl x4), some (.inl x5), some (.inl x6), some (.inl x7), none, none, none, none, none, none, none, none, none, none] [.inl 0] H = _
    refine Eq.trans (e1 hG PT_158 k158_62 _ _ _) ?_
    rfl
  · show G 158 26 [some (.inr (.inr x0)), some (.inl x1), some (.inl x2), some (.inl x3), some (.inl x4), some (.inl x5), some (.inl x6), some (.inl x7), none, none, none, none, none, none, none, none, none, none] [] H = _
    refine Eq.trans (e1 hG PT_158 k158_26 _ _ _) ?_
    show G 158 28 [some (.inr (.inr x0)), some (.inl x1), some (.inl x2), some (.inl x3), some (.inl x4), some (.inl x5), some (.inl x6), some (.inl x7), none, none, none, none, none, none, none, none, none, none] [.inl x6] H = _
    refine Eq.trans (e1 hG PT_158 k158_28 _ _ _) ?_
    refine bfc ?_ ?_
    · rfl
    · show G 158 31 [some (.inr (.inr x0)), some (.inl x1), some (.inl x2), some (.inl x3), some (.inl x4), some (.inl x5), some (.inl x6), some (.inl x7), none, none, none, none, none, none, none, none, none, none] [] H = _
      refine Eq.trans (e1 hG PT_158 k158_31 _ _ _) ?_
      show G 158 32 [some (.inr (.inr x0)), some (.inl x1), some (.inl x2), some (.inl x3), some (.inl x4), some (.inl x5), some (.inl x6), some (.inl x7), none, none, none, none, none, none, none, none, none, none] [.inr (.inr x0)] H = _
      refine Eq.trans (e1 hG PT_158 k158_32 _ _ _) ?_
      refine bdc fun r1 => ?_
      show G 158 35 [some (.inr (.inr x0)), some (.inl x1), some (.inl x2), some (.inl x3), some (.inl x4), some (.inl x5), some (.inl x6), some (.inl x7), none, none, none, none, none, none, none, none, none, none] [.inr (.inr r1)] H = _
      refine Eq.trans (e1 hG PT_158 k158_35 _ _ _) ?_
      show G 158 37 [some (.inr (.inr x0)), some (.inl x1), some (.inl x2), some (.inl x3), some (.inl x4), some (.inl x5), some (.inl x6), some (.inl x7), none, none, none, none, none, none, none, none, none, none] [.inl 12, .inr (.inr r1)] H = _
      refine Eq.trans (e1 hG PT_158 k158_37 _ _ _) ?_
      show G 158 38 [some (.inr (.inr x0)), some (.inl x1), some (.inl x2), some (.inl x3), some (.inl x4), some (.inl x5), some (.inl x6), some (.inl x7), none, none, none, none, none, none, none, none, none, none] [.inl x2, .inl 12, .inr (.inr r1)] H = _
      refine Eq.trans (e1 hG PT_158 k158_38 _ _ _) ?_
      show G 158 39 [some (.inr (.inr x0)), some (.inl x1), some (.inl x2), some (.inl x3), some (.inl x4), some (.inl x5), some (.inl x6), some (.inl x7), none, none, none, none, none, none, none, none, none, none] [.inl (12 * x2), .inr (.inr r1)] H = _
      refine Eq.trans (e1 hG PT_158 k158_39 _ _ _) ?_
      show G 158 40 [some (.inr (.inr x0)), some (.inl x1), some (.inl x2), some (.inl x3), some (.inl x4), some (.inl x5), some (.inl x6), some (.inl x7), none, none, none, none, none, none, none, none, none, none] [.inl 1, .inl (12 * x2), .inr (.inr r1)] H = _
      refine Eq.trans (e1 hG PT_158 k158_40 _ _ _) ?_
      show G 158 41 [some (.inr (.inr x0)), some (.inl x1), some (.inl x2), some (.inl x3), some (.inl x4), some (.inl x5), some (.inl x6), some (.inl x7), none, none, none, none, none, none, none, none, none, none] [.inl ((12 * x2) + 1), .inr (.inr r1)] H = _
      refine Eq.trans (e1 hG PT_158 k158_41 _ _ _) ?_
      show G 158 43 [some (.inr (.inr x0)), some (.inl x1), some (.inl x2), some (.inl x3), some (.inl x4), some (.inl x5), some (.inl x6), some (.inl x7), none, none, none, none, none, none, none, none, none, none] [.inl x7, .inl ((12 * x2) + 1), .inr (.inr r1)] H = _
      refine Eq.trans (e1 hG PT_158 k158_43 _ _ _) ?_
      show G 158 44 [some (.inr (.inr x0)), some (.inl x1), some (.inl x2), some (.inl x3), some (.inl x4), some (.inl x5), some (.inl x6), some (.inl x7), none, none, none, none, none, none, none, none, none, none] [.inl (((12 * x2) + 1) + x7), .inr (.inr r1)] H = _
      refine Eq.trans (e1 hG PT_158 k158_44 _ _ _) ?_
      refine bdc fun i2 => ?_
      show G 158 45 [some (.inr (.inr x0)), some (.inl x1), some (.inl x2), some (.inl x3), some (.inl x4), some (.inl x5), some (.inl x6), some (.inl x7), none, none, none, none, none, none, none, none, none, none] [.inl i2] H = _
      refine Eq.trans (e1 hG PT_158 k158_45 _ _ _) ?_
      refine bfc ?_ ?_
      · rfl
      · show G 158 48 [some (.inr (.inr x0)), some (.inl x1), some (.inl x2), some (.inl x3), some (.inl x4), some (.inl x5), some (.inl x6), some (.inl x7), none, none, none, none, none, none, none, none, none, none] [] H = _
        refine Eq.trans (e1 hG PT_158 k158_48 _ _ _) ?_
        show G 158 49 [some (.inr (.inr x0)), some (.inl x1), some (.inl x2), some (.inl x3), some (.inl x4), some (.inl x5), some (.inl x6), some (.inl x7), none, none, none, none, none, none, none, none, none, none] [.inl 1] H = _
        refine Eq.trans (e1 hG PT_158 k158_49 _ _ _) ?_
        rfl
set_option maxRecDepth 100000 in
theorem b158_52 {G : AG} (hG : FIX G) (x0 : Nat) (x1 : Int32) (x2 : Int32) (x3 : Int32) (x4 : Int32) (x5 : Int32) (x6 : Int32) (x7 : Int32) (H : Hp) : G 158 52 [some (.inr (.inr x0)), some (.inl x1), some (.inl x2), some (.inl x3), some (.inl x4), some (.inl x5), some (.inl x6), some (.inl x7), none, none, none, none, none, none, none, none, none, none] [] H = (G 158 53 [some (.inr (.inr x0)), some (.inl x1), some (.inl x2), some (.inl x3), some (.inl x4), some (.inl x5), some (.inl x6), some (.inl x7), none, none, none, none, none, none, none, none, none, none] [.inl 0] H) := by
  refine Eq.trans (e1 hG PT_158 k158_52 _ _ _) ?_
  rfl
set_option maxRecDepth 100000 in
theorem b158_53 {G : AG} (hG : FIX G) (x0 : Nat) (x1 : Int32) (x2 : Int32) (x3 : Int32) (x4 : Int32) (x5 : Int32) (x6 : Int32) (x7 : Int32) (s0 : Int32) (H : Hp) : G 158 53 [some (.inr (.inr x0)), some (.inl x1), some (.inl x2), some (.inl x3), some (.inl x4), some (.inl x5), some (.inl x6), some (.inl x7), none, none, none, none, none, none, none, none, none, none] [.inl s0] H = (G 158 18 [some (.inr (.inr x0)), some (.inl x1), some (.inl x2), some (.inl x3), some (.inl x4), some (.inl x5), some (.inl s0), some (.inl (x7 + 1)), none, none, none, none, none, none, none, none, none, none] [] H) := by
  refine Eq.trans (e1 hG PT_158 k158_53 _ _ _) ?_
  show G 158 55 [some (.inr (.inr x0)), some (.inl x1), some (.inl x2), some (.inl x3), some (.inl x4), some (.inl x5), some (.inl s0), some (.inl x7), none, none, none, none, none, none, none, none, none, none] [] H = _
  refine Eq.trans (e1 hG PT_158 k158_55 _ _ _) ?_
  show G 158 58 [some (.inr (.inr x0)), some (.inl x1), some (.inl x2), some (.inl x3), some (.inl x4), some (.inl x5), some (.inl s0), some (.inl (x7 + 1)), none, none, none, none, none, none, none, none, none, none] [] H = _
  refine Eq.trans (e1 hG PT_158 k158_58 _ _ _) ?_
  rfl
set_option maxRecDepth 100000 in
theorem b158_64 {G : AG} (hG : FIX G) (x0 : Nat) (x1 : Int32) (x2 : Int32) (x3 : Int32) (x4 : Int32) (x5 : Int32) (x6 : Int32) (x7 : Int32) (H : Hp) : G 158 64 [some (.inr (.inr x0)), some (.inl x1), some (.inl x2), some (.inl x3), some (.inl x4), some (.inl x5), some (.inl x6), some (.inl x7), none, none, none, none, none, none, none, none, none, none] [] H = (bif decide ((252 : Int32) ≤ (x7 : Int32)) then bif decide ((x6 : Int32) = 0) then bif Nat.beq (H.1 x0).1 12 then (G 161 0 [some (.inr (.inr x0)), some (.inl 58), some (.inl x2), some (.inl 0), some (.inl x3), none, none, none, none, none, none, none, none] [] H).bind fun u1 => (asV u1.1).bind fun _ => G 158 236 [some (.inr (.inr x0)), some (.inl x1), some (.inl x2), some (.inl x3), some (.inl x4), some (.inl x5), some (.inl x6), some (.inl 0), none, none, none, none, none, none, none, none, none, none] [] u1.2 else none else G 158 94 [some (.inr (.inr x0)), some (.inl x1), some (.inl x2), some (.inl x3), some (.inl x4), some (.inl x5), some (.inl x6), some (.inl 0), none, none, none, none, none, none, none, none, none, none] [] H else (hgR H x0 71).bind fun r2 => (hSJ H r2 x7 0).bind fun H3 => G 158 64 [some (.inr (.inr x0)), some (.inl x1), some (.inl x2), some (.inl x3), some (.inl x4), some (.inl x5), some (.inl x6), some (.inl (x7 + 1)), none, none, none, none, none, none, none, none, none, none] [] H3) := by
  refine Eq.trans (e1 hG PT_158 k158_64 _ _ _) ?_
  show G 158 66 [some (.inr (.inr x0)), some (.inl x1), some (.inl x2), some (.inl x3), some (.inl x4), some (.inl x5), some (.inl x6), some (.inl x7), none, none, none, none, none, none, none, none, none, none] [.inl x7] H = _
  refine Eq.trans (e1 hG PT_158 k158_66 _ _ _) ?_
  show G 158 69 [some (.inr (.inr x0)), some (.inl x1), some (.inl x2), some (.inl x3), some (.inl x4), some (.inl x5), some (.inl x6), some (.inl x7), none, none, none, none, none, none, none, none, none, none] [.inl 252, .inl x7] H = _
  refine Eq.trans (e1 hG PT_158 k158_69 _ _ _) ?_
  refine bfc ?_ ?_
  · show G 158 86 [some (.inr (.inr x0)), some (.inl x1), some (.inl x2), some (.inl x3), some (.inl x4), some (.inl x5), some (.inl x6), some (.inl x7), none, none, none, none, none, none, none, none, none, none] [] H = _
    refine Eq.trans (e1 hG PT_158 k158_86 _ _ _) ?_
    show G 158 88 [some (.inr (.inr x0)), some (.inl x1), some (.inl x2), some (.inl x3), some (.inl x4), some (.inl x5), some (.inl x6), some (.inl x7), none, none, none, none, none, none, none, none, none, none] [.inl x6] H = _
    refine Eq.trans (e1 hG PT_158 k158_88 _ _ _) ?_
    refine bfc ?_ ?_
    · show G 158 224 [some (.inr (.inr x0)), some (.inl x1), some (.inl x2), some (.inl x3), some (.inl x4), some (.inl x5), some (.inl x6), some (.inl x7), none, none, none, none, none, none, none, none, none, none] [] H = _
      refine Eq.trans (e1 hG PT_158 k158_224 _ _ _) ?_
      show G 158 225 [some (.inr (.inr x0)), some (.inl x1), some (.inl x2), some (.inl x3), some (.inl x4), some (.inl x5), some (.inl x6), some (.inl x7), none, none, none, none, none, none, none, none, none, none] [.inr (.inr x0)] H = _
      refine Eq.trans (e1 hG PT_158 k158_225 _ _ _) ?_
      show G 158 227 [some (.inr (.inr x0)), some (.inl x1), some (.inl x2), some (.inl x3), some (.inl x4), some (.inl x5), some (.inl x6), some (.inl x7), none, none, none, none, none, none, none, none, none, none] [.inl 58, .inr (.inr x0)] H = _
      refine Eq.trans (e1 hG PT_158 k158_227 _ _ _) ?_
      show G 158 228 [some (.inr (.inr x0)), some (.inl x1), some (.inl x2), some (.inl x3), some (.inl x4), some (.inl x5), some (.inl x6), some (.inl x7), none, none, none, none, none, none, none, none, none, none] [.inl x2, .inl 58, .inr (.inr x0)] H = _
      refine Eq.trans (e1 hG PT_158 k158_228 _ _ _) ?_
      show G 158 229 [some (.inr (.inr x0)), some (.inl x1), some (.inl x2), some (.inl x3), some (.inl x4), some (.inl x5), some (.inl x6), some (.inl x7), none, none, none, none, none, none, none, none, none, none] [.inl 0, .inl x2, .inl 58, .inr (.inr x0)] H = _
      refine Eq.trans (e1 hG PT_158 k158_229 _ _ _) ?_
      show G 158 230 [some (.inr (.inr x0)), some (.inl x1), some (.inl x2), some (.inl x3), some (.inl x4), some (.inl x5), some (.inl x6), some (.inl x7), none, none, none, none, none, none, none, none, none, none] [.inl x3, .inl 0, .inl x2, .inl 58, .inr (.inr x0)] H = _
      refine Eq.trans (e1 hG PT_158 k158_230 _ _ _) ?_
      refine bfc ?_ ?_
      · refine bdc fun u1 => ?_
        refine bdc fun _ => ?_
        show G 158 233 [some (.inr (.inr x0)), some (.inl x1), some (.inl x2), some (.inl x3), some (.inl x4), some (.inl x5), some (.inl x6), some (.inl x7), none, none, none, none, none, none, none, none, none, none] [] u1.2 = _
        refine Eq.trans (e1 hG PT_158 k158_233 _ _ _) ?_
        show G 158 234 [some (.inr (.inr x0)), some (.inl x1), some (.inl x2), some (.inl x3), some (.inl x4), some (.inl x5), some (.inl x6), some (.inl x7), none, none, none, none, none, none, none, none, none, none] [.inl 0] u1.2 = _
        refine Eq.trans (e1 hG PT_158 k158_234 _ _ _) ?_
        rfl
      · rfl
    · show G 158 91 [some (.inr (.inr x0)), some (.inl x1), some (.inl x2), some (.inl x3), some (.inl x4), some (.inl x5), some (.inl x6), some (.inl x7), none, none, none, none, none, none, none, none, none, none] [] H = _
      refine Eq.trans (e1 hG PT_158 k158_91 _ _ _) ?_
      show G 158 92 [some (.inr (.inr x0)), some (.inl x1), some (.inl x2), some (.inl x3), some (.inl x4), some (.inl x5), some (.inl x6), some (.inl x7), none, none, none, none, none, none, none, none, none, none] [.inl 0] H = _
      refine Eq.trans (e1 hG PT_158 k158_92 _ _ _) ?_
      rfl
  · show G 158 72 [some (.inr (.inr x0)), some (.inl x1), some (.inl x2), some (.inl x3), some (.inl x4), some (.inl x5), some (.inl x6), some (.inl x7), none, none, none, none, none, none, none, none, none, none] [] H = _
    refine Eq.trans (e1 hG PT_158 k158_72 _ _ _) ?_
    show G 158 73 [some (.inr (.inr x0)), some (.inl x1), some (.inl x2), some (.inl x3), some (.inl x4), some (.inl x5), some (.inl x6), some (.inl x7), none, none, none, none, none, none, none, none, none, none] [.inr (.inr x0)] H = _
    refine Eq.trans (e1 hG PT_158 k158_73 _ _ _) ?_
    refine bdc fun r2 => ?_
    show G 158 76 [some (.inr (.inr x0)), some (.inl x1), some (.inl x2), some (.inl x3), some (.inl x4), some (.inl x5), some (.inl x6), some (.inl x7), none, none, none, none, none, none, none, none, none, none] [.inr (.inr r2)] H = _
    refine Eq.trans (e1 hG PT_158 k158_76 _ _ _) ?_
    show G 158 78 [some (.inr (.inr x0)), some (.inl x1), some (.inl x2), some (.inl x3), some (.inl x4), some (.inl x5), some (.inl x6), some (.inl x7), none, none, none, none, none, none, none, none, none, none] [.inl x7, .inr (.inr r2)] H = _
    refine Eq.trans (e1 hG PT_158 k158_78 _ _ _) ?_
    show G 158 79 [some (.inr (.inr x0)), some (.inl x1), some (.inl x2), some (.inl x3), some (.inl x4), some (.inl x5), some (.inl x6), some (.inl x7), none, none, none, none, none, none, none, none, none, none] [.inr (.inl 0), .inl x7, .inr (.inr r2)] H = _
    refine Eq.trans (e1 hG PT_158 k158_79 _ _ _) ?_
    refine bdc fun H3 => ?_
    show G 158 80 [some (.inr (.inr x0)), some (.inl x1), some (.inl x2), some (.inl x3), some (.inl x4), some (.inl x5), some (.inl x6), some (.inl x7), none, none, none, none, none, none, none, none, none, none] [] H3 = _
    refine Eq.trans (e1 hG PT_158 k158_80 _ _ _) ?_
    show G 158 83 [some (.inr (.inr x0)), some (.inl x1), some (.inl x2), some (.inl x3), some (.inl x4), some (.inl x5), some (.inl x6), some (.inl (x7 + 1)), none, none, none, none, none, none, none, none, none, none] [] H3 = _
    refine Eq.trans (e1 hG PT_158 k158_83 _ _ _) ?_
    rfl
set_option maxRecDepth 100000 in
theorem b158_94 {G : AG} (hG : FIX G) (x0 : Nat) (x1 : Int32) (x2 : Int32) (x3 : Int32) (x4 : Int32) (x5 : Int32) (x6 : Int32) (x7 : Int32) (o8 : Option AV) (o10 : Option AV) (o11 : Option AV) (o12 : Option AV) (o13 : Option AV) (o15 : Option AV) (H : Hp) : G 158 94 [some (.inr (.inr x0)), some (.inl x1), some (.inl x2), some (.inl x3), some (.inl x4), some (.inl x5), some (.inl x6), some (.inl x7), o8, none, o10, o11, o12, o13, none, o15, none, none] [] H = (bif decide ((252 : Int32) ≤ (x7 : Int32)) then G 158 474 [some (.inr (.inr x0)), some (.inl x1), some (.inl x2), some (.inl x3), some (.inl x4), some (.inl x5), some (.inl x6), some (.inl x7), o8, none, o10, o11, o12, o13, none, o15, none, none] [] H else (hgR H x0 67).bind fun r1 => (hAJ H r1 (((252 * x1) + x7))).bind fun j2 => (hgR H x0 61).bind fun r3 => (hAI H r3 (((5 * x7) + x4))).bind fun i4 => (hgR H x0 62).bind fun r5 => bif Nat.beq (H.1 x0).1 12 then (G 160 0 [some (.inr (.inr x0)), some (.inl x7), none, none] [] H).bind fun u6 => (asI u6.1).bind fun i7 => (hAI u6.2 r5 ((i7 - (i4 * x5)))).bind fun i8 => G 158 153 [some (.inr (.inr x0)), some (.inl x1), some (.inl x2), some (.inl x3), some (.inl x4), some (.inl x5), some (.inl x6), some (.inl x7), some (.inr (.inl j2)), none, some (.inl i4), some (.inl i8), some (.inl 1), o13, none, o15, none, none] [] u6.2 else none) := by
  refine Eq.trans (e1 hG PT_158 k158_94 _ _ _) ?_
  show G 158 96 [some (.inr (.inr x0)), some (.inl x1), some (.inl x2), some (.inl x3), some (.inl x4), some (.inl x5), some (.inl x6), some (.inl x7), o8, none, o10, o11, o12, o13, none, o15, none, none] [.inl x7] H = _
  refine Eq.trans (e1 hG PT_158 k158_96 _ _ _) ?_
  show G 158 99 [some (.inr (.inr x0)), some (.inl x1), some (.inl x2), some (.inl x3), some (.inl x4), some (.inl x5), some (.inl x6), some (.inl x7), o8, none, o10, o11, o12, o13, none, o15, none, none] [.inl 252, .inl x7] H = _
  refine Eq.trans (e1 hG PT_158 k158_99 _ _ _) ?_
  refine bfc ?_ ?_
  · show G 158 221 [some (.inr (.inr x0)), some (.inl x1), some (.inl x2), some (.inl x3), some (.inl x4), some (.inl x5), some (.inl x6), some (.inl x7), o8, none, o10, o11, o12, o13, none, o15, none, none] [] H = _
    refine Eq.trans (e1 hG PT_158 k158_221 _ _ _) ?_
    rfl
  · show G 158 102 [some (.inr (.inr x0)), some (.inl x1), some (.inl x2), some (.inl x3), some (.inl x4), some (.inl x5), some (.inl x6), some (.inl x7), o8, none, o10, o11, o12, o13, none, o15, none, none] [] H = _
    refine Eq.trans (e1 hG PT_158 k158_102 _ _ _) ?_
    show G 158 103 [some (.inr (.inr x0)), some (.inl x1), some (.inl x2), some (.inl x3), some (.inl x4), some (.inl x5), some (.inl x6), some (.inl x7), o8, none, o10, o11, o12, o13, none, o15, none, none] [.inr (.inr x0)] H = _
    refine Eq.trans (e1 hG PT_158 k158_103 _ _ _) ?_
    refine bdc fun r1 => ?_
    show G 158 106 [some (.inr (.inr x0)), some (.inl x1), some (.inl x2), some (.inl x3), some (.inl x4), some (.inl x5), some (.inl x6), some (.inl x7), o8, none, o10, o11, o12, o13, none, o15, none, none] [.inr (.inr r1)] H = _
    refine Eq.trans (e1 hG PT_158 k158_106 _ _ _) ?_
    show G 158 109 [some (.inr (.inr x0)), some (.inl x1), some (.inl x2), some (.inl x3), some (.inl x4), some (.inl x5), some (.inl x6), some (.inl x7), o8, none, o10, o11, o12, o13, none, o15, none, none] [.inl 252, .inr (.inr r1)] H = _
    refine Eq.trans (e1 hG PT_158 k158_109 _ _ _) ?_
    show G 158 110 [some (.inr (.inr x0)), some (.inl x1), some (.inl x2), some (.inl x3), some (.inl x4), some (.inl x5), some (.inl x6), some (.inl x7), o8, none, o10, o11, o12, o13, none, o15, none, none] [.inl x1, .inl 252, .inr (.inr r1)] H = _
    refine Eq.trans (e1 hG PT_158 k158_110 _ _ _) ?_
    show G 158 111 [some (.inr (.inr x0)), some (.inl x1), some (.inl x2), some (.inl x3), some (.inl x4), some (.inl x5), some (.inl x6), some (.inl x7), o8, none, o10, o11, o12, o13, none, o15, none, none] [.inl (252 * x1), .inr (.inr r1)] H = _
    refine Eq.trans (e1 hG PT_158 k158_111 _ _ _) ?_
    show G 158 113 [some (.inr (.inr x0)), some (.inl x1), some (.inl x2), some (.inl x3), some (.inl x4), some (.inl x5), some (.inl x6), some (.inl x7), o8, none, o10, o11, o12, o13, none, o15, none, none] [.inl x7, .inl (252 * x1), .inr (.inr r1)] H = _
    refine Eq.trans (e1 hG PT_158 k158_113 _ _ _) ?_
    show G 158 114 [some (.inr (.inr x0)), some (.inl x1), some (.inl x2), some (.inl x3), some (.inl x4), some (.inl x5), some (.inl x6), some (.inl x7), o8, none, o10, o11, o12, o13, none, o15, none, none] [.inl ((252 * x1) + x7), .inr (.inr r1)] H = _
    refine Eq.trans (e1 hG PT_158 k158_114 _ _ _) ?_
    refine bdc fun j2 => ?_
    show G 158 115 [some (.inr (.inr x0)), some (.inl x1), some (.inl x2), some (.inl x3), some (.inl x4), some (.inl x5), some (.inl x6), some (.inl x7), o8, none, o10, o11, o12, o13, none, o15, none, none] [.inr (.inl j2)] H = _
    refine Eq.trans (e1 hG PT_158 k158_115 _ _ _) ?_
    show G 158 117 [some (.inr (.inr x0)), some (.inl x1), some (.inl x2), some (.inl x3), some (.inl x4), some (.inl x5), some (.inl x6), some (.inl x7), some (.inr (.inl j2)), none, o10, o11, o12, o13, none, o15, none, none] [] H = _
    refine Eq.trans (e1 hG PT_158 k158_117 _ _ _) ?_
    show G 158 118 [some (.inr (.inr x0)), some (.inl x1), some (.inl x2), some (.inl x3), some (.inl x4), some (.inl x5), some (.inl x6), some (.inl x7), some (.inr (.inl j2)), none, o10, o11, o12, o13, none, o15, none, none] [.inr (.inr x0)] H = _
    refine Eq.trans (e1 hG PT_158 k158_118 _ _ _) ?_
    refine bdc fun r3 => ?_
    show G 158 121 [some (.inr (.inr x0)), some (.inl x1), some (.inl x2), some (.inl x3), some (.inl x4), some (.inl x5), some (.inl x6), some (.inl x7), some (.inr (.inl j2)), none, o10, o11, o12, o13, none, o15, none, none] [.inr (.inr r3)] H = _
    refine Eq.trans (e1 hG PT_158 k158_121 _ _ _) ?_
    show G 158 122 [some (.inr (.inr x0)), some (.inl x1), some (.inl x2), some (.inl x3), some (.inl x4), some (.inl x5), some (.inl x6), some (.inl x7), some (.inr (.inl j2)), none, o10, o11, o12, o13, none, o15, none, none] [.inl 5, .inr (.inr r3)] H = _
    refine Eq.trans (e1 hG PT_158 k158_122 _ _ _) ?_
    show G 158 124 [some (.inr (.inr x0)), some (.inl x1), some (.inl x2), some (.inl x3), some (.inl x4), some (.inl x5), some (.inl x6), some (.inl x7), some (.inr (.inl j2)), none, o10, o11, o12, o13, none, o15, none, none] [.inl x7, .inl 5, .inr (.inr r3)] H = _
    refine Eq.trans (e1 hG PT_158 k158_124 _ _ _) ?_
    show G 158 125 [some (.inr (.inr x0)), some (.inl x1), some (.inl x2), some (.inl x3), some (.inl x4), some (.inl x5), some (.inl x6), some (.inl x7), some (.inr (.inl j2)), none, o10, o11, o12, o13, none, o15, none, none] [.inl (5 * x7), .inr (.inr r3)] H = _
    refine Eq.trans (e1 hG PT_158 k158_125 _ _ _) ?_
    show G 158 127 [some (.inr (.inr x0)), some (.inl x1), some (.inl x2), some (.inl x3), some (.inl x4), some (.inl x5), some (.inl x6), some (.inl x7), some (.inr (.inl j2)), none, o10, o11, o12, o13, none, o15, none, none] [.inl x4, .inl (5 * x7), .inr (.inr r3)] H = _
    refine Eq.trans (e1 hG PT_158 k158_127 _ _ _) ?_
    show G 158 128 [some (.inr (.inr x0)), some (.inl x1), some (.inl x2), some (.inl x3), some (.inl x4), some (.inl x5), some (.inl x6), some (.inl x7), some (.inr (.inl j2)), none, o10, o11, o12, o13, none, o15, none, none] [.inl ((5 * x7) + x4), .inr (.inr r3)] H = _
    refine Eq.trans (e1 hG PT_158 k158_128 _ _ _) ?_
    refine bdc fun i4 => ?_
    show G 158 129 [some (.inr (.inr x0)), some (.inl x1), some (.inl x2), some (.inl x3), some (.inl x4), some (.inl x5), some (.inl x6), some (.inl x7), some (.inr (.inl j2)), none, o10, o11, o12, o13, none, o15, none, none] [.inl i4] H = _
    refine Eq.trans (e1 hG PT_158 k158_129 _ _ _) ?_
    show G 158 131 [some (.inr (.inr x0)), some (.inl x1), some (.inl x2), some (.inl x3), some (.inl x4), some (.inl x5), some (.inl x6), some (.inl x7), some (.inr (.inl j2)), none, some (.inl i4), o11, o12, o13, none, o15, none, none] [] H = _
    refine Eq.trans (e1 hG PT_158 k158_131 _ _ _) ?_
    show G 158 132 [some (.inr (.inr x0)), some (.inl x1), some (.inl x2), some (.inl x3), some (.inl x4), some (.inl x5), some (.inl x6), some (.inl x7), some (.inr (.inl j2)), none, some (.inl i4), o11, o12, o13, none, o15, none, none] [.inr (.inr x0)] H = _
    refine Eq.trans (e1 hG PT_158 k158_132 _ _ _) ?_
    refine bdc fun r5 => ?_
    show G 158 135 [some (.inr (.inr x0)), some (.inl x1), some (.inl x2), some (.inl x3), some (.inl x4), some (.inl x5), some (.inl x6), some (.inl x7), some (.inr (.inl j2)), none, some (.inl i4), o11, o12, o13, none, o15, none, none] [.inr (.inr r5)] H = _
    refine Eq.trans (e1 hG PT_158 k158_135 _ _ _) ?_
    show G 158 136 [some (.inr (.inr x0)), some (.inl x1), some (.inl x2), some (.inl x3), some (.inl x4), some (.inl x5), some (.inl x6), some (.inl x7), some (.inr (.inl j2)), none, some (.inl i4), o11, o12, o13, none, o15, none, none] [.inr (.inr x0), .inr (.inr r5)] H = _
    refine Eq.trans (e1 hG PT_158 k158_136 _ _ _) ?_
    show G 158 138 [some (.inr (.inr x0)), some (.inl x1), some (.inl x2), some (.inl x3), some (.inl x4), some (.inl x5), some (.inl x6), some (.inl x7), some (.inr (.inl j2)), none, some (.inl i4), o11, o12, o13, none, o15, none, none] [.inl x7, .inr (.inr x0), .inr (.inr r5)] H = _
    refine Eq.trans (e1 hG PT_158 k158_138 _ _ _) ?_
    refine bfc ?_ ?_
    · refine bdc fun u6 => ?_
      refine bdc fun i7 => ?_
      show G 158 141 [some (.inr (.inr x0)), some (.inl x1), some (.inl x2), some (.inl x3), some (.inl x4), some (.inl x5), some (.inl x6), some (.inl x7), some (.inr (.inl j2)), none, some (.inl i4), o11, o12, o13, none, o15, none, none] [.inl i7, .inr (.inr r5)] u6.2 = _
      refine Eq.trans (e1 hG PT_158 k158_141 _ _ _) ?_
      show G 158 143 [some (.inr (.inr x0)), some (.inl x1), some (.inl x2), some (.inl x3), some (.inl x4), some (.inl x5), some (.inl x6), some (.inl x7), some (.inr (.inl j2)), none, some (.inl i4), o11, o12, o13, none, o15, none, none] [.inl i4, .inl i7, .inr (.inr r5)] u6.2 = _
      refine Eq.trans (e1 hG PT_158 k158_143 _ _ _) ?_
      show G 158 145 [some (.inr (.inr x0)), some (.inl x1), some (.inl x2), some (.inl x3), some (.inl x4), some (.inl x5), some (.inl x6), some (.inl x7), some (.inr (.inl j2)), none, some (.inl i4), o11, o12, o13, none, o15, none, none] [.inl x5, .inl i4, .inl i7, .inr (.inr r5)] u6.2 = _
      refine Eq.trans (e1 hG PT_158 k158_145 _ _ _) ?_
      show G 158 146 [some (.inr (.inr x0)), some (.inl x1), some (.inl x2), some (.inl x3), some (.inl x4), some (.inl x5), some (.inl x6), some (.inl x7), some (.inr (.inl j2)), none, some (.inl i4), o11, o12, o13, none, o15, none, none] [.inl (i4 * x5), .inl i7, .inr (.inr r5)] u6.2 = _
      refine Eq.trans (e1 hG PT_158 k158_146 _ _ _) ?_
      show G 158 147 [some (.inr (.inr x0)), some (.inl x1), some (.inl x2), some (.inl x3), some (.inl x4), some (.inl x5), some (.inl x6), some (.inl x7), some (.inr (.inl j2)), none, some (.inl i4), o11, o12, o13, none, o15, none, none] [.inl (i7 - (i4 * x5)), .inr (.inr r5)] u6.2 = _
      refine Eq.trans (e1 hG PT_158 k158_147 _ _ _) ?_
      refine bdc fun i8 => ?_
      show G 158 148 [some (.inr (.inr x0)), some (.inl x1), some (.inl x2), some (.inl x3), some (.inl x4), some (.inl x5), some (.inl x6), some (.inl x7), some (.inr (.inl j2)), none, some (.inl i4), o11, o12, o13, none, o15, none, none] [.inl i8] u6.2 = _
      refine Eq.trans (e1 hG PT_158 k158_148 _ _ _) ?_
      show G 158 150 [some (.inr (.inr x0)), some (.inl x1), some (.inl x2), some (.inl x3), some (.inl x4), some (.inl x5), some (.inl x6), some (.inl x7), some (.inr (.inl j2)), none, some (.inl i4), some (.inl i8), o12, o13, none, o15, none, none] [] u6.2 = _
      refine Eq.trans (e1 hG PT_158 k158_150 _ _ _) ?_
      show G 158 151 [some (.inr (.inr x0)), some (.inl x1), some (.inl x2), some (.inl x3), some (.inl x4), some (.inl x5), some (.inl x6), some (.inl x7), some (.inr (.inl j2)), none, some (.inl i4), some (.inl i8), o12, o13, none, o15, none, none] [.inl 1] u6.2 = _
      refine Eq.trans (e1 hG PT_158 k158_151 _ _ _) ?_
      rfl
    · rfl
set_option maxRecDepth 100000 in
theorem b158_153 {G : AG} (hG : FIX G) (x0 : Nat) (x1 : Int32) (x2 : Int32) (x3 : Int32) (x4 : Int32) (x5 : Int32) (x6 : Int32) (x7 : Int32) (x8 : Int64) (x10 : Int32) (x11 : Int32) (x12 : Int32) (o13 : Option AV) (o15 : Option AV) (H : Hp) : G 158 153 [some (.inr (.inr x0)), some (.inl x1), some (.inl x2), some (.inl x3), some (.inl x4), some (.inl x5), some (.inl x6), some (.inl x7), some (.inr (.inl x8)), none, some (.inl x10), some (.inl x11), some (.inl x12), o13, none, o15, none, none] [] H = ((hgR H x0 55).bind fun r1 => (hAI H r1 ((12 * x2))).bind fun i2 => bif decide ((i2 : Int32) < (x12 : Int32)) then G 158 94 [some (.inr (.inr x0)), some (.inl x1), some (.inl x2), some (.inl x3), some (.inl x4), some (.inl x5), some (.inl x6), some (.inl (x7 + 1)), some (.inr (.inl x8)), none, some (.inl x10), some (.inl x11), some (.inl x12), o13, none, o15, none, none] [] H else G 158 173 [some (.inr (.inr x0)), some (.inl x1), some (.inl x2), some (.inl x3), some (.inl x4), some (.inl x5), some (.inl x6), some (.inl x7), some (.inr (.inl x8)), none, some (.inl x10), some (.inl x11), some (.inl x12), some (.inr (.inl 1)), none, some (.inl 0), none, none] [] H) := by
  refine Eq.trans (e1 hG PT_158 k158_153 _ _ _) ?_
  show G 158 155 [some (.inr (.inr x0)), some (.inl x1), some (.inl x2), some (.inl x3), some (.inl x4), some (.inl x5), some (.inl x6), some (.inl x7), some (.inr (.inl x8)), none, some (.inl x10), some (.inl x11), some (.inl x12), o13, none, o15, none, none] [.inl x12] H = _
  refine Eq.trans (e1 hG PT_158 k158_155 _ _ _) ?_
  show G 158 156 [some (.inr (.inr x0)), some (.inl x1), some (.inl x2), some (.inl x3), some (.inl x4), some (.inl x5), some (.inl x6), some (.inl x7), some (.inr (.inl x8)), none, some (.inl x10), some (.inl x11), some (.inl x12), o13, none, o15, none, none] [.inr (.inr x0), .inl x12] H = _
  refine Eq.trans (e1 hG PT_158 k158_156 _ _ _) ?_
  refine bdc fun r1 => ?_
  show G 158 159 [some (.inr (.inr x0)), some (.inl x1), some (.inl x2), some (.inl x3), some (.inl x4), some (.inl x5), some (.inl x6), some (.inl x7), some (.inr (.inl x8)), none, some (.inl x10), some (.inl x11), some (.inl x12), o13, none, o15, none, none] [.inr (.inr r1), .inl x12] H = _
  refine Eq.trans (e1 hG PT_158 k158_159 _ _ _) ?_
  show G 158 161 [some (.inr (.inr x0)), some (.inl x1), some (.inl x2), some (.inl x3), some (.inl x4), some (.inl x5), some (.inl x6), some (.inl x7), some (.inr (.inl x8)), none, some (.inl x10), some (.inl x11), some (.inl x12), o13, none, o15, none, none] [.inl 12, .inr (.inr r1), .inl x12] H = _
  refine Eq.trans (e1 hG PT_158 k158_161 _ _ _) ?_
  show G 158 162 [some (.inr (.inr x0)), some (.inl x1), some (.inl x2), some (.inl x3), some (.inl x4), some (.inl x5), some (.inl x6), some (.inl x7), some (.inr (.inl x8)), none, some (.inl x10), some (.inl x11), some (.inl x12), o13, none, o15, none, none] [.inl x2, .inl 12, .inr (.inr r1), .inl x12] H = _
  refine Eq.trans (e1 hG PT_158 k158_162 _ _ _) ?_
  show G 158 163 [some (.inr (.inr x0)), some (.inl x1), some (.inl x2), some (.inl x3), some (.inl x4), some (.inl x5), some (.inl x6), some (.inl x7), some (.inr (.inl x8)), none, some (.inl x10), some (.inl x11), some (.inl x12), o13, none, o15, none, none] [.inl (12 * x2), .inr (.inr r1), .inl x12] H = _
  refine Eq.trans (e1 hG PT_158 k158_163 _ _ _) ?_
  refine bdc fun i2 => ?_
  show G 158 164 [some (.inr (.inr x0)), some (.inl x1), some (.inl x2), some (.inl x3), some (.inl x4), some (.inl x5), some (.inl x6), some (.inl x7), some (.inr (.inl x8)), none, some (.inl x10), some (.inl x11), some (.inl x12), o13, none, o15, none, none] [.inl i2, .inl x12] H = _
  refine Eq.trans (e1 hG PT_158 k158_164 _ _ _) ?_
  refine bfc ?_ ?_
  · show G 158 215 [some (.inr (.inr x0)), some (.inl x1), some (.inl x2), some (.inl x3), some (.inl x4), some (.inl x5), some (.inl x6), some (.inl x7), some (.inr (.inl x8)), none, some (.inl x10), some (.inl x11), some (.inl x12), o13, none, o15, none, none] [] H = _
    refine Eq.trans (e1 hG PT_158 k158_215 _ _ _) ?_
    show G 158 218 [some (.inr (.inr x0)), some (.inl x1), some (.inl x2), some (.inl x3), some (.inl x4), some (.inl x5), some (.inl x6), some (.inl (x7 + 1)), some (.inr (.inl x8)), none, some (.inl x10), some (.inl x11), some (.inl x12), o13, none, o15, none, none] [] H = _
    refine Eq.trans (e1 hG PT_158 k158_218 _ _ _) ?_
    rfl
  · show G 158 167 [some (.inr (.inr x0)), some (.inl x1), some (.inl x2), some (.inl x3), some (.inl x4), some (.inl x5), some (.inl x6), some (.inl x7), some (.inr (.inl x8)), none, some (.inl x10), some (.inl x11), some (.inl x12), o13, none, o15, none, none] [] H = _
    refine Eq.trans (e1 hG PT_158 k158_167 _ _ _) ?_
    show G 158 168 [some (.inr (.inr x0)), some (.inl x1), some (.inl x2), some (.inl x3), some (.inl x4), some (.inl x5), some (.inl x6), some (.inl x7), some (.inr (.inl x8)), none, some (.inl x10), some (.inl x11), some (.inl x12), o13, none, o15, none, none] [.inr (.inl 1)] H = _
    refine Eq.trans (e1 hG PT_158 k158_168 _ _ _) ?_
    show G 158 170 [some (.inr (.inr x0)), some (.inl x1), some (.inl x2), some (.inl x3), some (.inl x4), some (.inl x5), some (.inl x6), some (.inl x7), some (.inr (.inl x8)), none, some (.inl x10), some (.inl x11), some (.inl x12), some (.inr (.inl 1)), none, o15, none, none] [] H = _
    refine Eq.trans (e1 hG PT_158 k158_170 _ _ _) ?_
    show G 158 171 [some (.inr (.inr x0)), some (.inl x1), some (.inl x2), some (.inl x3), some (.inl x4), some (.inl x5), some (.inl x6), some (.inl x7), some (.inr (.inl x8)), none, some (.inl x10), some (.inl x11), some (.inl x12), some (.inr (.inl 1)), none, o15, none, none] [.inl 0] H = _
    refine Eq.trans (e1 hG PT_158 k158_171 _ _ _) ?_
    rfl
set_option maxRecDepth 100000 in
theorem b158_173 {G : AG} (hG : FIX G) (x0 : Nat) (x1 : Int32) (x2 : Int32) (x3 : Int32) (x4 : Int32) (x5 : Int32) (x6 : Int32) (x7 : Int32) (x8 : Int64) (x10 : Int32) (x11 : Int32) (x12 : Int32) (x13 : Int64) (x15 : Int32) (H : Hp) : G 158 173 [some (.inr (.inr x0)), some (.inl x1), some (.inl x2), some (.inl x3), some (.inl x4), some (.inl x5), some (.inl x6), some (.inl x7), some (.inr (.inl x8)), none, some (.inl x10), some (.inl x11), some (.inl x12), some (.inr (.inl x13)), none, some (.inl x15), none, none] [] H = (bif decide ((x10 : Int32) ≤ (x15 : Int32)) then (hgR H x0 71).bind fun r1 => (hAJ H r1 x11).bind fun j2 => (hSJ H r1 x11 ((j2 + (x8 * x13)))).bind fun H3 => G 158 153 [some (.inr (.inr x0)), some (.inl x1), some (.inl x2), some (.inl x3), some (.inl x4), some (.inl x5), some (.inl x6), some (.inl x7), some (.inr (.inl x8)), none, some (.inl x10), some (.inl x11), some (.inl (x12 + 1)), some (.inr (.inl x13)), none, some (.inl x15), none, none] [] H3 else G 158 173 [some (.inr (.inr x0)), some (.inl x1), some (.inl x2), some (.inl x3), some (.inl x4), some (.inl x5), some (.inl x6), some (.inl x7), some (.inr (.inl x8)), none, some (.inl x10), some (.inl x11), some (.inl x12), some (.inr (.inl (x13 * x12.toInt64))), none, some (.inl (x15 + 1)), none, none] [] H) := by
  refine Eq.trans (e1 hG PT_158 k158_173 _ _ _) ?_
  show G 158 175 [some (.inr (.inr x0)), some (.inl x1), some (.inl x2), some (.inl x3), some (.inl x4), some (.inl x5), some (.inl x6), some (.inl x7), some (.inr (.inl x8)), none, some (.inl x10), some (.inl x11), some (.inl x12), some (.inr (.inl x13)), none, some (.inl x15), none, none] [.inl x15] H = _
  refine Eq.trans (e1 hG PT_158 k158_175 _ _ _) ?_
  show G 158 177 [some (.inr (.inr x0)), some (.inl x1), some (.inl x2), some (.inl x3), some (.inl x4), some (.inl x5), some (.inl x6), some (.inl x7), some (.inr (.inl x8)), none, some (.inl x10), some (.inl x11), some (.inl x12), some (.inr (.inl x13)), none, some (.inl x15), none, none] [.inl x10, .inl x15] H = _
  refine Eq.trans (e1 hG PT_158 k158_177 _ _ _) ?_
  refine bfc ?_ ?_
  · show G 158 194 [some (.inr (.inr x0)), some (.inl x1), some (.inl x2), some (.inl x3), some (.inl x4), some (.inl x5), some (.inl x6), some (.inl x7), some (.inr (.inl x8)), none, some (.inl x10), some (.inl x11), some (.inl x12), some (.inr (.inl x13)), none, some (.inl x15), none, none] [] H = _
    refine Eq.trans (e1 hG PT_158 k158_194 _ _ _) ?_
    show G 158 195 [some (.inr (.inr x0)), some (.inl x1), some (.inl x2), some (.inl x3), some (.inl x4), some (.inl x5), some (.inl x6), some (.inl x7), some (.inr (.inl x8)), none, some (.inl x10), some (.inl x11), some (.inl x12), some (.inr (.inl x13)), none, some (.inl x15), none, none] [.inr (.inr x0)] H = _
    refine Eq.trans (e1 hG PT_158 k158_195 _ _ _) ?_
    refine bdc fun r1 => ?_
    show G 158 198 [some (.inr (.inr x0)), some (.inl x1), some (.inl x2), some (.inl x3), some (.inl x4), some (.inl x5), some (.inl x6), some (.inl x7), some (.inr (.inl x8)), none, some (.inl x10), some (.inl x11), some (.inl x12), some (.inr (.inl x13)), none, some (.inl x15), none, none] [.inr (.inr r1)] H = _
    refine Eq.trans (e1 hG PT_158 k158_198 _ _ _) ?_
    show G 158 200 [some (.inr (.inr x0)), some (.inl x1), some (.inl x2), some (.inl x3), some (.inl x4), some (.inl x5), some (.inl x6), some (.inl x7), some (.inr (.inl x8)), none, some (.inl x10), some (.inl x11), some (.inl x12), some (.inr (.inl x13)), none, some (.inl x15), none, none] [.inl x11, .inr (.inr r1)] H = _
    refine Eq.trans (e1 hG PT_158 k158_200 _ _ _) ?_
    show G 158 201 [some (.inr (.inr x0)), some (.inl x1), some (.inl x2), some (.inl x3), some (.inl x4), some (.inl x5), some (.inl x6), some (.inl x7), some (.inr (.inl x8)), none, some (.inl x10), some (.inl x11), some (.inl x12), some (.inr (.inl x13)), none, some (.inl x15), none, none] [.inl x11, .inr (.inr r1), .inl x11, .inr (.inr r1)] H = _
    refine Eq.trans (e1 hG PT_158 k158_201 _ _ _) ?_
    refine bdc fun j2 => ?_
    show G 158 202 [some (.inr (.inr x0)), some (.inl x1), some (.inl x2), some (.inl x3), some (.inl x4), some (.inl x5), some (.inl x6), some (.inl x7), some (.inr (.inl x8)), none, some (.inl x10), some (.inl x11), some (.inl x12), some (.inr (.inl x13)), none, some (.inl x15), none, none] [.inr (.inl j2), .inl x11, .inr (.inr r1)] H = _
    refine Eq.trans (e1 hG PT_158 k158_202 _ _ _) ?_
    show G 158 204 [some (.inr (.inr x0)), some (.inl x1), some (.inl x2), some (.inl x3), some (.inl x4), some (.inl x5), some (.inl x6), some (.inl x7), some (.inr (.inl x8)), none, some (.inl x10), some (.inl x11), some (.inl x12), some (.inr (.inl x13)), none, some (.inl x15), none, none] [.inr (.inl x8), .inr (.inl j2), .inl x11, .inr (.inr r1)] H = _
    refine Eq.trans (e1 hG PT_158 k158_204 _ _ _) ?_
    show G 158 206 [some (.inr (.inr x0)), some (.inl x1), some (.inl x2), some (.inl x3), some (.inl x4), some (.inl x5), some (.inl x6), some (.inl x7), some (.inr (.inl x8)), none, some (.inl x10), some (.inl x11), some (.inl x12), some (.inr (.inl x13)), none, some (.inl x15), none, none] [.inr (.inl x13), .inr (.inl x8), .inr (.inl j2), .inl x11, .inr (.inr r1)] H = _
    refine Eq.trans (e1 hG PT_158 k158_206 _ _ _) ?_
    show G 158 207 [some (.inr (.inr x0)), some (.inl x1), some (.inl x2), some (.inl x3), some (.inl x4), some (.inl x5), some (.inl x6), some (.inl x7), some (.inr (.inl x8)), none, some (.inl x10), some (.inl x11), some (.inl x12), some (.inr (.inl x13)), none, some (.inl x15), none, none] [.inr (.inl (x8 * x13)), .inr (.inl j2), .inl x11, .inr (.inr r1)] H = _
    refine Eq.trans (e1 hG PT_158 k158_207 _ _ _) ?_
    show G 158 208 [some (.inr (.inr x0)), some (.inl x1), some (.inl x2), some (.inl x3), some (.inl x4), some (.inl x5), some (.inl x6), some (.inl x7), some (.inr (.inl x8)), none, some (.inl x10), some (.inl x11), some (.inl x12), some (.inr (.inl x13)), none, some (.inl x15), none, none] [.inr (.inl (j2 + (x8 * x13))), .inl x11, .inr (.inr r1)] H = _
    refine Eq.trans (e1 hG PT_158 k158_208 _ _ _) ?_
    refine bdc fun H3 => ?_
    show G 158 209 [some (.inr (.inr x0)), some (.inl x1), some (.inl x2), some (.inl x3), some (.inl x4), some (.inl x5), some (.inl x6), some (.inl x7), some (.inr (.inl x8)), none, some (.inl x10), some (.inl x11), some (.inl x12), some (.inr (.inl x13)), none, some (.inl x15), none, none] [] H3 = _
    refine Eq.trans (e1 hG PT_158 k158_209 _ _ _) ?_
    show G 158 212 [some (.inr (.inr x0)), some (.inl x1), some (.inl x2), some (.inl x3), some (.inl x4), some (.inl x5), some (.inl x6), some (.inl x7), some (.inr (.inl x8)), none, some (.inl x10), some (.inl x11), some (.inl (x12 + 1)), some (.inr (.inl x13)), none, some (.inl x15), none, none] [] H3 = _
    refine Eq.trans (e1 hG PT_158 k158_212 _ _ _) ?_
    rfl
  · show G 158 180 [some (.inr (.inr x0)), some (.inl x1), some (.inl x2), some (.inl x3), some (.inl x4), some (.inl x5), some (.inl x6), some (.inl x7), some (.inr (.inl x8)), none, some (.inl x10), some (.inl x11), some (.inl x12), some (.inr (.inl x13)), none, some (.inl x15), none, none] [] H = _
    refine Eq.trans (e1 hG PT_158 k158_180 _ _ _) ?_
    show G 158 182 [some (.inr (.inr x0)), some (.inl x1), some (.inl x2), some (.inl x3), some (.inl x4), some (.inl x5), some (.inl x6), some (.inl x7), some (.inr (.inl x8)), none, some (.inl x10), some (.inl x11), some (.inl x12), some (.inr (.inl x13)), none, some (.inl x15), none, none] [.inr (.inl x13)] H = _
    refine Eq.trans (e1 hG PT_158 k158_182 _ _ _) ?_
    show G 158 184 [some (.inr (.inr x0)), some (.inl x1), some (.inl x2), some (.inl x3), some (.inl x4), some (.inl x5), some (.inl x6), some (.inl x7), some (.inr (.inl x8)), none, some (.inl x10), some (.inl x11), some (.inl x12), some (.inr (.inl x13)), none, some (.inl x15), none, none] [.inl x12, .inr (.inl x13)] H = _
    refine Eq.trans (e1 hG PT_158 k158_184 _ _ _) ?_
    show G 158 185 [some (.inr (.inr x0)), some (.inl x1), some (.inl x2), some (.inl x3), some (.inl x4), some (.inl x5), some (.inl x6), some (.inl x7), some (.inr (.inl x8)), none, some (.inl x10), some (.inl x11), some (.inl x12), some (.inr (.inl x13)), none, some (.inl x15), none, none] [.inr (.inl x12.toInt64), .inr (.inl x13)] H = _
    refine Eq.trans (e1 hG PT_158 k158_185 _ _ _) ?_
    show G 158 186 [some (.inr (.inr x0)), some (.inl x1), some (.inl x2), some (.inl x3), some (.inl x4), some (.inl x5), some (.inl x6), some (.inl x7), some (.inr (.inl x8)), none, some (.inl x10), some (.inl x11), some (.inl x12), some (.inr (.inl x13)), none, some (.inl x15), none, none] [.inr (.inl (x13 * x12.toInt64))] H = _
    refine Eq.trans (e1 hG PT_158 k158_186 _ _ _) ?_
    show G 158 188 [some (.inr (.inr x0)), some (.inl x1), some (.inl x2), some (.inl x3), some (.inl x4), some (.inl x5), some (.inl x6), some (.inl x7), some (.inr (.inl x8)), none, some (.inl x10), some (.inl x11), some (.inl x12), some (.inr (.inl (x13 * x12.toInt64))), none, some (.inl x15), none, none] [] H = _
    refine Eq.trans (e1 hG PT_158 k158_188 _ _ _) ?_
    show G 158 191 [some (.inr (.inr x0)), some (.inl x1), some (.inl x2), some (.inl x3), some (.inl x4), some (.inl x5), some (.inl x6), some (.inl x7), some (.inr (.inl x8)), none, some (.inl x10), some (.inl x11), some (.inl x12), some (.inr (.inl (x13 * x12.toInt64))), none, some (.inl (x15 + 1)), none, none] [] H = _
    refine Eq.trans (e1 hG PT_158 k158_191 _ _ _) ?_
    rfl
set_option maxRecDepth 100000 in
theorem b158_236 {G : AG} (hG : FIX G) (x0 : Nat) (x1 : Int32) (x2 : Int32) (x3 : Int32) (x4 : Int32) (x5 : Int32) (x6 : Int32) (x7 : Int32) (o8 : Option AV) (o10 : Option AV) (o11 : Option AV) (o12 : Option AV) (o13 : Option AV) (o15 : Option AV) (o16 : Option AV) (H : Hp) : G 158 236 [some (.inr (.inr x0)), some (.inl x1), some (.inl x2), some (.inl x3), some (.inl x4), some (.inl x5), some (.inl x6), some (.inl x7), o8, none, o10, o11, o12, o13, none, o15, o16, none] [] H = (bif decide ((252 : Int32) ≤ (x7 : Int32)) then G 158 429 [some (.inr (.inr x0)), some (.inl x1), some (.inl x2), some (.inl x3), some (.inl x4), some (.inl x5), some (.inl x6), some (.inl 0), o8, none, o10, o11, o12, o13, none, o15, o16, none] [] H else (hgR H x0 67).bind fun r1 => (hAJ H r1 (((252 * x1) + x7))).bind fun j2 => bif decide (((lg_cmp j2 0) : Int32) = 0) then G 158 420 [some (.inr (.inr x0)), some (.inl x1), some (.inl x2), some (.inl x3), some (.inl x4), some (.inl x5), some (.inl x6), some (.inl x7), some (.inr (.inl j2)), none, o10, o11, o12, o13, none, o15, o16, none] [] H else bif Nat.beq (H.1 x0).1 12 then (G 162 0 [some (.inr (.inr x0)), some (.inl x7), none, none] [] H).bind fun u3 => (asI u3.1).bind fun i4 => bif decide ((i4 : Int32) ≠ (5 : Int32)) then (hgR u3.2 x0 61).bind fun r5 => (hAI u3.2 r5 (((5 * x7) + x4))).bind fun i6 => bif Nat.beq (u3.2.1 x0).1 12 then (G 160 0 [some (.inr (.inr x0)), some (.inl x7), none, none] [] u3.2).bind fun u7 => (asI u7.1).bind fun i8 => G 158 309 [some (.inr (.inr x0)), some (.inl x1), some (.inl x2), some (.inl x3), some (.inl x4), some (.inl x5), some (.inl x6), some (.inl x7), some (.inr (.inl j2)), none, some (.inl i6), some (.inl (i8 - (i6 * x5))), some (.inl 1), o13, none, o15, o16, none] [] u7.2 else none else retZ 0 u3.2 else none) := by
  refine Eq.trans (e1 hG PT_158 k158_236 _ _ _) ?_
  show G 158 238 [some (.inr (.inr x0)), some (.inl x1), some (.inl x2), some (.inl x3), some (.inl x4), some (.inl x5), some (.inl x6), some (.inl x7), o8, none, o10, o11, o12, o13, none, o15, o16, none] [.inl x7] H = _
  refine Eq.trans (e1 hG PT_158 k158_238 _ _ _) ?_
  show G 158 241 [some (.inr (.inr x0)), some (.inl x1), some (.inl x2), some (.inl x3), some (.inl x4), some (.inl x5), some (.inl x6), some (.inl x7), o8, none, o10, o11, o12, o13, none, o15, o16, none] [.inl 252, .inl x7] H = _
  refine Eq.trans (e1 hG PT_158 k158_241 _ _ _) ?_
  refine bfc ?_ ?_
  · show G 158 426 [some (.inr (.inr x0)), some (.inl x1), some (.inl x2), some (.inl x3), some (.inl x4), some (.inl x5), some (.inl x6), some (.inl x7), o8, none, o10, o11, o12, o13, none, o15, o16, none] [] H = _
    refine Eq.trans (e1 hG PT_158 k158_426 _ _ _) ?_
    show G 158 427 [some (.inr (.inr x0)), some (.inl x1), some (.inl x2), some (.inl x3), some (.inl x4), some (.inl x5), some (.inl x6), some (.inl x7), o8, none, o10, o11, o12, o13, none, o15, o16, none] [.inl 0] H = _
    refine Eq.trans (e1 hG PT_158 k158_427 _ _ _) ?_
    rfl
  · show G 158 244 [some (.inr (.inr x0)), some (.inl x1), some (.inl x2), some (.inl x3), some (.inl x4), some (.inl x5), some (.inl x6), some (.inl x7), o8, none, o10, o11, o12, o13, none, o15, o16, none] [] H = _
    refine Eq.trans (e1 hG PT_158 k158_244 _ _ _) ?_
    show G 158 245 [some (.inr (.inr x0)), some (.inl x1), some (.inl x2), some (.inl x3), some (.inl x4), some (.inl x5), some (.inl x6), some (.inl x7), o8, none, o10, o11, o12, o13, none, o15, o16, none] [.inr (.inr x0)] H = _
    refine Eq.trans (e1 hG PT_158 k158_245 _ _ _) ?_
    refine bdc fun r1 => ?_
    show G 158 248 [some (.inr (.inr x0)), some (.inl x1), some (.inl x2), some (.inl x3), some (.inl x4), some (.inl x5), some (.inl x6), some (.inl x7), o8, none, o10, o11, o12, o13, none, o15, o16, none] [.inr (.inr r1)] H = _
    refine Eq.trans (e1 hG PT_158 k158_248 _ _ _) ?_
    show G 158 251 [some (.inr (.inr x0)), some (.inl x1), some (.inl x2), some (.inl x3), some (.inl x4), some (.inl x5), some (.inl x6), some (.inl x7), o8, none, o10, o11, o12, o13, none, o15, o16, none] [.inl 252, .inr (.inr r1)] H = _
    refine Eq.trans (e1 hG PT_158 k158_251 _ _ _) ?_
    show G 158 252 [some (.inr (.inr x0)), some (.inl x1), some (.inl x2), some (.inl x3), some (.inl x4), some (.inl x5), some (.inl x6), some (.inl x7), o8, none, o10, o11, o12, o13, none, o15, o16, none] [.inl x1, .inl 252, .inr (.inr r1)] H = _
    refine Eq.trans (e1 hG PT_158 k158_252 _ _ _) ?_
    show G 158 253 [some (.inr (.inr x0)), some (.inl x1), some (.inl x2), some (.inl x3), some (.inl x4), some (.inl x5), some (.inl x6), some (.inl x7), o8, none, o10, o11, o12, o13, none, o15, o16, none] [.inl (252 * x1), .inr (.inr r1)] H = _
    refine Eq.trans (e1 hG PT_158 k158_253 _ _ _) ?_
    show G 158 255 [some (.inr (.inr x0)), some (.inl x1), some (.inl x2), some (.inl x3), some (.inl x4), some (.inl x5), some (.inl x6), some (.inl x7), o8, none, o10, o11, o12, o13, none, o15, o16, none] [.inl x7, .inl (252 * x1), .inr (.inr r1)] H = _
    refine Eq.trans (e1 hG PT_158 k158_255 _ _ _) ?_
    show G 158 256 [some (.inr (.inr x0)), some (.inl x1), some (.inl x2), some (.inl x3), some (.inl x4), some (.inl x5), some (.inl x6), some (.inl x7), o8, none, o10, o11, o12, o13, none, o15, o16, none] [.inl ((252 * x1) + x7), .inr (.inr r1)] H = _
    refine Eq.trans (e1 hG PT_158 k158_256 _ _ _) ?_
    refine bdc fun j2 => ?_
    show G 158 257 [some (.inr (.inr x0)), some (.inl x1), some (.inl x2), some (.inl x3), some (.inl x4), some (.inl x5), some (.inl x6), some (.inl x7), o8, none, o10, o11, o12, o13, none, o15, o16, none] [.inr (.inl j2)] H = _
    refine Eq.trans (e1 hG PT_158 k158_257 _ _ _) ?_
    show G 158 259 [some (.inr (.inr x0)), some (.inl x1), some (.inl x2), some (.inl x3), some (.inl x4), some (.inl x5), some (.inl x6), some (.inl x7), some (.inr (.inl j2)), none, o10, o11, o12, o13, none, o15, o16, none] [] H = _
    refine Eq.trans (e1 hG PT_158 k158_259 _ _ _) ?_
    show G 158 261 [some (.inr (.inr x0)), some (.inl x1), some (.inl x2), some (.inl x3), some (.inl x4), some (.inl x5), some (.inl x6), some (.inl x7), some (.inr (.inl j2)), none, o10, o11, o12, o13, none, o15, o16, none] [.inr (.inl j2)] H = _
    refine Eq.trans (e1 hG PT_158 k158_261 _ _ _) ?_
    show G 158 262 [some (.inr (.inr x0)), some (.inl x1), some (.inl x2), some (.inl x3), some (.inl x4), some (.inl x5), some (.inl x6), some (.inl x7), some (.inr (.inl j2)), none, o10, o11, o12, o13, none, o15, o16, none] [.inr (.inl 0), .inr (.inl j2)] H = _
    refine Eq.trans (e1 hG PT_158 k158_262 _ _ _) ?_
    show G 158 263 [some (.inr (.inr x0)), some (.inl x1), some (.inl x2), some (.inl x3), some (.inl x4), some (.inl x5), some (.inl x6), some (.inl x7), some (.inr (.inl j2)), none, o10, o11, o12, o13, none, o15, o16, none] [.inl (lg_cmp j2 0)] H = _
    refine Eq.trans (e1 hG PT_158 k158_263 _ _ _) ?_
    refine bfc ?_ ?_
    · rfl
    · show G 158 266 [some (.inr (.inr x0)), some (.inl x1), some (.inl x2), some (.inl x3), some (.inl x4), some (.inl x5), some (.inl x6), some (.inl x7), some (.inr (.inl j2)), none, o10, o11, o12, o13, none, o15, o16, none] [] H = _
      refine Eq.trans (e1 hG PT_158 k158_266 _ _ _) ?_
      show G 158 267 [some (.inr (.inr x0)), some (.inl x1), some (.inl x2), some (.inl x3), some (.inl x4), some (.inl x5), some (.inl x6), some (.inl x7), some (.inr (.inl j2)), none, o10, o11, o12, o13, none, o15, o16, none] [.inr (.inr x0)] H = _
      refine Eq.trans (e1 hG PT_158 k158_267 _ _ _) ?_
      show G 158 269 [some (.inr (.inr x0)), some (.inl x1), some (.inl x2), some (.inl x3), some (.inl x4), some (.inl x5), some (.inl x6), some (.inl x7), some (.inr (.inl j2)), none, o10, o11, o12, o13, none, o15, o16, none] [.inl x7, .inr (.inr x0)] H = _
      refine Eq.trans (e1 hG PT_158 k158_269 _ _ _) ?_
      refine bfc ?_ ?_
      · refine bdc fun u3 => ?_
        refine bdc fun i4 => ?_
        show G 158 272 [some (.inr (.inr x0)), some (.inl x1), some (.inl x2), some (.inl x3), some (.inl x4), some (.inl x5), some (.inl x6), some (.inl x7), some (.inr (.inl j2)), none, o10, o11, o12, o13, none, o15, o16, none] [.inl i4] u3.2 = _
        refine Eq.trans (e1 hG PT_158 k158_272 _ _ _) ?_
        show G 158 273 [some (.inr (.inr x0)), some (.inl x1), some (.inl x2), some (.inl x3), some (.inl x4), some (.inl x5), some (.inl x6), some (.inl x7), some (.inr (.inl j2)), none, o10, o11, o12, o13, none, o15, o16, none] [.inl 5, .inl i4] u3.2 = _
        refine Eq.trans (e1 hG PT_158 k158_273 _ _ _) ?_
        refine bfc ?_ ?_
        · show G 158 278 [some (.inr (.inr x0)), some (.inl x1), some (.inl x2), some (.inl x3), some (.inl x4), some (.inl x5), some (.inl x6), some (.inl x7), some (.inr (.inl j2)), none, o10, o11, o12, o13, none, o15, o16, none] [] u3.2 = _
          refine Eq.trans (e1 hG PT_158 k158_278 _ _ _) ?_
          show G 158 279 [some (.inr (.inr x0)), some (.inl x1), some (.inl x2), some (.inl x3), some (.inl x4), some (.inl x5), some (.inl x6), some (.inl x7), some (.inr (.inl j2)), none, o10, o11, o12, o13, none, o15, o16, none] [.inr (.inr x0)] u3.2 = _
          refine Eq.trans (e1 hG PT_158 k158_279 _ _ _) ?_
          refine bdc fun r5 => ?_
          show G 158 282 [some (.inr (.inr x0)), some (.inl x1), some (.inl x2), some (.inl x3), some (.inl x4), some (.inl x5), some (.inl x6), some (.inl x7), some (.inr (.inl j2)), none, o10, o11, o12, o13, none, o15, o16, none] [.inr (.inr r5)] u3.2 = _
          refine Eq.trans (e1 hG PT_158 k158_282 _ _ _) ?_
          show G 158 283 [some (.inr (.inr x0)), some (.inl x1), some (.inl x2), some (.inl x3), some (.inl x4), some (.inl x5), some (.inl x6), some (.inl x7), some (.inr (.inl j2)), none, o10, o11, o12, o13, none, o15, o16, none] [.inl 5, .inr (.inr r5)] u3.2 = _
          refine Eq.trans (e1 hG PT_158 k158_283 _ _ _) ?_
          show G 158 285 [some (.inr (.inr x0)), some (.inl x1), some (.inl x2), some (.inl x3), some (.inl x4), some (.inl x5), some (.inl x6), some (.inl x7), some (.inr (.inl j2)), none, o10, o11, o12, o13, none, o15, o16, none] [.inl x7, .inl 5, .inr (.inr r5)] u3.2 = _
          refine Eq.trans (e1 hG PT_158 k158_285 _ _ _) ?_
          show G 158 286 [some (.inr (.inr x0)), some (.inl x1), some (.inl x2), some (.inl x3), some (.inl x4), some (.inl x5), some (.inl x6), some (.inl x7), some (.inr (.inl j2)), none, o10, o11, o12, o13, none, o15, o16, none] [.inl (5 * x7), .inr (.inr r5)] u3.2 = _
          refine Eq.trans (e1 hG PT_158 k158_286 _ _ _) ?_
          show G 158 288 [some (.inr (.inr x0)), some (.inl x1), some (.inl x2), some (.inl x3), some (.inl x4), some (.inl x5), some (.inl x6), some (.inl x7), some (.inr (.inl j2)), none, o10, o11, o12, o13, none, o15, o16, none] [.inl x4, .inl (5 * x7), .inr (.inr r5)] u3.2 = _
          refine Eq.trans (e1 hG PT_158 k158_288 _ _ _) ?_
          show G 158 289 [some (.inr (.inr x0)), some (.inl x1), some (.inl x2), some (.inl x3), some (.inl x4), some (.inl x5), some (.inl x6), some (.inl x7), some (.inr (.inl j2)), none, o10, o11, o12, o13, none, o15, o16, none] [.inl ((5 * x7) + x4), .inr (.inr r5)] u3.2 = _
          refine Eq.trans (e1 hG PT_158 k158_289 _ _ _) ?_
          refine bdc fun i6 => ?_
          show G 158 290 [some (.inr (.inr x0)), some (.inl x1), some (.inl x2), some (.inl x3), some (.inl x4), some (.inl x5), some (.inl x6), some (.inl x7), some (.inr (.inl j2)), none, o10, o11, o12, o13, none, o15, o16, none] [.inl i6] u3.2 = _
          refine Eq.trans (e1 hG PT_158 k158_290 _ _ _) ?_
          show G 158 292 [some (.inr (.inr x0)), some (.inl x1), some (.inl x2), some (.inl x3), some (.inl x4), some (.inl x5), some (.inl x6), some (.inl x7), some (.inr (.inl j2)), none, some (.inl i6), o11, o12, o13, none, o15, o16, none] [] u3.2 = _
          refine Eq.trans (e1 hG PT_158 k158_292 _ _ _) ?_
          show G 158 293 [some (.inr (.inr x0)), some (.inl x1), some (.inl x2), some (.inl x3), some (.inl x4), some (.inl x5), some (.inl x6), some (.inl x7), some (.inr (.inl j2)), none, some (.inl i6), o11, o12, o13, none, o15, o16, none] [.inr (.inr x0)] u3.2 = _
          refine Eq.trans (e1 hG PT_158 k158_293 _ _ _) ?_
          show G 158 295 [some (.inr (.inr x0)), some (.inl x1), some (.inl x2), some (.inl x3), some (.inl x4), some (.inl x5), some (.inl x6), some (.inl x7), some (.inr (.inl j2)), none, some (.inl i6), o11, o12, o13, none, o15, o16, none] [.inl x7, .inr (.inr x0)] u3.2 = _
          refine Eq.trans (e1 hG PT_158 k158_295 _ _ _) ?_
          refine bfc ?_ ?_
          · refine bdc fun u7 => ?_
            refine bdc fun i8 => ?_
            show G 158 298 [some (.inr (.inr x0)), some (.inl x1), some (.inl x2), some (.inl x3), some (.inl x4), some (.inl x5), some (.inl x6), some (.inl x7), some (.inr (.inl j2)), none, some (.inl i6), o11, o12, o13, none, o15, o16, none] [.inl i8] u7.2 = _
            refine Eq.trans (e1 hG PT_158 k158_298 _ _ _) ?_
            show G 158 300 [some (.inr (.inr x0)), some (.inl x1), some (.inl x2), some (.inl x3), some (.inl x4), some (.inl x5), some (.inl x6), some (.inl x7), some (.inr (.inl j2)), none, some (.inl i6), o11, o12, o13, none, o15, o16, none] [.inl i6, .inl i8] u7.2 = _
            refine Eq.trans (e1 hG PT_158 k158_300 _ _ _) ?_
            show G 158 302 [some (.inr (.inr x0)), some (.inl x1), some (.inl x2), some (.inl x3), some (.inl x4), some (.inl x5), some (.inl x6), some (.inl x7), some (.inr (.inl j2)), none, some (.inl i6), o11, o12, o13, none, o15, o16, none] [.inl x5, .inl i6, .inl i8] u7.2 = _
            refine Eq.trans (e1 hG PT_158 k158_302 _ _ _) ?_
            show G 158 303 [some (.inr (.inr x0)), some (.inl x1), some (.inl x2), some (.inl x3), some (.inl x4), some (.inl x5), some (.inl x6), some (.inl x7), some (.inr (.inl j2)), none, some (.inl i6), o11, o12, o13, none, o15, o16, none] [.inl (i6 * x5), .inl i8] u7.2 = _
            refine Eq.trans (e1 hG PT_158 k158_303 _ _ _) ?_
            show G 158 304 [some (.inr (.inr x0)), some (.inl x1), some (.inl x2), some (.inl x3), some (.inl x4), some (.inl x5), some (.inl x6), some (.inl x7), some (.inr (.inl j2)), none, some (.inl i6), o11, o12, o13, none, o15, o16, none] [.inl (i8 - (i6 * x5))] u7.2 = _
            refine Eq.trans (e1 hG PT_158 k158_304 _ _ _) ?_
            show G 158 306 [some (.inr (.inr x0)), some (.inl x1), some (.inl x2), some (.inl x3), some (.inl x4), some (.inl x5), some (.inl x6), some (.inl x7), some (.inr (.inl j2)), none, some (.inl i6), some (.inl (i8 - (i6 * x5))), o12, o13, none, o15, o16, none] [] u7.2 = _
            refine Eq.trans (e1 hG PT_158 k158_306 _ _ _) ?_
            show G 158 307 [some (.inr (.inr x0)), some (.inl x1), some (.inl x2), some (.inl x3), some (.inl x4), some (.inl x5), some (.inl x6), some (.inl x7), some (.inr (.inl j2)), none, some (.inl i6), some (.inl (i8 - (i6 * x5))), o12, o13, none, o15, o16, none] [.inl 1] u7.2 = _
            refine Eq.trans (e1 hG PT_158 k158_307 _ _ _) ?_
            rfl
          · rfl
        · show G 158 276 [some (.inr (.inr x0)), some (.inl x1), some (.inl x2), some (.inl x3), some (.inl x4), some (.inl x5), some (.inl x6), some (.inl x7), some (.inr (.inl j2)), none, o10, o11, o12, o13, none, o15, o16, none] [] u3.2 = _
          refine Eq.trans (e1 hG PT_158 k158_276 _ _ _) ?_
          show G 158 277 [some (.inr (.inr x0)), some (.inl x1), some (.inl x2), some (.inl x3), some (.inl x4), some (.inl x5), some (.inl x6), some (.inl x7), some (.inr (.inl j2)), none, o10, o11, o12, o13, none, o15, o16, none] [.inl 0] u3.2 = _
          exact e1 hG PT_158 k158_277 _ _ _
      · rfl
set_option maxRecDepth 100000 in
theorem b158_309 {G : AG} (hG : FIX G) (x0 : Nat) (x1 : Int32) (x2 : Int32) (x3 : Int32) (x4 : Int32) (x5 : Int32) (x6 : Int32) (x7 : Int32) (x8 : Int64) (x10 : Int32) (x11 : Int32) (x12 : Int32) (o13 : Option AV) (o15 : Option AV) (o16 : Option AV) (H : Hp) : G 158 309 [some (.inr (.inr x0)), some (.inl x1), some (.inl x2), some (.inl x3), some (.inl x4), some (.inl x5), some (.inl x6), some (.inl x7), some (.inr (.inl x8)), none, some (.inl x10), some (.inl x11), some (.inl x12), o13, none, o15, o16, none] [] H = (bif decide (((x10 + 1) : Int32) < (x12 : Int32)) then G 158 420 [some (.inr (.inr x0)), some (.inl x1), some (.inl x2), some (.inl x3), some (.inl x4), some (.inl x5), some (.inl x6), some (.inl x7), some (.inr (.inl x8)), none, some (.inl x10), some (.inl x11), some (.inl x12), o13, none, o15, o16, none] [] H else (hgR H x0 73).bind fun r1 => (hAI H r1 (((6 * x10) + x12))).bind fun i2 => G 158 340 [some (.inr (.inr x0)), some (.inl x1), some (.inl x2), some (.inl x3), some (.inl x4), some (.inl x5), some (.inl x6), some (.inl x7), some (.inr (.inl x8)), none, some (.inl x10), some (.inl x11), some (.inl x12), some (.inr (.inl (x8 * i2.toInt64))), none, some (.inl 0), o16, none] [] H) := by
  refine Eq.trans (e1 hG PT_158 k158_309 _ _ _) ?_
  show G 158 311 [some (.inr (.inr x0)), some (.inl x1), some (.inl x2), some (.inl x3), some (.inl x4), some (.inl x5), some (.inl x6), some (.inl x7), some (.inr (.inl x8)), none, some (.inl x10), some (.inl x11), some (.inl x12), o13, none, o15, o16, none] [.inl x12] H = _
  refine Eq.trans (e1 hG PT_158 k158_311 _ _ _) ?_
  show G 158 313 [some (.inr (.inr x0)), some (.inl x1), some (.inl x2), some (.inl x3), some (.inl x4), some (.inl x5), some (.inl x6), some (.inl x7), some (.inr (.inl x8)), none, some (.inl x10), some (.inl x11), some (.inl x12), o13, none, o15, o16, none] [.inl x10, .inl x12] H = _
  refine Eq.trans (e1 hG PT_158 k158_313 _ _ _) ?_
  show G 158 314 [some (.inr (.inr x0)), some (.inl x1), some (.inl x2), some (.inl x3), some (.inl x4), some (.inl x5), some (.inl x6), some (.inl x7), some (.inr (.inl x8)), none, some (.inl x10), some (.inl x11), some (.inl x12), o13, none, o15, o16, none] [.inl 1, .inl x10, .inl x12] H = _
  refine Eq.trans (e1 hG PT_158 k158_314 _ _ _) ?_
  show G 158 315 [some (.inr (.inr x0)), some (.inl x1), some (.inl x2), some (.inl x3), some (.inl x4), some (.inl x5), some (.inl x6), some (.inl x7), some (.inr (.inl x8)), none, some (.inl x10), some (.inl x11), some (.inl x12), o13, none, o15, o16, none] [.inl (x10 + 1), .inl x12] H = _
  refine Eq.trans (e1 hG PT_158 k158_315 _ _ _) ?_
  refine bfc ?_ ?_
  · rfl
  · show G 158 318 [some (.inr (.inr x0)), some (.inl x1), some (.inl x2), some (.inl x3), some (.inl x4), some (.inl x5), some (.inl x6), some (.inl x7), some (.inr (.inl x8)), none, some (.inl x10), some (.inl x11), some (.inl x12), o13, none, o15, o16, none] [] H = _
    refine Eq.trans (e1 hG PT_158 k158_318 _ _ _) ?_
    show G 158 320 [some (.inr (.inr x0)), some (.inl x1), some (.inl x2), some (.inl x3), some (.inl x4), some (.inl x5), some (.inl x6), some (.inl x7), some (.inr (.inl x8)), none, some (.inl x10), some (.inl x11), some (.inl x12), o13, none, o15, o16, none] [.inr (.inl x8)] H = _
    refine Eq.trans (e1 hG PT_158 k158_320 _ _ _) ?_
    show G 158 321 [some (.inr (.inr x0)), some (.inl x1), some (.inl x2), some (.inl x3), some (.inl x4), some (.inl x5), some (.inl x6), some (.inl x7), some (.inr (.inl x8)), none, some (.inl x10), some (.inl x11), some (.inl x12), o13, none, o15, o16, none] [.inr (.inr x0), .inr (.inl x8)] H = _
    refine Eq.trans (e1 hG PT_158 k158_321 _ _ _) ?_
    refine bdc fun r1 => ?_
    show G 158 324 [some (.inr (.inr x0)), some (.inl x1), some (.inl x2), some (.inl x3), some (.inl x4), some (.inl x5), some (.inl x6), some (.inl x7), some (.inr (.inl x8)), none, some (.inl x10), some (.inl x11), some (.inl x12), o13, none, o15, o16, none] [.inr (.inr r1), .inr (.inl x8)] H = _
    refine Eq.trans (e1 hG PT_158 k158_324 _ _ _) ?_
    show G 158 326 [some (.inr (.inr x0)), some (.inl x1), some (.inl x2), some (.inl x3), some (.inl x4), some (.inl x5), some (.inl x6), some (.inl x7), some (.inr (.inl x8)), none, some (.inl x10), some (.inl x11), some (.inl x12), o13, none, o15, o16, none] [.inl 6, .inr (.inr r1), .inr (.inl x8)] H = _
    refine Eq.trans (e1 hG PT_158 k158_326 _ _ _) ?_
    show G 158 328 [some (.inr (.inr x0)), some (.inl x1), some (.inl x2), some (.inl x3), some (.inl x4), some (.inl x5), some (.inl x6), some (.inl x7), some (.inr (.inl x8)), none, some (.inl x10), some (.inl x11), some (.inl x12), o13, none, o15, o16, none] [.inl x10, .inl 6, .inr (.inr r1), .inr (.inl x8)] H = _
    refine Eq.trans (e1 hG PT_158 k158_328 _ _ _) ?_
    show G 158 329 [some (.inr (.inr x0)), some (.inl x1), some (.inl x2), some (.inl x3), some (.inl x4), some (.inl x5), some (.inl x6), some (.inl x7), some (.inr (.inl x8)), none, some (.inl x10), some (.inl x11), some (.inl x12), o13, none, o15, o16, none] [.inl (6 * x10), .inr (.inr r1), .inr (.inl x8)] H = _
    refine Eq.trans (e1 hG PT_158 k158_329 _ _ _) ?_
    show G 158 331 [some (.inr (.inr x0)), some (.inl x1), some (.inl x2), some (.inl x3), some (.inl x4), some (.inl x5), some (.inl x6), some (.inl x7), some (.inr (.inl x8)), none, some (.inl x10), some (.inl x11), some (.inl x12), o13, none, o15, o16, none] [.inl x12, .inl (6 * x10), .inr (.inr r1), .inr (.inl x8)] H = _
    refine Eq.trans (e1 hG PT_158 k158_331 _ _ _) ?_
    show G 158 332 [some (.inr (.inr x0)), some (.inl x1), some (.inl x2), some (.inl x3), some (.inl x4), some (.inl x5), some (.inl x6), some (.inl x7), some (.inr (.inl x8)), none, some (.inl x10), some (.inl x11), some (.inl x12), o13, none, o15, o16, none] [.inl ((6 * x10) + x12), .inr (.inr r1), .inr (.inl x8)] H = _
    refine Eq.trans (e1 hG PT_158 k158_332 _ _ _) ?_
    refine bdc fun i2 => ?_
    show G 158 333 [some (.inr (.inr x0)), some (.inl x1), some (.inl x2), some (.inl x3), some (.inl x4), some (.inl x5), some (.inl x6), some (.inl x7), some (.inr (.inl x8)), none, some (.inl x10), some (.inl x11), some (.inl x12), o13, none, o15, o16, none] [.inl i2, .inr (.inl x8)] H = _
    refine Eq.trans (e1 hG PT_158 k158_333 _ _ _) ?_
    show G 158 334 [some (.inr (.inr x0)), some (.inl x1), some (.inl x2), some (.inl x3), some (.inl x4), some (.inl x5), some (.inl x6), some (.inl x7), some (.inr (.inl x8)), none, some (.inl x10), some (.inl x11), some (.inl x12), o13, none, o15, o16, none] [.inr (.inl i2.toInt64), .inr (.inl x8)] H = _
    refine Eq.trans (e1 hG PT_158 k158_334 _ _ _) ?_
    show G 158 335 [some (.inr (.inr x0)), some (.inl x1), some (.inl x2), some (.inl x3), some (.inl x4), some (.inl x5), some (.inl x6), some (.inl x7), some (.inr (.inl x8)), none, some (.inl x10), some (.inl x11), some (.inl x12), o13, none, o15, o16, none] [.inr (.inl (x8 * i2.toInt64))] H = _
    refine Eq.trans (e1 hG PT_158 k158_335 _ _ _) ?_
    show G 158 337 [some (.inr (.inr x0)), some (.inl x1), some (.inl x2), some (.inl x3), some (.inl x4), some (.inl x5), some (.inl x6), some (.inl x7), some (.inr (.inl x8)), none, some (.inl x10), some (.inl x11), some (.inl x12), some (.inr (.inl (x8 * i2.toInt64))), none, o15, o16, none] [] H = _
    refine Eq.trans (e1 hG PT_158 k158_337 _ _ _) ?_
    show G 158 338 [some (.inr (.inr x0)), some (.inl x1), some (.inl x2), some (.inl x3), some (.inl x4), some (.inl x5), some (.inl x6), some (.inl x7), some (.inr (.inl x8)), none, some (.inl x10), some (.inl x11), some (.inl x12), some (.inr (.inl (x8 * i2.toInt64))), none, o15, o16, none] [.inl 0] H = _
    refine Eq.trans (e1 hG PT_158 k158_338 _ _ _) ?_
    rfl
set_option maxRecDepth 100000 in
theorem b158_340 {G : AG} (hG : FIX G) (x0 : Nat) (x1 : Int32) (x2 : Int32) (x3 : Int32) (x4 : Int32) (x5 : Int32) (x6 : Int32) (x7 : Int32) (x8 : Int64) (x10 : Int32) (x11 : Int32) (x12 : Int32) (x13 : Int64) (x15 : Int32) (o16 : Option AV) (H : Hp) : G 158 340 [some (.inr (.inr x0)), some (.inl x1), some (.inl x2), some (.inl x3), some (.inl x4), some (.inl x5), some (.inl x6), some (.inl x7), some (.inr (.inl x8)), none, some (.inl x10), some (.inl x11), some (.inl x12), some (.inr (.inl x13)), none, some (.inl x15), o16, none] [] H = (bif decide ((252 : Int32) ≤ (x15 : Int32)) then G 158 414 [some (.inr (.inr x0)), some (.inl x1), some (.inl x2), some (.inl x3), some (.inl x4), some (.inl x5), some (.inl x6), some (.inl x7), some (.inr (.inl x8)), none, some (.inl x10), some (.inl x11), some (.inl x12), some (.inr (.inl x13)), none, some (.inl x15), o16, none] [] H else bif decide (((lg_cmp x13 0) : Int32) = 0) then G 158 414 [some (.inr (.inr x0)), some (.inl x1), some (.inl x2), some (.inl x3), some (.inl x4), some (.inl x5), some (.inl x6), some (.inl x7), some (.inr (.inl x8)), none, some (.inl x10), some (.inl x11), some (.inl x12), some (.inr (.inl x13)), none, some (.inl x15), o16, none] [] H else (hgR H x0 67).bind fun r1 => (hAJ H r1 (((252 * (58 + x12)) + x15))).bind fun j2 => bif decide (((lg_cmp j2 0) : Int32) = 0) then G 158 408 [some (.inr (.inr x0)), some (.inl x1), some (.inl x2), some (.inl x3), some (.inl x4), some (.inl x5), some (.inl x6), some (.inl x7), some (.inr (.inl x8)), none, some (.inl x10), some (.inl x11), some (.inl x12), some (.inr (.inl x13)), none, some (.inl x15), some (.inr (.inl j2)), none] [] H else (hgR H x0 71).bind fun r3 => (hgR H x0 62).bind fun r4 => bif Nat.beq (H.1 x0).1 12 then (G 160 0 [some (.inr (.inr x0)), some (.inl x15), none, none] [] H).bind fun u5 => (asI u5.1).bind fun i6 => (hAI u5.2 r4 ((x11 + i6))).bind fun i7 => (hAJ u5.2 r3 i7).bind fun j8 => (hSJ u5.2 r3 i7 ((j8 + (x13 * j2)))).bind fun H9 => G 158 408 [some (.inr (.inr x0)), some (.inl x1), some (.inl x2), some (.inl x3), some (.inl x4), some (.inl x5), some (.inl x6), some (.inl x7), some (.inr (.inl x8)), none, some (.inl x10), some (.inl x11), some (.inl x12), some (.inr (.inl x13)), none, some (.inl x15), some (.inr (.inl j2)), none] [] H9 else none) := by
  refine Eq.trans (e1 hG PT_158 k158_340 _ _ _) ?_
  show G 158 342 [some (.inr (.inr x0)), some (.inl x1), some (.inl x2), some (.inl x3), some (.inl x4), some (.inl x5), some (.inl x6), some (.inl x7), some (.inr (.inl x8)), none, some (.inl x10), some (.inl x11), some (.inl x12), some (.inr (.inl x13)), none, some (.inl x15), o16, none] [.inl x15] H = _
  refine Eq.trans (e1 hG PT_158 k158_342 _ _ _) ?_
  show G 158 345 [some (.inr (.inr x0)), some (.inl x1), some (.inl x2), some (.inl x3), some (.inl x4), some (.inl x5), some (.inl x6), some (.inl x7), some (.inr (.inl x8)), none, some (.inl x10), some (.inl x11), some (.inl x12), some (.inr (.inl x13)), none, some (.inl x15), o16, none] [.inl 252, .inl x15] H = _
  refine Eq.trans (e1 hG PT_158 k158_345 _ _ _) ?_
  refine bfc ?_ ?_
  · rfl
  · show G 158 348 [some (.inr (.inr x0)), some (.inl x1), some (.inl x2), some (.inl x3), some (.inl x4), some (.inl x5), some (.inl x6), some (.inl x7), some (.inr (.inl x8)), none, some (.inl x10), some (.inl x11), some (.inl x12), some (.inr (.inl x13)), none, some (.inl x15), o16, none] [] H = _
    refine Eq.trans (e1 hG PT_158 k158_348 _ _ _) ?_
    show G 158 350 [some (.inr (.inr x0)), some (.inl x1), some (.inl x2), some (.inl x3), some (.inl x4), some (.inl x5), some (.inl x6), some (.inl x7), some (.inr (.inl x8)), none, some (.inl x10), some (.inl x11), some (.inl x12), some (.inr (.inl x13)), none, some (.inl x15), o16, none] [.inr (.inl x13)] H = _
    refine Eq.trans (e1 hG PT_158 k158_350 _ _ _) ?_
    show G 158 351 [some (.inr (.inr x0)), some (.inl x1), some (.inl x2), some (.inl x3), some (.inl x4), some (.inl x5), some (.inl x6), some (.inl x7), some (.inr (.inl x8)), none, some (.inl x10), some (.inl x11), some (.inl x12), some (.inr (.inl x13)), none, some (.inl x15), o16, none] [.inr (.inl 0), .inr (.inl x13)] H = _
    refine Eq.trans (e1 hG PT_158 k158_351 _ _ _) ?_
    show G 158 352 [some (.inr (.inr x0)), some (.inl x1), some (.inl x2), some (.inl x3), some (.inl x4), some (.inl x5), some (.inl x6), some (.inl x7), some (.inr (.inl x8)), none, some (.inl x10), some (.inl x11), some (.inl x12), some (.inr (.inl x13)), none, some (.inl x15), o16, none] [.inl (lg_cmp x13 0)] H = _
    refine Eq.trans (e1 hG PT_158 k158_352 _ _ _) ?_
    refine bfc ?_ ?_
    · rfl
    · show G 158 355 [some (.inr (.inr x0)), some (.inl x1), some (.inl x2), some (.inl x3), some (.inl x4), some (.inl x5), some (.inl x6), some (.inl x7), some (.inr (.inl x8)), none, some (.inl x10), some (.inl x11), some (.inl x12), some (.inr (.inl x13)), none, some (.inl x15), o16, none] [] H = _
      refine Eq.trans (e1 hG PT_158 k158_355 _ _ _) ?_
      show G 158 356 [some (.inr (.inr x0)), some (.inl x1), some (.inl x2), some (.inl x3), some (.inl x4), some (.inl x5), some (.inl x6), some (.inl x7), some (.inr (.inl x8)), none, some (.inl x10), some (.inl x11), some (.inl x12), some (.inr (.inl x13)), none, some (.inl x15), o16, none] [.inr (.inr x0)] H = _
      refine Eq.trans (e1 hG PT_158 k158_356 _ _ _) ?_
      refine bdc fun r1 => ?_
      show G 158 359 [some (.inr (.inr x0)), some (.inl x1), some (.inl x2), some (.inl x3), some (.inl x4), some (.inl x5), some (.inl x6), some (.inl x7), some (.inr (.inl x8)), none, some (.inl x10), some (.inl x11), some (.inl x12), some (.inr (.inl x13)), none, some (.inl x15), o16, none] [.inr (.inr r1)] H = _
      refine Eq.trans (e1 hG PT_158 k158_359 _ _ _) ?_
      show G 158 362 [some (.inr (.inr x0)), some (.inl x1), some (.inl x2), some (.inl x3), some (.inl x4), some (.inl x5), some (.inl x6), some (.inl x7), some (.inr (.inl x8)), none, some (.inl x10), some (.inl x11), some (.inl x12), some (.inr (.inl x13)), none, some (.inl x15), o16, none] [.inl 252, .inr (.inr r1)] H = _
      refine Eq.trans (e1 hG PT_158 k158_362 _ _ _) ?_
      show G 158 364 [some (.inr (.inr x0)), some (.inl x1), some (.inl x2), some (.inl x3), some (.inl x4), some (.inl x5), some (.inl x6), some (.inl x7), some (.inr (.inl x8)), none, some (.inl x10), some (.inl x11), some (.inl x12), some (.inr (.inl x13)), none, some (.inl x15), o16, none] [.inl 58, .inl 252, .inr (.inr r1)] H = _
      refine Eq.trans (e1 hG PT_158 k158_364 _ _ _) ?_
      show G 158 366 [some (.inr (.inr x0)), some (.inl x1), some (.inl x2), some (.inl x3), some (.inl x4), some (.inl x5), some (.inl x6), some (.inl x7), some (.inr (.inl x8)), none, some (.inl x10), some (.inl x11), some (.inl x12), some (.inr (.inl x13)), none, some (.inl x15), o16, none] [.inl x12, .inl 58, .inl 252, .inr (.inr r1)] H = _
      refine Eq.trans (e1 hG PT_158 k158_366 _ _ _) ?_
      show G 158 367 [some (.inr (.inr x0)), some (.inl x1), some (.inl x2), some (.inl x3), some (.inl x4), some (.inl x5), some (.inl x6), some (.inl x7), some (.inr (.inl x8)), none, some (.inl x10), some (.inl x11), some (.inl x12), some (.inr (.inl x13)), none, some (.inl x15), o16, none] [.inl (58 + x12), .inl 252, .inr (.inr r1)] H = _
      refine Eq.trans (e1 hG PT_158 k158_367 _ _ _) ?_
      show G 158 368 [some (.inr (.inr x0)), some (.inl x1), some (.inl x2), some (.inl x3), some (.inl x4), some (.inl x5), some (.inl x6), some (.inl x7), some (.inr (.inl x8)), none, some (.inl x10), some (.inl x11), some (.inl x12), some (.inr (.inl x13)), none, some (.inl x15), o16, none] [.inl (252 * (58 + x12)), .inr (.inr r1)] H = _
      refine Eq.trans (e1 hG PT_158 k158_368 _ _ _) ?_
      show G 158 370 [some (.inr (.inr x0)), some (.inl x1), some (.inl x2), some (.inl x3), some (.inl x4), some (.inl x5), some (.inl x6), some (.inl x7), some (.inr (.inl x8)), none, some (.inl x10), some (.inl x11), some (.inl x12), some (.inr (.inl x13)), none, some (.inl x15), o16, none] [.inl x15, .inl (252 * (58 + x12)), .inr (.inr r1)] H = _
      refine Eq.trans (e1 hG PT_158 k158_370 _ _ _) ?_
      show G 158 371 [some (.inr (.inr x0)), some (.inl x1), some (.inl x2), some (.inl x3), some (.inl x4), some (.inl x5), some (.inl x6), some (.inl x7), some (.inr (.inl x8)), none, some (.inl x10), some (.inl x11), some (.inl x12), some (.inr (.inl x13)), none, some (.inl x15), o16, none] [.inl ((252 * (58 + x12)) + x15), .inr (.inr r1)] H = _
      refine Eq.trans (e1 hG PT_158 k158_371 _ _ _) ?_
      refine bdc fun j2 => ?_
      show G 158 372 [some (.inr (.inr x0)), some (.inl x1), some (.inl x2), some (.inl x3), some (.inl x4), some (.inl x5), some (.inl x6), some (.inl x7), some (.inr (.inl x8)), none, some (.inl x10), some (.inl x11), some (.inl x12), some (.inr (.inl x13)), none, some (.inl x15), o16, none] [.inr (.inl j2)] H = _
      refine Eq.trans (e1 hG PT_158 k158_372 _ _ _) ?_
      show G 158 374 [some (.inr (.inr x0)), some (.inl x1), some (.inl x2), some (.inl x3), some (.inl x4), some (.inl x5), some (.inl x6), some (.inl x7), some (.inr (.inl x8)), none, some (.inl x10), some (.inl x11), some (.inl x12), some (.inr (.inl x13)), none, some (.inl x15), some (.inr (.inl j2)), none] [] H = _
      refine Eq.trans (e1 hG PT_158 k158_374 _ _ _) ?_
      show G 158 376 [some (.inr (.inr x0)), some (.inl x1), some (.inl x2), some (.inl x3), some (.inl x4), some (.inl x5), some (.inl x6), some (.inl x7), some (.inr (.inl x8)), none, some (.inl x10), some (.inl x11), some (.inl x12), some (.inr (.inl x13)), none, some (.inl x15), some (.inr (.inl j2)), none] [.inr (.inl j2)] H = _
      refine Eq.trans (e1 hG PT_158 k158_376 _ _ _) ?_
      show G 158 377 [some (.inr (.inr x0)), some (.inl x1), some (.inl x2), some (.inl x3), some (.inl x4), some (.inl x5), some (.inl x6), some (.inl x7), some (.inr (.inl x8)), none, some (.inl x10), some (.inl x11), some (.inl x12), some (.inr (.inl x13)), none, some (.inl x15), some (.inr (.inl j2)), none] [.inr (.inl 0), .inr (.inl j2)] H = _
      refine Eq.trans (e1 hG PT_158 k158_377 _ _ _) ?_
      show G 158 378 [some (.inr (.inr x0)), some (.inl x1), some (.inl x2), some (.inl x3), some (.inl x4), some (.inl x5), some (.inl x6), some (.inl x7), some (.inr (.inl x8)), none, some (.inl x10), some (.inl x11), some (.inl x12), some (.inr (.inl x13)), none, some (.inl x15), some (.inr (.inl j2)), none] [.inl (lg_cmp j2 0)] H = _
      refine Eq.trans (e1 hG PT_158 k158_378 _ _ _) ?_
      refine bfc ?_ ?_
      · rfl
      · show G 158 381 [some (.inr (.inr x0)), some (.inl x1), some (.inl x2), some (.inl x3), some (.inl x4), some (.inl x5), some (.inl x6), some (.inl x7), some (.inr (.inl x8)), none, some (.inl x10), some (.inl x11), some (.inl x12), some (.inr (.inl x13)), none, some (.inl x15), some (.inr (.inl j2)), none] [] H = _
        refine Eq.trans (e1 hG PT_158 k158_381 _ _ _) ?_
        show G 158 382 [some (.inr (.inr x0)), some (.inl x1), some (.inl x2), some (.inl x3), some (.inl x4), some (.inl x5), some (.inl x6), some (.inl x7), some (.inr (.inl x8)), none, some (.inl x10), some (.inl x11), some (.inl x12), some (.inr (.inl x13)), none, some (.inl x15), some (.inr (.inl j2)), none] [.inr (.inr x0)] H = _
        refine Eq.trans (e1 hG PT_158 k158_382 _ _ _) ?_
        refine bdc fun r3 => ?_
        show G 158 385 [some (.inr (.inr x0)), some (.inl x1), some (.inl x2), some (.inl x3), some (.inl x4), some (.inl x5), some (.inl x6), some (.inl x7), some (.inr (.inl x8)), none, some (.inl x10), some (.inl x11), some (.inl x12), some (.inr (.inl x13)), none, some (.inl x15), some (.inr (.inl j2)), none] [.inr (.inr r3)] H = _
        refine Eq.trans (e1 hG PT_158 k158_385 _ _ _) ?_
        show G 158 386 [some (.inr (.inr x0)), some (.inl x1), some (.inl x2), some (.inl x3), some (.inl x4), some (.inl x5), some (.inl x6), some (.inl x7), some (.inr (.inl x8)), none, some (.inl x10), some (.inl x11), some (.inl x12), some (.inr (.inl x13)), none, some (.inl x15), some (.inr (.inl j2)), none] [.inr (.inr x0), .inr (.inr r3)] H = _
        refine Eq.trans (e1 hG PT_158 k158_386 _ _ _) ?_
        refine bdc fun r4 => ?_
        show G 158 389 [some (.inr (.inr x0)), some (.inl x1), some (.inl x2), some (.inl x3), some (.inl x4), some (.inl x5), some (.inl x6), some (.inl x7), some (.inr (.inl x8)), none, some (.inl x10), some (.inl x11), some (.inl x12), some (.inr (.inl x13)), none, some (.inl x15), some (.inr (.inl j2)), none] [.inr (.inr r4), .inr (.inr r3)] H = _
        refine Eq.trans (e1 hG PT_158 k158_389 _ _ _) ?_
        show G 158 391 [some (.inr (.inr x0)), some (.inl x1), some (.inl x2), some (.inl x3), some (.inl x4), some (.inl x5), some (.inl x6), some (.inl x7), some (.inr (.inl x8)), none, some (.inl x10), some (.inl x11), some (.inl x12), some (.inr (.inl x13)), none, some (.inl x15), some (.inr (.inl j2)), none] [.inl x11, .inr (.inr r4), .inr (.inr r3)] H = _
        refine Eq.trans (e1 hG PT_158 k158_391 _ _ _) ?_
        show G 158 392 [some (.inr (.inr x0)), some (.inl x1), some (.inl x2), some (.inl x3), some (.inl x4), some (.inl x5), some (.inl x6), some (.inl x7), some (.inr (.inl x8)), none, some (.inl x10), some (.inl x11), some (.inl x12), some (.inr (.inl x13)), none, some (.inl x15), some (.inr (.inl j2)), none] [.inr (.inr x0), .inl x11, .inr (.inr r4), .inr (.inr r3)] H = _
        refine Eq.trans (e1 hG PT_158 k158_392 _ _ _) ?_
        show G 158 394 [some (.inr (.inr x0)), some (.inl x1), some (.inl x2), some (.inl x3), some (.inl x4), some (.inl x5), some (.inl x6), some (.inl x7), some (.inr (.inl x8)), none, some (.inl x10), some (.inl x11), some (.inl x12), some (.inr (.inl x13)), none, some (.inl x15), some (.inr (.inl j2)), none] [.inl x15, .inr (.inr x0), .inl x11, .inr (.inr r4), .inr (.inr r3)] H = _
        refine Eq.trans (e1 hG PT_158 k158_394 _ _ _) ?_
        refine bfc ?_ ?_
        · refine bdc fun u5 => ?_
          refine bdc fun i6 => ?_
          show G 158 397 [some (.inr (.inr x0)), some (.inl x1), some (.inl x2), some (.inl x3), some (.inl x4), some (.inl x5), some (.inl x6), some (.inl x7), some (.inr (.inl x8)), none, some (.inl x10), some (.inl x11), some (.inl x12), some (.inr (.inl x13)), none, some (.inl x15), some (.inr (.inl j2)), none] [.inl i6, .inl x11, .inr (.inr r4), .inr (.inr r3)] u5.2 = _
          refine Eq.trans (e1 hG PT_158 k158_397 _ _ _) ?_
          show G 158 398 [some (.inr (.inr x0)), some (.inl x1), some (.inl x2), some (.inl x3), some (.inl x4), some (.inl x5), some (.inl x6), some (.inl x7), some (.inr (.inl x8)), none, some (.inl x10), some (.inl x11), some (.inl x12), some (.inr (.inl x13)), none, some (.inl x15), some (.inr (.inl j2)), none] [.inl (x11 + i6), .inr (.inr r4), .inr (.inr r3)] u5.2 = _
          refine Eq.trans (e1 hG PT_158 k158_398 _ _ _) ?_
          refine bdc fun i7 => ?_
          show G 158 399 [some (.inr (.inr x0)), some (.inl x1), some (.inl x2), some (.inl x3), some (.inl x4), some (.inl x5), some (.inl x6), some (.inl x7), some (.inr (.inl x8)), none, some (.inl x10), some (.inl x11), some (.inl x12), some (.inr (.inl x13)), none, some (.inl x15), some (.inr (.inl j2)), none] [.inl i7, .inr (.inr r3)] u5.2 = _
          refine Eq.trans (e1 hG PT_158 k158_399 _ _ _) ?_
          show G 158 400 [some (.inr (.inr x0)), some (.inl x1), some (.inl x2), some (.inl x3), some (.inl x4), some (.inl x5), some (.inl x6), some (.inl x7), some (.inr (.inl x8)), none, some (.inl x10), some (.inl x11), some (.inl x12), some (.inr (.inl x13)), none, some (.inl x15), some (.inr (.inl j2)), none] [.inl i7, .inr (.inr r3), .inl i7, .inr (.inr r3)] u5.2 = _
          refine Eq.trans (e1 hG PT_158 k158_400 _ _ _) ?_
          refine bdc fun j8 => ?_
          show G 158 401 [some (.inr (.inr x0)), some (.inl x1), some (.inl x2), some (.inl x3), some (.inl x4), some (.inl x5), some (.inl x6), some (.inl x7), some (.inr (.inl x8)), none, some (.inl x10), some (.inl x11), some (.inl x12), some (.inr (.inl x13)), none, some (.inl x15), some (.inr (.inl j2)), none] [.inr (.inl j8), .inl i7, .inr (.inr r3)] u5.2 = _
          refine Eq.trans (e1 hG PT_158 k158_401 _ _ _) ?_
          show G 158 403 [some (.inr (.inr x0)), some (.inl x1), some (.inl x2), some (.inl x3), some (.inl x4), some (.inl x5), some (.inl x6), some (.inl x7), some (.inr (.inl x8)), none, some (.inl x10), some (.inl x11), some (.inl x12), some (.inr (.inl x13)), none, some (.inl x15), some (.inr (.inl j2)), none] [.inr (.inl x13), .inr (.inl j8), .inl i7, .inr (.inr r3)] u5.2 = _
          refine Eq.trans (e1 hG PT_158 k158_403 _ _ _) ?_
          show G 158 405 [some (.inr (.inr x0)), some (.inl x1), some (.inl x2), some (.inl x3), some (.inl x4), some (.inl x5), some (.inl x6), some (.inl x7), some (.inr (.inl x8)), none, some (.inl x10), some (.inl x11), some (.inl x12), some (.inr (.inl x13)), none, some (.inl x15), some (.inr (.inl j2)), none] [.inr (.inl j2), .inr (.inl x13), .inr (.inl j8), .inl i7, .inr (.inr r3)] u5.2 = _
          refine Eq.trans (e1 hG PT_158 k158_405 _ _ _) ?_
          show G 158 406 [some (.inr (.inr x0)), some (.inl x1), some (.inl x2), some (.inl x3), some (.inl x4), some (.inl x5), some (.inl x6), some (.inl x7), some (.inr (.inl x8)), none, some (.inl x10), some (.inl x11), some (.inl x12), some (.inr (.inl x13)), none, some (.inl x15), some (.inr (.inl j2)), none] [.inr (.inl (x13 * j2)), .inr (.inl j8), .inl i7, .inr (.inr r3)] u5.2 = _
          refine Eq.trans (e1 hG PT_158 k158_406 _ _ _) ?_
          show G 158 407 [some (.inr (.inr x0)), some (.inl x1), some (.inl x2), some (.inl x3), some (.inl x4), some (.inl x5), some (.inl x6), some (.inl x7), some (.inr (.inl x8)), none, some (.inl x10), some (.inl x11), some (.inl x12), some (.inr (.inl x13)), none, some (.inl x15), some (.inr (.inl j2)), none] [.inr (.inl (j8 + (x13 * j2))), .inl i7, .inr (.inr r3)] u5.2 = _
          refine Eq.trans (e1 hG PT_158 k158_407 _ _ _) ?_
          refine bdc fun H9 => ?_
          rfl
        · rfl
set_option maxRecDepth 100000 in
theorem b158_408 {G : AG} (hG : FIX G) (x0 : Nat) (x1 : Int32) (x2 : Int32) (x3 : Int32) (x4 : Int32) (x5 : Int32) (x6 : Int32) (x7 : Int32) (x8 : Int64) (x10 : Int32) (x11 : Int32) (x12 : Int32) (x13 : Int64) (x15 : Int32) (x16 : Int64) (H : Hp) : G 158 408 [some (.inr (.inr x0)), some (.inl x1), some (.inl x2), some (.inl x3), some (.inl x4), some (.inl x5), some (.inl x6), some (.inl x7), some (.inr (.inl x8)), none, some (.inl x10), some (.inl x11), some (.inl x12), some (.inr (.inl x13)), none, some (.inl x15), some (.inr (.inl x16)), none] [] H = (G 158 340 [some (.inr (.inr x0)), some (.inl x1), some (.inl x2), some (.inl x3), some (.inl x4), some (.inl x5), some (.inl x6), some (.inl x7), some (.inr (.inl x8)), none, some (.inl x10), some (.inl x11), some (.inl x12), some (.inr (.inl x13)), none, some (.inl (x15 + 1)), some (.inr (.inl x16)), none] [] H) := by
  refine Eq.trans (e1 hG PT_158 k158_408 _ _ _) ?_
  show G 158 411 [some (.inr (.inr x0)), some (.inl x1), some (.inl x2), some (.inl x3), some (.inl x4), some (.inl x5), some (.inl x6), some (.inl x7), some (.inr (.inl x8)), none, some (.inl x10), some (.inl x11), some (.inl x12), some (.inr (.inl x13)), none, some (.inl (x15 + 1)), some (.inr (.inl x16)), none] [] H = _
  refine Eq.trans (e1 hG PT_158 k158_411 _ _ _) ?_
  rfl
set_option maxRecDepth 100000 in
theorem b158_414 {G : AG} (hG : FIX G) (x0 : Nat) (x1 : Int32) (x2 : Int32) (x3 : Int32) (x4 : Int32) (x5 : Int32) (x6 : Int32) (x7 : Int32) (x8 : Int64) (x10 : Int32) (x11 : Int32) (x12 : Int32) (x13 : Int64) (x15 : Int32) (o16 : Option AV) (H : Hp) : G 158 414 [some (.inr (.inr x0)), some (.inl x1), some (.inl x2), some (.inl x3), some (.inl x4), some (.inl x5), some (.inl x6), some (.inl x7), some (.inr (.inl x8)), none, some (.inl x10), some (.inl x11), some (.inl x12), some (.inr (.inl x13)), none, some (.inl x15), o16, none] [] H = (G 158 309 [some (.inr (.inr x0)), some (.inl x1), some (.inl x2), some (.inl x3), some (.inl x4), some (.inl x5), some (.inl x6), some (.inl x7), some (.inr (.inl x8)), none, some (.inl x10), some (.inl x11), some (.inl (x12 + 1)), some (.inr (.inl x13)), none, some (.inl x15), o16, none] [] H) := by
  refine Eq.trans (e1 hG PT_158 k158_414 _ _ _) ?_
  show G 158 417 [some (.inr (.inr x0)), some (.inl x1), some (.inl x2), some (.inl x3), some (.inl x4), some (.inl x5), some (.inl x6), some (.inl x7), some (.inr (.inl x8)), none, some (.inl x10), some (.inl x11), some (.inl (x12 + 1)), some (.inr (.inl x13)), none, some (.inl x15), o16, none] [] H = _
  refine Eq.trans (e1 hG PT_158 k158_417 _ _ _) ?_
  rfl
set_option maxRecDepth 100000 in
theorem b158_420 {G : AG} (hG : FIX G) (x0 : Nat) (x1 : Int32) (x2 : Int32) (x3 : Int32) (x4 : Int32) (x5 : Int32) (x6 : Int32) (x7 : Int32) (x8 : Int64) (o10 : Option AV) (o11 : Option AV) (o12 : Option AV) (o13 : Option AV) (o15 : Option AV) (o16 : Option AV) (H : Hp) : G 158 420 [some (.inr (.inr x0)), some (.inl x1), some (.inl x2), some (.inl x3), some (.inl x4), some (.inl x5), some (.inl x6), some (.inl x7), some (.inr (.inl x8)), none, o10, o11, o12, o13, none, o15, o16, none] [] H = (G 158 236 [some (.inr (.inr x0)), some (.inl x1), some (.inl x2), some (.inl x3), some (.inl x4), some (.inl x5), some (.inl x6), some (.inl (x7 + 1)), some (.inr (.inl x8)), none, o10, o11, o12, o13, none, o15, o16, none] [] H) := by
  refine Eq.trans (e1 hG PT_158 k158_420 _ _ _) ?_
  show G 158 423 [some (.inr (.inr x0)), some (.inl x1), some (.inl x2), some (.inl x3), some (.inl x4), some (.inl x5), some (.inl x6), some (.inl (x7 + 1)), some (.inr (.inl x8)), none, o10, o11, o12, o13, none, o15, o16, none] [] H = _
  refine Eq.trans (e1 hG PT_158 k158_423 _ _ _) ?_
  rfl
set_option maxRecDepth 100000 in
theorem b158_429 {G : AG} (hG : FIX G) (x0 : Nat) (x1 : Int32) (x2 : Int32) (x3 : Int32) (x4 : Int32) (x5 : Int32) (x6 : Int32) (x7 : Int32) (o8 : Option AV) (o10 : Option AV) (o11 : Option AV) (o12 : Option AV) (o13 : Option AV) (o15 : Option AV) (o16 : Option AV) (H : Hp) : G 158 429 [some (.inr (.inr x0)), some (.inl x1), some (.inl x2), some (.inl x3), some (.inl x4), some (.inl x5), some (.inl x6), some (.inl x7), o8, none, o10, o11, o12, o13, none, o15, o16, none] [] H = (bif decide ((252 : Int32) ≤ (x7 : Int32)) then G 158 474 [some (.inr (.inr x0)), some (.inl x1), some (.inl x2), some (.inl x3), some (.inl x4), some (.inl x5), some (.inl x6), some (.inl x7), o8, none, o10, o11, o12, o13, none, o15, o16, none] [] H else (hgR H x0 71).bind fun r1 => (hAJ H r1 x7).bind fun j2 => ((if (60 : Int64) = 0 then none else some (j2 - j2 / 60 * 60))).bind fun j3 => bif decide (((lg_cmp j3 0) : Int32) = 0) then (hgR H x0 71).bind fun r4 => (hAJ H r4 x7).bind fun j5 => ((if (60 : Int64) = 0 then none else some (j5 / 60))).bind fun j6 => (hSJ H r4 x7 j6).bind fun H7 => G 158 429 [some (.inr (.inr x0)), some (.inl x1), some (.inl x2), some (.inl x3), some (.inl x4), some (.inl x5), some (.inl x6), some (.inl (x7 + 1)), o8, none, o10, o11, o12, o13, none, o15, o16, none] [] H7 else retZ 0 H) := by
  refine Eq.trans (e1 hG PT_158 k158_429 _ _ _) ?_
  show G 158 431 [some (.inr (.inr x0)), some (.inl x1), some (.inl x2), some (.inl x3), some (.inl x4), some (.inl x5), some (.inl x6), some (.inl x7), o8, none, o10, o11, o12, o13, none, o15, o16, none] [.inl x7] H = _
  refine Eq.trans (e1 hG PT_158 k158_431 _ _ _) ?_
  show G 158 434 [some (.inr (.inr x0)), some (.inl x1), some (.inl x2), some (.inl x3), some (.inl x4), some (.inl x5), some (.inl x6), some (.inl x7), o8, none, o10, o11, o12, o13, none, o15, o16, none] [.inl 252, .inl x7] H = _
  refine Eq.trans (e1 hG PT_158 k158_434 _ _ _) ?_
  refine bfc ?_ ?_
  · rfl
  · show G 158 437 [some (.inr (.inr x0)), some (.inl x1), some (.inl x2), some (.inl x3), some (.inl x4), some (.inl x5), some (.inl x6), some (.inl x7), o8, none, o10, o11, o12, o13, none, o15, o16, none] [] H = _
    refine Eq.trans (e1 hG PT_158 k158_437 _ _ _) ?_
    show G 158 438 [some (.inr (.inr x0)), some (.inl x1), some (.inl x2), some (.inl x3), some (.inl x4), some (.inl x5), some (.inl x6), some (.inl x7), o8, none, o10, o11, o12, o13, none, o15, o16, none] [.inr (.inr x0)] H = _
    refine Eq.trans (e1 hG PT_158 k158_438 _ _ _) ?_
    refine bdc fun r1 => ?_
    show G 158 441 [some (.inr (.inr x0)), some (.inl x1), some (.inl x2), some (.inl x3), some (.inl x4), some (.inl x5), some (.inl x6), some (.inl x7), o8, none, o10, o11, o12, o13, none, o15, o16, none] [.inr (.inr r1)] H = _
    refine Eq.trans (e1 hG PT_158 k158_441 _ _ _) ?_
    show G 158 443 [some (.inr (.inr x0)), some (.inl x1), some (.inl x2), some (.inl x3), some (.inl x4), some (.inl x5), some (.inl x6), some (.inl x7), o8, none, o10, o11, o12, o13, none, o15, o16, none] [.inl x7, .inr (.inr r1)] H = _
    refine Eq.trans (e1 hG PT_158 k158_443 _ _ _) ?_
    refine bdc fun j2 => ?_
    show G 158 444 [some (.inr (.inr x0)), some (.inl x1), some (.inl x2), some (.inl x3), some (.inl x4), some (.inl x5), some (.inl x6), some (.inl x7), o8, none, o10, o11, o12, o13, none, o15, o16, none] [.inr (.inl j2)] H = _
    refine Eq.trans (e1 hG PT_158 k158_444 _ _ _) ?_
    show G 158 447 [some (.inr (.inr x0)), some (.inl x1), some (.inl x2), some (.inl x3), some (.inl x4), some (.inl x5), some (.inl x6), some (.inl x7), o8, none, o10, o11, o12, o13, none, o15, o16, none] [.inr (.inl 60), .inr (.inl j2)] H = _
    refine Eq.trans (e1 hG PT_158 k158_447 _ _ _) ?_
    show ((if (60 : Int64) = 0 then none else some (j2 - j2 / 60 * 60))).bind (fun j3 => G 158 448 [some (.inr (.inr x0)), some (.inl x1), some (.inl x2), some (.inl x3), some (.inl x4), some (.inl x5), some (.inl x6), some (.inl x7), o8, none, o10, o11, o12, o13, none, o15, o16, none] [.inr (.inl j3)] H) = _
    refine bdc (q := (if (60 : Int64) = 0 then none else some (j2 - j2 / 60 * 60))) fun j3 => ?_
    show G 158 448 [some (.inr (.inr x0)), some (.inl x1), some (.inl x2), some (.inl x3), some (.inl x4), some (.inl x5), some (.inl x6), some (.inl x7), o8, none, o10, o11, o12, o13, none, o15, o16, none] [.inr (.inl j3)] H = _
    refine Eq.trans (e1 hG PT_158 k158_448 _ _ _) ?_
    show G 158 449 [some (.inr (.inr x0)), some (.inl x1), some (.inl x2), some (.inl x3), some (.inl x4), some (.inl x5), some (.inl x6), some (.inl x7), o8, none, o10, o11, o12, o13, none, o15, o16, none] [.inr (.inl 0), .inr (.inl j3)] H = _
    refine Eq.trans (e1 hG PT_158 k158_449 _ _ _) ?_
    show G 158 450 [some (.inr (.inr x0)), some (.inl x1), some (.inl x2), some (.inl x3), some (.inl x4), some (.inl x5), some (.inl x6), some (.inl x7), o8, none, o10, o11, o12, o13, none, o15, o16, none] [.inl (lg_cmp j3 0)] H = _
    refine Eq.trans (e1 hG PT_158 k158_450 _ _ _) ?_
    refine bfc ?_ ?_
    · show G 158 455 [some (.inr (.inr x0)), some (.inl x1), some (.inl x2), some (.inl x3), some (.inl x4), some (.inl x5), some (.inl x6), some (.inl x7), o8, none, o10, o11, o12, o13, none, o15, o16, none] [] H = _
      refine Eq.trans (e1 hG PT_158 k158_455 _ _ _) ?_
      show G 158 456 [some (.inr (.inr x0)), some (.inl x1), some (.inl x2), some (.inl x3), some (.inl x4), some (.inl x5), some (.inl x6), some (.inl x7), o8, none, o10, o11, o12, o13, none, o15, o16, none] [.inr (.inr x0)] H = _
      refine Eq.trans (e1 hG PT_158 k158_456 _ _ _) ?_
      refine bdc fun r4 => ?_
      show G 158 459 [some (.inr (.inr x0)), some (.inl x1), some (.inl x2), some (.inl x3), some (.inl x4), some (.inl x5), some (.inl x6), some (.inl x7), o8, none, o10, o11, o12, o13, none, o15, o16, none] [.inr (.inr r4)] H = _
      refine Eq.trans (e1 hG PT_158 k158_459 _ _ _) ?_
      show G 158 461 [some (.inr (.inr x0)), some (.inl x1), some (.inl x2), some (.inl x3), some (.inl x4), some (.inl x5), some (.inl x6), some (.inl x7), o8, none, o10, o11, o12, o13, none, o15, o16, none] [.inl x7, .inr (.inr r4)] H = _
      refine Eq.trans (e1 hG PT_158 k158_461 _ _ _) ?_
      show G 158 462 [some (.inr (.inr x0)), some (.inl x1), some (.inl x2), some (.inl x3), some (.inl x4), some (.inl x5), some (.inl x6), some (.inl x7), o8, none, o10, o11, o12, o13, none, o15, o16, none] [.inl x7, .inr (.inr r4), .inl x7, .inr (.inr r4)] H = _
      refine Eq.trans (e1 hG PT_158 k158_462 _ _ _) ?_
      refine bdc fun j5 => ?_
      show G 158 463 [some (.inr (.inr x0)), some (.inl x1), some (.inl x2), some (.inl x3), some (.inl x4), some (.inl x5), some (.inl x6), some (.inl x7), o8, none, o10, o11, o12, o13, none, o15, o16, none] [.inr (.inl j5), .inl x7, .inr (.inr r4)] H = _
      refine Eq.trans (e1 hG PT_158 k158_463 _ _ _) ?_
      show G 158 466 [some (.inr (.inr x0)), some (.inl x1), some (.inl x2), some (.inl x3), some (.inl x4), some (.inl x5), some (.inl x6), some (.inl x7), o8, none, o10, o11, o12, o13, none, o15, o16, none] [.inr (.inl 60), .inr (.inl j5), .inl x7, .inr (.inr r4)] H = _
      refine Eq.trans (e1 hG PT_158 k158_466 _ _ _) ?_
      show ((if (60 : Int64) = 0 then none else some (j5 / 60))).bind (fun j6 => G 158 467 [some (.inr (.inr x0)), some (.inl x1), some (.inl x2), some (.inl x3), some (.inl x4), some (.inl x5), some (.inl x6), some (.inl x7), o8, none, o10, o11, o12, o13, none, o15, o16, none] [.inr (.inl j6), .inl x7, .inr (.inr r4)] H) = _
      refine bdc (q := (if (60 : Int64) = 0 then none else some (j5 / 60))) fun j6 => ?_
      show G 158 467 [some (.inr (.inr x0)), some (.inl x1), some (.inl x2), some (.inl x3), some (.inl x4), some (.inl x5), some (.inl x6), some (.inl x7), o8, none, o10, o11, o12, o13, none, o15, o16, none] [.inr (.inl j6), .inl x7, .inr (.inr r4)] H = _
      refine Eq.trans (e1 hG PT_158 k158_467 _ _ _) ?_
      refine bdc fun H7 => ?_
      show G 158 468 [some (.inr (.inr x0)), some (.inl x1), some (.inl x2), some (.inl x3), some (.inl x4), some (.inl x5), some (.inl x6), some (.inl x7), o8, none, o10, o11, o12, o13, none, o15, o16, none] [] H7 = _
      refine Eq.trans (e1 hG PT_158 k158_468 _ _ _) ?_
      show G 158 471 [some (.inr (.inr x0)), some (.inl x1), some (.inl x2), some (.inl x3), some (.inl x4), some (.inl x5), some (.inl x6), some (.inl (x7 + 1)), o8, none, o10, o11, o12, o13, none, o15, o16, none] [] H7 = _
      refine Eq.trans (e1 hG PT_158 k158_471 _ _ _) ?_
      rfl
    · show G 158 453 [some (.inr (.inr x0)), some (.inl x1), some (.inl x2), some (.inl x3), some (.inl x4), some (.inl x5), some (.inl x6), some (.inl x7), o8, none, o10, o11, o12, o13, none, o15, o16, none] [] H = _
      refine Eq.trans (e1 hG PT_158 k158_453 _ _ _) ?_
      show G 158 454 [some (.inr (.inr x0)), some (.inl x1), some (.inl x2), some (.inl x3), some (.inl x4), some (.inl x5), some (.inl x6), some (.inl x7), o8, none, o10, o11, o12, o13, none, o15, o16, none] [.inl 0] H = _
      exact e1 hG PT_158 k158_454 _ _ _
set_option maxRecDepth 100000 in
theorem b158_474 {G : AG} (hG : FIX G) (x0 : Nat) (x1 : Int32) (x2 : Int32) (x3 : Int32) (x4 : Int32) (x5 : Int32) (x6 : Int32) (x7 : Int32) (o8 : Option AV) (o10 : Option AV) (o11 : Option AV) (o12 : Option AV) (o13 : Option AV) (o15 : Option AV) (o16 : Option AV) (H : Hp) : G 158 474 [some (.inr (.inr x0)), some (.inl x1), some (.inl x2), some (.inl x3), some (.inl x4), some (.inl x5), some (.inl x6), some (.inl x7), o8, none, o10, o11, o12, o13, none, o15, o16, none] [] H = (G 158 477 [some (.inr (.inr x0)), some (.inl x1), some (.inl x2), some (.inl x3), some (.inl x4), some (.inl x5), some (.inl x6), some (.inl 0), o8, none, o10, o11, o12, o13, none, o15, o16, none] [] H) := by
  refine Eq.trans (e1 hG PT_158 k158_474 _ _ _) ?_
  show G 158 475 [some (.inr (.inr x0)), some (.inl x1), some (.inl x2), some (.inl x3), some (.inl x4), some (.inl x5), some (.inl x6), some (.inl x7), o8, none, o10, o11, o12, o13, none, o15, o16, none] [.inl 0] H = _
  refine Eq.trans (e1 hG PT_158 k158_475 _ _ _) ?_
  rfl
set_option maxRecDepth 100000 in
theorem b158_477 {G : AG} (hG : FIX G) (x0 : Nat) (x1 : Int32) (x2 : Int32) (x3 : Int32) (x4 : Int32) (x5 : Int32) (x6 : Int32) (x7 : Int32) (o8 : Option AV) (o10 : Option AV) (o11 : Option AV) (o12 : Option AV) (o13 : Option AV) (o15 : Option AV) (o16 : Option AV) (H : Hp) : G 158 477 [some (.inr (.inr x0)), some (.inl x1), some (.inl x2), some (.inl x3), some (.inl x4), some (.inl x5), some (.inl x6), some (.inl x7), o8, none, o10, o11, o12, o13, none, o15, o16, none] [] H = (bif decide ((252 : Int32) ≤ (x7 : Int32)) then retZ 1 H else (hgR H x0 67).bind fun r1 => (hgR H x0 71).bind fun r2 => (hAJ H r2 x7).bind fun j3 => (hSJ H r1 (((252 * x1) + x7)) j3).bind fun H4 => G 158 477 [some (.inr (.inr x0)), some (.inl x1), some (.inl x2), some (.inl x3), some (.inl x4), some (.inl x5), some (.inl x6), some (.inl (x7 + 1)), o8, none, o10, o11, o12, o13, none, o15, o16, none] [] H4) := by
  refine Eq.trans (e1 hG PT_158 k158_477 _ _ _) ?_
  show G 158 479 [some (.inr (.inr x0)), some (.inl x1), some (.inl x2), some (.inl x3), some (.inl x4), some (.inl x5), some (.inl x6), some (.inl x7), o8, none, o10, o11, o12, o13, none, o15, o16, none] [.inl x7] H = _
  refine Eq.trans (e1 hG PT_158 k158_479 _ _ _) ?_
  show G 158 482 [some (.inr (.inr x0)), some (.inl x1), some (.inl x2), some (.inl x3), some (.inl x4), some (.inl x5), some (.inl x6), some (.inl x7), o8, none, o10, o11, o12, o13, none, o15, o16, none] [.inl 252, .inl x7] H = _
  refine Eq.trans (e1 hG PT_158 k158_482 _ _ _) ?_
  refine bfc ?_ ?_
  · show G 158 511 [some (.inr (.inr x0)), some (.inl x1), some (.inl x2), some (.inl x3), some (.inl x4), some (.inl x5), some (.inl x6), some (.inl x7), o8, none, o10, o11, o12, o13, none, o15, o16, none] [] H = _
    refine Eq.trans (e1 hG PT_158 k158_511 _ _ _) ?_
    show G 158 512 [some (.inr (.inr x0)), some (.inl x1), some (.inl x2), some (.inl x3), some (.inl x4), some (.inl x5), some (.inl x6), some (.inl x7), o8, none, o10, o11, o12, o13, none, o15, o16, none] [.inl 1] H = _
    exact e1 hG PT_158 k158_512 _ _ _
  · show G 158 485 [some (.inr (.inr x0)), some (.inl x1), some (.inl x2), some (.inl x3), some (.inl x4), some (.inl x5), some (.inl x6), some (.inl x7), o8, none, o10, o11, o12, o13, none, o15, o16, none] [] H = _
    refine Eq.trans (e1 hG PT_158 k158_485 _ _ _) ?_
    show G 158 486 [some (.inr (.inr x0)), some (.inl x1), some (.inl x2), some (.inl x3), some (.inl x4), some (.inl x5), some (.inl x6), some (.inl x7), o8, none, o10, o11, o12, o13, none, o15, o16, none] [.inr (.inr x0)] H = _
    refine Eq.trans (e1 hG PT_158 k158_486 _ _ _) ?_
    refine bdc fun r1 => ?_
    show G 158 489 [some (.inr (.inr x0)), some (.inl x1), some (.inl x2), some (.inl x3), some (.inl x4), some (.inl x5), some (.inl x6), some (.inl x7), o8, none, o10, o11, o12, o13, none, o15, o16, none] [.inr (.inr r1)] H = _
    refine Eq.trans (e1 hG PT_158 k158_489 _ _ _) ?_
    show G 158 492 [some (.inr (.inr x0)), some (.inl x1), some (.inl x2), some (.inl x3), some (.inl x4), some (.inl x5), some (.inl x6), some (.inl x7), o8, none, o10, o11, o12, o13, none, o15, o16, none] [.inl 252, .inr (.inr r1)] H = _
    refine Eq.trans (e1 hG PT_158 k158_492 _ _ _) ?_
    show G 158 493 [some (.inr (.inr x0)), some (.inl x1), some (.inl x2), some (.inl x3), some (.inl x4), some (.inl x5), some (.inl x6), some (.inl x7), o8, none, o10, o11, o12, o13, none, o15, o16, none] [.inl x1, .inl 252, .inr (.inr r1)] H = _
    refine Eq.trans (e1 hG PT_158 k158_493 _ _ _) ?_
    show G 158 494 [some (.inr (.inr x0)), some (.inl x1), some (.inl x2), some (.inl x3), some (.inl x4), some (.inl x5), some (.inl x6), some (.inl x7), o8, none, o10, o11, o12, o13, none, o15, o16, none] [.inl (252 * x1), .inr (.inr r1)] H = _
    refine Eq.trans (e1 hG PT_158 k158_494 _ _ _) ?_
    show G 158 496 [some (.inr (.inr x0)), some (.inl x1), some (.inl x2), some (.inl x3), some (.inl x4), some (.inl x5), some (.inl x6), some (.inl x7), o8, none, o10, o11, o12, o13, none, o15, o16, none] [.inl x7, .inl (252 * x1), .inr (.inr r1)] H = _
    refine Eq.trans (e1 hG PT_158 k158_496 _ _ _) ?_
    show G 158 497 [some (.inr (.inr x0)), some (.inl x1), some (.inl x2), some (.inl x3), some (.inl x4), some (.inl x5), some (.inl x6), some (.inl x7), o8, none, o10, o11, o12, o13, none, o15, o16, none] [.inl ((252 * x1) + x7), .inr (.inr r1)] H = _
    refine Eq.trans (e1 hG PT_158 k158_497 _ _ _) ?_
    show G 158 498 [some (.inr (.inr x0)), some (.inl x1), some (.inl x2), some (.inl x3), some (.inl x4), some (.inl x5), some (.inl x6), some (.inl x7), o8, none, o10, o11, o12, o13, none, o15, o16, none] [.inr (.inr x0), .inl ((252 * x1) + x7), .inr (.inr r1)] H = _
    refine Eq.trans (e1 hG PT_158 k158_498 _ _ _) ?_
    refine bdc fun r2 => ?_
    show G 158 501 [some (.inr (.inr x0)), some (.inl x1), some (.inl x2), some (.inl x3), some (.inl x4), some (.inl x5), some (.inl x6), some (.inl x7), o8, none, o10, o11, o12, o13, none, o15, o16, none] [.inr (.inr r2), .inl ((252 * x1) + x7), .inr (.inr r1)] H = _
    refine Eq.trans (e1 hG PT_158 k158_501 _ _ _) ?_
    show G 158 503 [some (.inr (.inr x0)), some (.inl x1), some (.inl x2), some (.inl x3), some (.inl x4), some (.inl x5), some (.inl x6), some (.inl x7), o8, none, o10, o11, o12, o13, none, o15, o16, none] [.inl x7, .inr (.inr r2), .inl ((252 * x1) + x7), .inr (.inr r1)] H = _
    refine Eq.trans (e1 hG PT_158 k158_503 _ _ _) ?_
    refine bdc fun j3 => ?_
    show G 158 504 [some (.inr (.inr x0)), some (.inl x1), some (.inl x2), some (.inl x3), some (.inl x4), some (.inl x5), some (.inl x6), some (.inl x7), o8, none, o10, o11, o12, o13, none, o15, o16, none] [.inr (.inl j3), .inl ((252 * x1) + x7), .inr (.inr r1)] H = _
    refine Eq.trans (e1 hG PT_158 k158_504 _ _ _) ?_
    refine bdc fun H4 => ?_
    show G 158 505 [some (.inr (.inr x0)), some (.inl x1), some (.inl x2), some (.inl x3), some (.inl x4), some (.inl x5), some (.inl x6), some (.inl x7), o8, none, o10, o11, o12, o13, none, o15, o16, none] [] H4 = _
    refine Eq.trans (e1 hG PT_158 k158_505 _ _ _) ?_
    show G 158 508 [some (.inr (.inr x0)), some (.inl x1), some (.inl x2), some (.inl x3), some (.inl x4), some (.inl x5), some (.inl x6), some (.inl (x7 + 1)), o8, none, o10, o11, o12, o13, none, o15, o16, none] [] H4 = _
    refine Eq.trans (e1 hG PT_158 k158_508 _ _ _) ?_
    rfl
