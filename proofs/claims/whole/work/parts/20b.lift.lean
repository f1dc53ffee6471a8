-- StepsAhead.either(I)I
theorem PT_35 : PT 35 = pt35 := rfl
theorem k35_0 : lkp pt35 0 = iP 1 (fAld 0) := rfl
theorem k35_1 : lkp pt35 1 = iP 2 (fIld 1) := rfl
theorem k35_2 : lkp pt35 2 = iCK 5 11 15 2 2 3 := rfl
theorem k35_5 : lkp pt35 5 = iP 6 (fAst 2) := rfl
theorem k35_6 : lkp pt35 6 = iP 7 (fAld 2) := rfl
theorem k35_7 : lkp pt35 7 = iB 10 13 bNN := rfl
theorem k35_10 : lkp pt35 10 = iP 12 (fK (.inl (-1000001))) := rfl
theorem k35_12 : lkp pt35 12 = iRet rI := rfl
theorem k35_13 : lkp pt35 13 = iP 14 (fAld 2) := rfl
theorem k35_14 : lkp pt35 14 = iCK 17 7 16 1 1 1 := rfl
theorem k35_17 : lkp pt35 17 = iB 20 23 (b1 (fun x => decide (x = 0))) := rfl
theorem k35_20 : lkp pt35 20 = iP 22 (fK (.inl (-1000003))) := rfl
theorem k35_22 : lkp pt35 22 = iRet rI := rfl
theorem k35_23 : lkp pt35 23 = iP 24 (fAld 0) := rfl
theorem k35_24 : lkp pt35 24 = iP 25 (fAld 2) := rfl
theorem k35_25 : lkp pt35 25 = iW 28 (wNew 2 8) := rfl
theorem k35_28 : lkp pt35 28 = iP 29 fDup := rfl
theorem k35_29 : lkp pt35 29 = iP 30 (fAld 2) := rfl
theorem k35_30 : lkp pt35 30 = iRI 33 (gtI 23) := rfl
theorem k35_33 : lkp pt35 33 = iP 34 (fAld 2) := rfl
theorem k35_34 : lkp pt35 34 = iCK 37 7 17 3 1 1 := rfl
theorem k35_37 : lkp pt35 37 = iCK 40 2 36 3 3 0 := rfl
theorem k35_40 : lkp pt35 40 = iCK 43 11 21 3 3 1 := rfl
theorem k35_43 : lkp pt35 43 = iRet rI := rfl
theorem b35_0 {G : AG} (hG : FIX G) (x0 : Nat) (x1 : Int32) (H : Hp) : G 35 0 [some (.inr (.inr x0)), some (.inl x1), none] [] H = (bif Nat.beq (H.1 x0).1 11 then (G 15 0 [some (.inr (.inr x0)), some (.inl x1)] [] H).bind fun u1 => (asR u1.1).bind fun r2 => bif !(Nat.beq r2 0) then bif Nat.beq (u1.2.1 r2).1 7 then (G 16 0 [some (.inr (.inr r2))] [] u1.2).bind fun u3 => (asI u3.1).bind fun i4 => bif decide ((i4 : Int32) = 0) then (hNw u3.2 2 8).bind fun H5 => (hgI H5 r2 23).bind fun i6 => bif Nat.beq (H5.1 r2).1 7 then (G 17 0 [some (.inr (.inr r2)), none, none] [] H5).bind fun u7 => (asI u7.1).bind fun i8 => bif Nat.beq (u7.2.1 u3.2.2.1.1).1 2 then (G 36 0 [some (.inr (.inr u3.2.2.1.1)), some (.inl i6), some (.inl i8)] [] u7.2).bind fun u9 => (asV u9.1).bind fun _ => bif Nat.beq (u9.2.1 x0).1 11 then (G 21 0 [some (.inr (.inr x0)), some (.inr (.inr r2)), some (.inr (.inr u3.2.2.1.1))] [] u9.2).bind fun u10 => (asI u10.1).bind fun i11 => some (some (.inl i11), u10.2) else none else none else none else some (some (.inl ((-1000003))), u3.2) else none else some (some (.inl ((-1000001))), u1.2) else none) := by
  refine Eq.trans (e1 hG PT_35 k35_0 _ _ _) ?_
  show G 35 1 [some (.inr (.inr x0)), some (.inl x1), none] [.inr (.inr x0)] H = _
  refine Eq.trans (e1 hG PT_35 k35_1 _ _ _) ?_
  show G 35 2 [some (.inr (.inr x0)), some (.inl x1), none] [.inl x1, .inr (.inr x0)] H = _
  refine Eq.trans (e1 hG PT_35 k35_2 _ _ _) ?_
  refine bfc ?_ ?_
  · refine bdc fun u1 => ?_
    refine bdc fun r2 => ?_
    show G 35 5 [some (.inr (.inr x0)), some (.inl x1), none] [.inr (.inr r2)] u1.2 = _
    refine Eq.trans (e1 hG PT_35 k35_5 _ _ _) ?_
    show G 35 6 [some (.inr (.inr x0)), some (.inl x1), some (.inr (.inr r2))] [] u1.2 = _
    refine Eq.trans (e1 hG PT_35 k35_6 _ _ _) ?_
    show G 35 7 [some (.inr (.inr x0)), some (.inl x1), some (.inr (.inr r2))] [.inr (.inr r2)] u1.2 = _
    refine Eq.trans (e1 hG PT_35 k35_7 _ _ _) ?_
    refine bfc ?_ ?_
    · show G 35 13 [some (.inr (.inr x0)), some (.inl x1), some (.inr (.inr r2))] [] u1.2 = _
      refine Eq.trans (e1 hG PT_35 k35_13 _ _ _) ?_
      show G 35 14 [some (.inr (.inr x0)), some (.inl x1), some (.inr (.inr r2))] [.inr (.inr r2)] u1.2 = _
      refine Eq.trans (e1 hG PT_35 k35_14 _ _ _) ?_
      refine bfc ?_ ?_
      · refine bdc fun u3 => ?_
        refine bdc fun i4 => ?_
        show G 35 17 [some (.inr (.inr x0)), some (.inl x1), some (.inr (.inr r2))] [.inl i4] u3.2 = _
        refine Eq.trans (e1 hG PT_35 k35_17 _ _ _) ?_
        refine bfc ?_ ?_
        · show G 35 23 [some (.inr (.inr x0)), some (.inl x1), some (.inr (.inr r2))] [] u3.2 = _
          refine Eq.trans (e1 hG PT_35 k35_23 _ _ _) ?_
          show G 35 24 [some (.inr (.inr x0)), some (.inl x1), some (.inr (.inr r2))] [.inr (.inr x0)] u3.2 = _
          refine Eq.trans (e1 hG PT_35 k35_24 _ _ _) ?_
          show G 35 25 [some (.inr (.inr x0)), some (.inl x1), some (.inr (.inr r2))] [.inr (.inr r2), .inr (.inr x0)] u3.2 = _
          refine Eq.trans (e1 hG PT_35 k35_25 _ _ _) ?_
          refine bdc fun H5 => ?_
          show G 35 28 [some (.inr (.inr x0)), some (.inl x1), some (.inr (.inr r2))] [.inr (.inr u3.2.2.1.1), .inr (.inr r2), .inr (.inr x0)] H5 = _
          refine Eq.trans (e1 hG PT_35 k35_28 _ _ _) ?_
          show G 35 29 [some (.inr (.inr x0)), some (.inl x1), some (.inr (.inr r2))] [.inr (.inr u3.2.2.1.1), .inr (.inr u3.2.2.1.1), .inr (.inr r2), .inr (.inr x0)] H5 = _
          refine Eq.trans (e1 hG PT_35 k35_29 _ _ _) ?_
          show G 35 30 [some (.inr (.inr x0)), some (.inl x1), some (.inr (.inr r2))] [.inr (.inr r2), .inr (.inr u3.2.2.1.1), .inr (.inr u3.2.2.1.1), .inr (.inr r2), .inr (.inr x0)] H5 = _
          refine Eq.trans (e1 hG PT_35 k35_30 _ _ _) ?_
          refine bdc fun i6 => ?_
          show G 35 33 [some (.inr (.inr x0)), some (.inl x1), some (.inr (.inr r2))] [.inl i6, .inr (.inr u3.2.2.1.1), .inr (.inr u3.2.2.1.1), .inr (.inr r2), .inr (.inr x0)] H5 = _
          refine Eq.trans (e1 hG PT_35 k35_33 _ _ _) ?_
          show G 35 34 [some (.inr (.inr x0)), some (.inl x1), some (.inr (.inr r2))] [.inr (.inr r2), .inl i6, .inr (.inr u3.2.2.1.1), .inr (.inr u3.2.2.1.1), .inr (.inr r2), .inr (.inr x0)] H5 = _
          refine Eq.trans (e1 hG PT_35 k35_34 _ _ _) ?_
          refine bfc ?_ ?_
          · refine bdc fun u7 => ?_
            refine bdc fun i8 => ?_
            show G 35 37 [some (.inr (.inr x0)), some (.inl x1), some (.inr (.inr r2))] [.inl i8, .inl i6, .inr (.inr u3.2.2.1.1), .inr (.inr u3.2.2.1.1), .inr (.inr r2), .inr (.inr x0)] u7.2 = _
            refine Eq.trans (e1 hG PT_35 k35_37 _ _ _) ?_
            refine bfc ?_ ?_
            · refine bdc fun u9 => ?_
              refine bdc fun _ => ?_
              show G 35 40 [some (.inr (.inr x0)), some (.inl x1), some (.inr (.inr r2))] [.inr (.inr u3.2.2.1.1), .inr (.inr r2), .inr (.inr x0)] u9.2 = _
              refine Eq.trans (e1 hG PT_35 k35_40 _ _ _) ?_
              refine bfc ?_ ?_
              · refine bdc fun u10 => ?_
                refine bdc fun i11 => ?_
                show G 35 43 [some (.inr (.inr x0)), some (.inl x1), some (.inr (.inr r2))] [.inl i11] u10.2 = _
                exact e1 hG PT_35 k35_43 _ _ _
              · rfl
            · rfl
          · rfl
        · show G 35 20 [some (.inr (.inr x0)), some (.inl x1), some (.inr (.inr r2))] [] u3.2 = _
          refine Eq.trans (e1 hG PT_35 k35_20 _ _ _) ?_
          show G 35 22 [some (.inr (.inr x0)), some (.inl x1), some (.inr (.inr r2))] [.inl (-1000003)] u3.2 = _
          exact e1 hG PT_35 k35_22 _ _ _
      · rfl
    · show G 35 10 [some (.inr (.inr x0)), some (.inl x1), some (.inr (.inr r2))] [] u1.2 = _
      refine Eq.trans (e1 hG PT_35 k35_10 _ _ _) ?_
      show G 35 12 [some (.inr (.inr x0)), some (.inl x1), some (.inr (.inr r2))] [.inl (-1000001)] u1.2 = _
      exact e1 hG PT_35 k35_12 _ _ _
  · rfl
-- StepsAhead$Either.<init>(II)V
theorem PT_36 : PT 36 = pt36 := rfl
theorem k36_0 : lkp pt36 0 = iP 1 (fAld 0) := rfl
theorem k36_1 : lkp pt36 1 = iP 2 (fK (.inl 5)) := rfl
theorem k36_2 : lkp pt36 2 = iP 3 (fIld 1) := rfl
theorem k36_3 : lkp pt36 3 = iP 4 (fIld 2) := rfl
theorem k36_4 : lkp pt36 4 = iP 5 (fK (.inl (-1))) := rfl
theorem k36_5 : lkp pt36 5 = iCK 8 2 20 5 5 0 := rfl
theorem k36_8 : lkp pt36 8 = iP 9 (fAld 0) := rfl
theorem k36_9 : lkp pt36 9 = iP 10 (fK (.inl (-1))) := rfl
theorem k36_10 : lkp pt36 10 = iW 13 (ptI 7) := rfl
theorem k36_13 : lkp pt36 13 = iP 14 (fAld 0) := rfl
theorem k36_14 : lkp pt36 14 = iP 15 (fK (.inl (-1))) := rfl
theorem k36_15 : lkp pt36 15 = iW 18 (ptI 8) := rfl
theorem k36_18 : lkp pt36 18 = iP 19 (fAld 0) := rfl
theorem k36_19 : lkp pt36 19 = iP 20 (fK (.inl 0)) := rfl
theorem k36_20 : lkp pt36 20 = iW 23 (ptI 9) := rfl
theorem k36_23 : lkp pt36 23 = iP 24 (fAld 0) := rfl
theorem k36_24 : lkp pt36 24 = iP 25 (fK (.inl 0)) := rfl
theorem k36_25 : lkp pt36 25 = iW 28 (ptI 10) := rfl
theorem k36_28 : lkp pt36 28 = iRet rV := rfl
theorem b36_0 {G : AG} (hG : FIX G) (x0 : Nat) (x1 : Int32) (x2 : Int32) (H : Hp) : G 36 0 [some (.inr (.inr x0)), some (.inl x1), some (.inl x2)] [] H = (bif Nat.beq (H.1 x0).1 2 then (G 20 0 [some (.inr (.inr x0)), some (.inl 5), some (.inl x1), some (.inl x2), some (.inl ((-1)))] [] H).bind fun u1 => (asV u1.1).bind fun _ => (hpI u1.2 x0 7 ((-1))).bind fun H2 => (hpI H2 x0 8 ((-1))).bind fun H3 => (hpI H3 x0 9 0).bind fun H4 => (hpI H4 x0 10 0).bind fun H5 => some (none, H5) else none) := by
  refine Eq.trans (e1 hG PT_36 k36_0 _ _ _) ?_
  show G 36 1 [some (.inr (.inr x0)), some (.inl x1), some (.inl x2)] [.inr (.inr x0)] H = _
  refine Eq.trans (e1 hG PT_36 k36_1 _ _ _) ?_
  show G 36 2 [some (.inr (.inr x0)), some (.inl x1), some (.inl x2)] [.inl 5, .inr (.inr x0)] H = _
  refine Eq.trans (e1 hG PT_36 k36_2 _ _ _) ?_
  show G 36 3 [some (.inr (.inr x0)), some (.inl x1), some (.inl x2)] [.inl x1, .inl 5, .inr (.inr x0)] H = _
  refine Eq.trans (e1 hG PT_36 k36_3 _ _ _) ?_
  show G 36 4 [some (.inr (.inr x0)), some (.inl x1), some (.inl x2)] [.inl x2, .inl x1, .inl 5, .inr (.inr x0)] H = _
  refine Eq.trans (e1 hG PT_36 k36_4 _ _ _) ?_
  show G 36 5 [some (.inr (.inr x0)), some (.inl x1), some (.inl x2)] [.inl (-1), .inl x2, .inl x1, .inl 5, .inr (.inr x0)] H = _
  refine Eq.trans (e1 hG PT_36 k36_5 _ _ _) ?_
  refine bfc ?_ ?_
  · refine bdc fun u1 => ?_
    refine bdc fun _ => ?_
    show G 36 8 [some (.inr (.inr x0)), some (.inl x1), some (.inl x2)] [] u1.2 = _
    refine Eq.trans (e1 hG PT_36 k36_8 _ _ _) ?_
    show G 36 9 [some (.inr (.inr x0)), some (.inl x1), some (.inl x2)] [.inr (.inr x0)] u1.2 = _
    refine Eq.trans (e1 hG PT_36 k36_9 _ _ _) ?_
    show G 36 10 [some (.inr (.inr x0)), some (.inl x1), some (.inl x2)] [.inl (-1), .inr (.inr x0)] u1.2 = _
    refine Eq.trans (e1 hG PT_36 k36_10 _ _ _) ?_
    refine bdc fun H2 => ?_
    show G 36 13 [some (.inr (.inr x0)), some (.inl x1), some (.inl x2)] [] H2 = _
    refine Eq.trans (e1 hG PT_36 k36_13 _ _ _) ?_
    show G 36 14 [some (.inr (.inr x0)), some (.inl x1), some (.inl x2)] [.inr (.inr x0)] H2 = _
    refine Eq.trans (e1 hG PT_36 k36_14 _ _ _) ?_
    show G 36 15 [some (.inr (.inr x0)), some (.inl x1), some (.inl x2)] [.inl (-1), .inr (.inr x0)] H2 = _
    refine Eq.trans (e1 hG PT_36 k36_15 _ _ _) ?_
    refine bdc fun H3 => ?_
    show G 36 18 [some (.inr (.inr x0)), some (.inl x1), some (.inl x2)] [] H3 = _
    refine Eq.trans (e1 hG PT_36 k36_18 _ _ _) ?_
    show G 36 19 [some (.inr (.inr x0)), some (.inl x1), some (.inl x2)] [.inr (.inr x0)] H3 = _
    refine Eq.trans (e1 hG PT_36 k36_19 _ _ _) ?_
    show G 36 20 [some (.inr (.inr x0)), some (.inl x1), some (.inl x2)] [.inl 0, .inr (.inr x0)] H3 = _
    refine Eq.trans (e1 hG PT_36 k36_20 _ _ _) ?_
    refine bdc fun H4 => ?_
    show G 36 23 [some (.inr (.inr x0)), some (.inl x1), some (.inl x2)] [] H4 = _
    refine Eq.trans (e1 hG PT_36 k36_23 _ _ _) ?_
    show G 36 24 [some (.inr (.inr x0)), some (.inl x1), some (.inl x2)] [.inr (.inr x0)] H4 = _
    refine Eq.trans (e1 hG PT_36 k36_24 _ _ _) ?_
    show G 36 25 [some (.inr (.inr x0)), some (.inl x1), some (.inl x2)] [.inl 0, .inr (.inr x0)] H4 = _
    refine Eq.trans (e1 hG PT_36 k36_25 _ _ _) ?_
    refine bdc fun H5 => ?_
    show G 36 28 [some (.inr (.inr x0)), some (.inl x1), some (.inl x2)] [] H5 = _
    exact e1 hG PT_36 k36_28 _ _ _
  · rfl
-- StepsAhead.close(II)I
theorem PT_37 : PT 37 = pt37 := rfl
theorem k37_0 : lkp pt37 0 = iP 1 (fAld 0) := rfl
theorem k37_1 : lkp pt37 1 = iP 2 (fIld 1) := rfl
theorem k37_2 : lkp pt37 2 = iCK 5 11 15 2 2 3 := rfl
theorem k37_5 : lkp pt37 5 = iP 6 (fAst 3) := rfl
theorem k37_6 : lkp pt37 6 = iP 7 (fAld 3) := rfl
theorem k37_7 : lkp pt37 7 = iB 10 22 bN := rfl
theorem k37_10 : lkp pt37 10 = iP 11 (fIld 2) := rfl
theorem k37_11 : lkp pt37 11 = iP 13 (fK (.inl 6)) := rfl
theorem k37_13 : lkp pt37 13 = iB 16 22 (b2 (fun x y => decide (x < y))) := rfl
theorem k37_16 : lkp pt37 16 = iP 17 (fIld 2) := rfl
theorem k37_17 : lkp pt37 17 = iP 19 (fK (.inl 8)) := rfl
theorem k37_19 : lkp pt37 19 = iB 22 25 (b2 (fun x y => decide (x ≤ y))) := rfl
theorem k37_22 : lkp pt37 22 = iP 24 (fK (.inl (-1000001))) := rfl
theorem k37_24 : lkp pt37 24 = iRet rI := rfl
theorem k37_25 : lkp pt37 25 = iP 26 (fAld 3) := rfl
theorem k37_26 : lkp pt37 26 = iCK 29 7 38 2 1 3 := rfl
theorem k37_29 : lkp pt37 29 = iP 31 (fAst 4) := rfl
theorem k37_31 : lkp pt37 31 = iP 33 (fAld 4) := rfl
theorem k37_33 : lkp pt37 33 = iB 36 45 bN := rfl
theorem k37_36 : lkp pt37 36 = iP 38 (fAld 4) := rfl
theorem k37_38 : lkp pt37 38 = iP 39 (fIld 2) := rfl
theorem k37_39 : lkp pt37 39 = iCV 42 2 1 [(1, 41, 2), (2, 39, 2), (3, 40, 2), (4, 41, 2), (10, 41, 2)] := rfl
theorem k37_42 : lkp pt37 42 = iB 45 48 (b1 (fun x => decide (x ≠ 0))) := rfl
theorem k37_45 : lkp pt37 45 = iP 47 (fK (.inl (-1000002))) := rfl
theorem k37_47 : lkp pt37 47 = iRet rI := rfl
theorem k37_48 : lkp pt37 48 = iP 49 (fAld 3) := rfl
theorem k37_49 : lkp pt37 49 = iCK 52 7 16 1 1 1 := rfl
theorem k37_52 : lkp pt37 52 = iB 55 58 (b1 (fun x => decide (x = 0))) := rfl
theorem k37_55 : lkp pt37 55 = iP 57 (fK (.inl (-1000003))) := rfl
theorem k37_57 : lkp pt37 57 = iRet rI := rfl
theorem k37_58 : lkp pt37 58 = iP 59 (fAld 0) := rfl
theorem k37_59 : lkp pt37 59 = iP 60 (fAld 3) := rfl
theorem k37_60 : lkp pt37 60 = iW 63 (wNew 4 4) := rfl
theorem k37_63 : lkp pt37 63 = iP 64 fDup := rfl
theorem k37_64 : lkp pt37 64 = iP 65 (fIld 2) := rfl
theorem k37_65 : lkp pt37 65 = iP 66 (fAld 3) := rfl
theorem k37_66 : lkp pt37 66 = iRI 69 (gtI 23) := rfl
theorem k37_69 : lkp pt37 69 = iP 70 (fAld 3) := rfl
theorem k37_70 : lkp pt37 70 = iCK 73 7 17 3 1 1 := rfl
theorem k37_73 : lkp pt37 73 = iP 75 (fAld 4) := rfl
theorem k37_75 : lkp pt37 75 = iRI 78 (gtI 2) := rfl
theorem k37_78 : lkp pt37 78 = iCK 81 4 20 5 5 0 := rfl
theorem k37_81 : lkp pt37 81 = iCK 84 11 21 3 3 1 := rfl
theorem k37_84 : lkp pt37 84 = iRet rI := rfl
theorem b37_0 {G : AG} (hG : FIX G) (x0 : Nat) (x1 : Int32) (x2 : Int32) (H : Hp) : G 37 0 [some (.inr (.inr x0)), some (.inl x1), some (.inl x2), none, none] [] H = (bif Nat.beq (H.1 x0).1 11 then (G 15 0 [some (.inr (.inr x0)), some (.inl x1)] [] H).bind fun u1 => (asR u1.1).bind fun r2 => bif Nat.beq r2 0 then G 37 22 [some (.inr (.inr x0)), some (.inl x1), some (.inl x2), some (.inr (.inr r2)), none] [] u1.2 else bif decide ((x2 : Int32) < (6 : Int32)) then G 37 22 [some (.inr (.inr x0)), some (.inl x1), some (.inl x2), some (.inr (.inr r2)), none] [] u1.2 else bif decide ((x2 : Int32) ≤ (8 : Int32)) then bif Nat.beq (u1.2.1 r2).1 7 then (G 38 0 [some (.inr (.inr r2)), none] [] u1.2).bind fun u3 => (asR u3.1).bind fun r4 => bif Nat.beq r4 0 then G 37 45 [some (.inr (.inr x0)), some (.inl x1), some (.inl x2), some (.inr (.inr r2)), some (.inr (.inr r4))] [] u3.2 else (slk [(1, 41, 2), (2, 39, 2), (3, 40, 2), (4, 41, 2), (10, 41, 2)] (u3.2.1 r4).1).bind fun w6 => (G w6.1 0 (padA w6.2 [some (.inr (.inr r4)), some (.inl x2)]) [] u3.2).bind fun u5 => (asI u5.1).bind fun i7 => bif decide ((i7 : Int32) ≠ 0) then bif Nat.beq (u5.2.1 r2).1 7 then (G 16 0 [some (.inr (.inr r2))] [] u5.2).bind fun u8 => (asI u8.1).bind fun i9 => bif decide ((i9 : Int32) = 0) then (hNw u8.2 4 4).bind fun H10 => (hgI H10 r2 23).bind fun i11 => bif Nat.beq (H10.1 r2).1 7 then (G 17 0 [some (.inr (.inr r2)), none, none] [] H10).bind fun u12 => (asI u12.1).bind fun i13 => (hgI u12.2 r4 2).bind fun i14 => bif Nat.beq (u12.2.1 u8.2.2.1.1).1 4 then (G 20 0 [some (.inr (.inr u8.2.2.1.1)), some (.inl x2), some (.inl i11), some (.inl i13), some (.inl i14)] [] u12.2).bind fun u15 => (asV u15.1).bind fun _ => bif Nat.beq (u15.2.1 x0).1 11 then (G 21 0 [some (.inr (.inr x0)), some (.inr (.inr r2)), some (.inr (.inr u8.2.2.1.1))] [] u15.2).bind fun u16 => (asI u16.1).bind fun i17 => some (some (.inl i17), u16.2) else none else none else none else some (some (.inl ((-1000003))), u8.2) else none else G 37 45 [some (.inr (.inr x0)), some (.inl x1), some (.inl x2), some (.inr (.inr r2)), some (.inr (.inr r4))] [] u5.2 else none else G 37 22 [some (.inr (.inr x0)), some (.inl x1), some (.inl x2), some (.inr (.inr r2)), none] [] u1.2 else none) := by
  refine Eq.trans (e1 hG PT_37 k37_0 _ _ _) ?_
  show G 37 1 [some (.inr (.inr x0)), some (.inl x1), some (.inl x2), none, none] [.inr (.inr x0)] H = _
  refine Eq.trans (e1 hG PT_37 k37_1 _ _ _) ?_
  show G 37 2 [some (.inr (.inr x0)), some (.inl x1), some (.inl x2), none, none] [.inl x1, .inr (.inr x0)] H = _
  refine Eq.trans (e1 hG PT_37 k37_2 _ _ _) ?_
  refine bfc ?_ ?_
  · refine bdc fun u1 => ?_
    refine bdc fun r2 => ?_
    show G 37 5 [some (.inr (.inr x0)), some (.inl x1), some (.inl x2), none, none] [.inr (.inr r2)] u1.2 = _
    refine Eq.trans (e1 hG PT_37 k37_5 _ _ _) ?_
    show G 37 6 [some (.inr (.inr x0)), some (.inl x1), some (.inl x2), some (.inr (.inr r2)), none] [] u1.2 = _
    refine Eq.trans (e1 hG PT_37 k37_6 _ _ _) ?_
    show G 37 7 [some (.inr (.inr x0)), some (.inl x1), some (.inl x2), some (.inr (.inr r2)), none] [.inr (.inr r2)] u1.2 = _
    refine Eq.trans (e1 hG PT_37 k37_7 _ _ _) ?_
    refine bfc ?_ ?_
    · rfl
    · show G 37 10 [some (.inr (.inr x0)), some (.inl x1), some (.inl x2), some (.inr (.inr r2)), none] [] u1.2 = _
      refine Eq.trans (e1 hG PT_37 k37_10 _ _ _) ?_
      show G 37 11 [some (.inr (.inr x0)), some (.inl x1), some (.inl x2), some (.inr (.inr r2)), none] [.inl x2] u1.2 = _
      refine Eq.trans (e1 hG PT_37 k37_11 _ _ _) ?_
      show G 37 13 [some (.inr (.inr x0)), some (.inl x1), some (.inl x2), some (.inr (.inr r2)), none] [.inl 6, .inl x2] u1.2 = _
      refine Eq.trans (e1 hG PT_37 k37_13 _ _ _) ?_
      refine bfc ?_ ?_
      · rfl
      · show G 37 16 [some (.inr (.inr x0)), some (.inl x1), some (.inl x2), some (.inr (.inr r2)), none] [] u1.2 = _
        refine Eq.trans (e1 hG PT_37 k37_16 _ _ _) ?_
        show G 37 17 [some (.inr (.inr x0)), some (.inl x1), some (.inl x2), some (.inr (.inr r2)), none] [.inl x2] u1.2 = _
        refine Eq.trans (e1 hG PT_37 k37_17 _ _ _) ?_
        show G 37 19 [some (.inr (.inr x0)), some (.inl x1), some (.inl x2), some (.inr (.inr r2)), none] [.inl 8, .inl x2] u1.2 = _
        refine Eq.trans (e1 hG PT_37 k37_19 _ _ _) ?_
        refine bfc ?_ ?_
        · show G 37 25 [some (.inr (.inr x0)), some (.inl x1), some (.inl x2), some (.inr (.inr r2)), none] [] u1.2 = _
          refine Eq.trans (e1 hG PT_37 k37_25 _ _ _) ?_
          show G 37 26 [some (.inr (.inr x0)), some (.inl x1), some (.inl x2), some (.inr (.inr r2)), none] [.inr (.inr r2)] u1.2 = _
          refine Eq.trans (e1 hG PT_37 k37_26 _ _ _) ?_
          refine bfc ?_ ?_
          · refine bdc fun u3 => ?_
            refine bdc fun r4 => ?_
            show G 37 29 [some (.inr (.inr x0)), some (.inl x1), some (.inl x2), some (.inr (.inr r2)), none] [.inr (.inr r4)] u3.2 = _
            refine Eq.trans (e1 hG PT_37 k37_29 _ _ _) ?_
            show G 37 31 [some (.inr (.inr x0)), some (.inl x1), some (.inl x2), some (.inr (.inr r2)), some (.inr (.inr r4))] [] u3.2 = _
            refine Eq.trans (e1 hG PT_37 k37_31 _ _ _) ?_
            show G 37 33 [some (.inr (.inr x0)), some (.inl x1), some (.inl x2), some (.inr (.inr r2)), some (.inr (.inr r4))] [.inr (.inr r4)] u3.2 = _
            refine Eq.trans (e1 hG PT_37 k37_33 _ _ _) ?_
            refine bfc ?_ ?_
            · rfl
            · show G 37 36 [some (.inr (.inr x0)), some (.inl x1), some (.inl x2), some (.inr (.inr r2)), some (.inr (.inr r4))] [] u3.2 = _
              refine Eq.trans (e1 hG PT_37 k37_36 _ _ _) ?_
              show G 37 38 [some (.inr (.inr x0)), some (.inl x1), some (.inl x2), some (.inr (.inr r2)), some (.inr (.inr r4))] [.inr (.inr r4)] u3.2 = _
              refine Eq.trans (e1 hG PT_37 k37_38 _ _ _) ?_
              show G 37 39 [some (.inr (.inr x0)), some (.inl x1), some (.inl x2), some (.inr (.inr r2)), some (.inr (.inr r4))] [.inl x2, .inr (.inr r4)] u3.2 = _
              refine Eq.trans (e1 hG PT_37 k37_39 _ _ _) ?_
              refine bdc fun w6 => ?_
              refine bdc fun u5 => ?_
              refine bdc fun i7 => ?_
              show G 37 42 [some (.inr (.inr x0)), some (.inl x1), some (.inl x2), some (.inr (.inr r2)), some (.inr (.inr r4))] [.inl i7] u5.2 = _
              refine Eq.trans (e1 hG PT_37 k37_42 _ _ _) ?_
              refine bfc ?_ ?_
              · show G 37 48 [some (.inr (.inr x0)), some (.inl x1), some (.inl x2), some (.inr (.inr r2)), some (.inr (.inr r4))] [] u5.2 = _
                refine Eq.trans (e1 hG PT_37 k37_48 _ _ _) ?_
                show G 37 49 [some (.inr (.inr x0)), some (.inl x1), some (.inl x2), some (.inr (.inr r2)), some (.inr (.inr r4))] [.inr (.inr r2)] u5.2 = _
                refine Eq.trans (e1 hG PT_37 k37_49 _ _ _) ?_
                refine bfc ?_ ?_
                · refine bdc fun u8 => ?_
                  refine bdc fun i9 => ?_
                  show G 37 52 [some (.inr (.inr x0)), some (.inl x1), some (.inl x2), some (.inr (.inr r2)), some (.inr (.inr r4))] [.inl i9] u8.2 = _
                  refine Eq.trans (e1 hG PT_37 k37_52 _ _ _) ?_
                  refine bfc ?_ ?_
                  · show G 37 58 [some (.inr (.inr x0)), some (.inl x1), some (.inl x2), some (.inr (.inr r2)), some (.inr (.inr r4))] [] u8.2 = _
                    refine Eq.trans (e1 hG PT_37 k37_58 _ _ _) ?_
                    show G 37 59 [some (.inr (.inr x0)), some (.inl x1), some (.inl x2), some (.inr (.inr r2)), some (.inr (.inr r4))] [.inr (.inr x0)] u8.2 = _
                    refine Eq.trans (e1 hG PT_37 k37_59 _ _ _) ?_
                    show G 37 60 [some (.inr (.inr x0)), some (.inl x1), some (.inl x2), some (.inr (.inr r2)), some (.inr (.inr r4))] [.inr (.inr r2), .inr (.inr x0)] u8.2 = _
                    refine Eq.trans (e1 hG PT_37 k37_60 _ _ _) ?_
                    refine bdc fun H10 => ?_
                    show G 37 63 [some (.inr (.inr x0)), some (.inl x1), some (.inl x2), some (.inr (.inr r2)), some (.inr (.inr r4))] [.inr (.inr u8.2.2.1.1), .inr (.inr r2), .inr (.inr x0)] H10 = _
                    refine Eq.trans (e1 hG PT_37 k37_63 _ _ _) ?_
                    show G 37 64 [some (.inr (.inr x0)), some (.inl x1), some (.inl x2), some (.inr (.inr r2)), some (.inr (.inr r4))] [.inr (.inr u8.2.2.1.1), .inr (.inr u8.2.2.1.1), .inr (.inr r2), .inr (.inr x0)] H10 = _
                    refine Eq.trans (e1 hG PT_37 k37_64 _ _ _) ?_
                    show G 37 65 [some (.inr (.inr x0)), some (.inl x1), some (.inl x2), some (.inr (.inr r2)), some (.inr (.inr r4))] [.inl x2, .inr (.inr u8.2.2.1.1), .inr (.inr u8.2.2.1.1), .inr (.inr r2), .inr (.inr x0)] H10 = _
                    refine Eq.trans (e1 hG PT_37 k37_65 _ _ _) ?_
                    show G 37 66 [some (.inr (.inr x0)), some (.inl x1), some (.inl x2), some (.inr (.inr r2)), some (.inr (.inr r4))] [.inr (.inr r2), .inl x2, .inr (.inr u8.2.2.1.1), .inr (.inr u8.2.2.1.1), .inr (.inr r2), .inr (.inr x0)] H10 = _
                    refine Eq.trans (e1 hG PT_37 k37_66 _ _ _) ?_
                    refine bdc fun i11 => ?_
                    show G 37 69 [some (.inr (.inr x0)), some (.inl x1), some (.inl x2), some (.inr (.inr r2)), some (.inr (.inr r4))] [.inl i11, .inl x2, .inr (.inr u8.2.2.1.1), .inr (.inr u8.2.2.1.1), .inr (.inr r2), .inr (.inr x0)] H10 = _
                    refine Eq.trans (e1 hG PT_37 k37_69 _ _ _) ?_
                    show G 37 70 [some (.inr (.inr x0)), some (.inl x1), some (.inl x2), some (.inr (.inr r2)), some (.inr (.inr r4))] [.inr (.inr r2), .inl i11, .inl x2, .inr (.inr u8.2.2.1.1), .inr (.inr u8.2.2.1.1), .inr (.inr r2), .inr (.inr x0)] H10 = _
                    refine Eq.trans (e1 hG PT_37 k37_70 _ _ _) ?_
                    refine bfc ?_ ?_
                    · refine bdc fun u12 => ?_
                      refine bdc fun i13 => ?_
                      show G 37 73 [some (.inr (.inr x0)), some (.inl x1), some (.inl x2), some (.inr (.inr r2)), some (.inr (.inr r4))] [.inl i13, .inl i11, .inl x2, .inr (.inr u8.2.2.1.1), .inr (.inr u8.2.2.1.1), .inr (.inr r2), .inr (.inr x0)] u12.2 = _
                      refine Eq.trans (e1 hG PT_37 k37_73 _ _ _) ?_
                      show G 37 75 [some (.inr (.inr x0)), some (.inl x1), some (.inl x2), some (.inr (.inr r2)), some (.inr (.inr r4))] [.inr (.inr r4), .inl i13, .inl i11, .inl x2, .inr (.inr u8.2.2.1.1), .inr (.inr u8.2.2.1.1), .inr (.inr r2), .inr (.inr x0)] u12.2 = _
                      refine Eq.trans (e1 hG PT_37 k37_75 _ _ _) ?_
                      refine bdc fun i14 => ?_
                      show G 37 78 [some (.inr (.inr x0)), some (.inl x1), some (.inl x2), some (.inr (.inr r2)), some (.inr (.inr r4))] [.inl i14, .inl i13, .inl i11, .inl x2, .inr (.inr u8.2.2.1.1), .inr (.inr u8.2.2.1.1), .inr (.inr r2), .inr (.inr x0)] u12.2 = _
                      refine Eq.trans (e1 hG PT_37 k37_78 _ _ _) ?_
                      refine bfc ?_ ?_
                      · refine bdc fun u15 => ?_
                        refine bdc fun _ => ?_
                        show G 37 81 [some (.inr (.inr x0)), some (.inl x1), some (.inl x2), some (.inr (.inr r2)), some (.inr (.inr r4))] [.inr (.inr u8.2.2.1.1), .inr (.inr r2), .inr (.inr x0)] u15.2 = _
                        refine Eq.trans (e1 hG PT_37 k37_81 _ _ _) ?_
                        refine bfc ?_ ?_
                        · refine bdc fun u16 => ?_
                          refine bdc fun i17 => ?_
                          show G 37 84 [some (.inr (.inr x0)), some (.inl x1), some (.inl x2), some (.inr (.inr r2)), some (.inr (.inr r4))] [.inl i17] u16.2 = _
                          exact e1 hG PT_37 k37_84 _ _ _
                        · rfl
                      · rfl
                    · rfl
                  · show G 37 55 [some (.inr (.inr x0)), some (.inl x1), some (.inl x2), some (.inr (.inr r2)), some (.inr (.inr r4))] [] u8.2 = _
                    refine Eq.trans (e1 hG PT_37 k37_55 _ _ _) ?_
                    show G 37 57 [some (.inr (.inr x0)), some (.inl x1), some (.inl x2), some (.inr (.inr r2)), some (.inr (.inr r4))] [.inl (-1000003)] u8.2 = _
                    exact e1 hG PT_37 k37_57 _ _ _
                · rfl
              · rfl
          · rfl
        · rfl
  · rfl
theorem b37_22 {G : AG} (hG : FIX G) (x0 : Nat) (x1 : Int32) (x2 : Int32) (x3 : Nat) (H : Hp) : G 37 22 [some (.inr (.inr x0)), some (.inl x1), some (.inl x2), some (.inr (.inr x3)), none] [] H = (some (some (.inl ((-1000001))), H)) := by
  refine Eq.trans (e1 hG PT_37 k37_22 _ _ _) ?_
  show G 37 24 [some (.inr (.inr x0)), some (.inl x1), some (.inl x2), some (.inr (.inr x3)), none] [.inl (-1000001)] H = _
  exact e1 hG PT_37 k37_24 _ _ _
theorem b37_45 {G : AG} (hG : FIX G) (x0 : Nat) (x1 : Int32) (x2 : Int32) (x3 : Nat) (x4 : Nat) (H : Hp) : G 37 45 [some (.inr (.inr x0)), some (.inl x1), some (.inl x2), some (.inr (.inr x3)), some (.inr (.inr x4))] [] H = (some (some (.inl ((-1000002))), H)) := by
  refine Eq.trans (e1 hG PT_37 k37_45 _ _ _) ?_
  show G 37 47 [some (.inr (.inr x0)), some (.inl x1), some (.inl x2), some (.inr (.inr x3)), some (.inr (.inr x4))] [.inl (-1000002)] H = _
  exact e1 hG PT_37 k37_47 _ _ _
-- StepsAhead$Routine.innermost()LStepsAhead$Op;
theorem PT_38 : PT 38 = pt38 := rfl
theorem k38_0 : lkp pt38 0 = iP 1 (fAld 0) := rfl
theorem k38_1 : lkp pt38 1 = iRI 4 (gtI 25) := rfl
theorem k38_4 : lkp pt38 4 = iP 5 (fK (.inl 1)) := rfl
theorem k38_5 : lkp pt38 5 = iP 6 (f2I (fun x y => x - y)) := rfl
theorem k38_6 : lkp pt38 6 = iP 7 (fIst 1) := rfl
theorem k38_7 : lkp pt38 7 = iP 8 (fIld 1) := rfl
theorem k38_8 : lkp pt38 8 = iB 11 17 (b1 (fun x => decide (x < 0))) := rfl
theorem k38_11 : lkp pt38 11 = iP 12 (fIld 1) := rfl
theorem k38_12 : lkp pt38 12 = iP 14 (fK (.inl 24)) := rfl
theorem k38_14 : lkp pt38 14 = iB 17 21 (b2 (fun x y => decide (x < y))) := rfl
theorem k38_17 : lkp pt38 17 = iP 18 (fK (.inr (.inr 0))) := rfl
theorem k38_18 : lkp pt38 18 = iP 31 fGo := rfl
theorem k38_21 : lkp pt38 21 = iP 22 (fAld 0) := rfl
theorem k38_22 : lkp pt38 22 = iP 23 (fAld 0) := rfl
theorem k38_23 : lkp pt38 23 = iRR 26 (gtR 24) := rfl
theorem k38_26 : lkp pt38 26 = iP 27 (fIld 1) := rfl
theorem k38_27 : lkp pt38 27 = iRI 28 qAI := rfl
theorem k38_28 : lkp pt38 28 = iCK 31 7 18 2 2 3 := rfl
theorem k38_31 : lkp pt38 31 = iRet rA := rfl
theorem b38_0 {G : AG} (hG : FIX G) (x0 : Nat) (H : Hp) : G 38 0 [some (.inr (.inr x0)), none] [] H = ((hgI H x0 25).bind fun i1 => bif decide (((i1 - 1) : Int32) < 0) then G 38 17 [some (.inr (.inr x0)), some (.inl (i1 - 1))] [] H else bif decide (((i1 - 1) : Int32) < (24 : Int32)) then (hgR H x0 24).bind fun r2 => (hAI H r2 ((i1 - 1))).bind fun i3 => bif Nat.beq (H.1 x0).1 7 then (G 18 0 [some (.inr (.inr x0)), some (.inl i3)] [] H).bind fun u4 => (asR u4.1).bind fun r5 => G 38 31 [some (.inr (.inr x0)), some (.inl (i1 - 1))] [.inr (.inr r5)] u4.2 else none else G 38 17 [some (.inr (.inr x0)), some (.inl (i1 - 1))] [] H) := by
  refine Eq.trans (e1 hG PT_38 k38_0 _ _ _) ?_
  show G 38 1 [some (.inr (.inr x0)), none] [.inr (.inr x0)] H = _
  refine Eq.trans (e1 hG PT_38 k38_1 _ _ _) ?_
  refine bdc fun i1 => ?_
  show G 38 4 [some (.inr (.inr x0)), none] [.inl i1] H = _
  refine Eq.trans (e1 hG PT_38 k38_4 _ _ _) ?_
  show G 38 5 [some (.inr (.inr x0)), none] [.inl 1, .inl i1] H = _
  refine Eq.trans (e1 hG PT_38 k38_5 _ _ _) ?_
  show G 38 6 [some (.inr (.inr x0)), none] [.inl (i1 - 1)] H = _
  refine Eq.trans (e1 hG PT_38 k38_6 _ _ _) ?_
  show G 38 7 [some (.inr (.inr x0)), some (.inl (i1 - 1))] [] H = _
  refine Eq.trans (e1 hG PT_38 k38_7 _ _ _) ?_
  show G 38 8 [some (.inr (.inr x0)), some (.inl (i1 - 1))] [.inl (i1 - 1)] H = _
  refine Eq.trans (e1 hG PT_38 k38_8 _ _ _) ?_
  refine bfc ?_ ?_
  · rfl
  · show G 38 11 [some (.inr (.inr x0)), some (.inl (i1 - 1))] [] H = _
    refine Eq.trans (e1 hG PT_38 k38_11 _ _ _) ?_
    show G 38 12 [some (.inr (.inr x0)), some (.inl (i1 - 1))] [.inl (i1 - 1)] H = _
    refine Eq.trans (e1 hG PT_38 k38_12 _ _ _) ?_
    show G 38 14 [some (.inr (.inr x0)), some (.inl (i1 - 1))] [.inl 24, .inl (i1 - 1)] H = _
    refine Eq.trans (e1 hG PT_38 k38_14 _ _ _) ?_
    refine bfc ?_ ?_
    · show G 38 21 [some (.inr (.inr x0)), some (.inl (i1 - 1))] [] H = _
      refine Eq.trans (e1 hG PT_38 k38_21 _ _ _) ?_
      show G 38 22 [some (.inr (.inr x0)), some (.inl (i1 - 1))] [.inr (.inr x0)] H = _
      refine Eq.trans (e1 hG PT_38 k38_22 _ _ _) ?_
      show G 38 23 [some (.inr (.inr x0)), some (.inl (i1 - 1))] [.inr (.inr x0), .inr (.inr x0)] H = _
      refine Eq.trans (e1 hG PT_38 k38_23 _ _ _) ?_
      refine bdc fun r2 => ?_
      show G 38 26 [some (.inr (.inr x0)), some (.inl (i1 - 1))] [.inr (.inr r2), .inr (.inr x0)] H = _
      refine Eq.trans (e1 hG PT_38 k38_26 _ _ _) ?_
      show G 38 27 [some (.inr (.inr x0)), some (.inl (i1 - 1))] [.inl (i1 - 1), .inr (.inr r2), .inr (.inr x0)] H = _
      refine Eq.trans (e1 hG PT_38 k38_27 _ _ _) ?_
      refine bdc fun i3 => ?_
      show G 38 28 [some (.inr (.inr x0)), some (.inl (i1 - 1))] [.inl i3, .inr (.inr x0)] H = _
      refine Eq.trans (e1 hG PT_38 k38_28 _ _ _) ?_
      refine bfc ?_ ?_
      · refine bdc fun u4 => ?_
        refine bdc fun r5 => ?_
        rfl
      · rfl
    · rfl
theorem b38_17 {G : AG} (hG : FIX G) (x0 : Nat) (x1 : Int32) (H : Hp) : G 38 17 [some (.inr (.inr x0)), some (.inl x1)] [] H = (G 38 31 [some (.inr (.inr x0)), some (.inl x1)] [.inr (.inr 0)] H) := by
  refine Eq.trans (e1 hG PT_38 k38_17 _ _ _) ?_
  show G 38 18 [some (.inr (.inr x0)), some (.inl x1)] [.inr (.inr 0)] H = _
  refine Eq.trans (e1 hG PT_38 k38_18 _ _ _) ?_
  rfl
theorem b38_31 {G : AG} (hG : FIX G) (x0 : Nat) (x1 : Int32) (s0 : Nat) (H : Hp) : G 38 31 [some (.inr (.inr x0)), some (.inl x1)] [.inr (.inr s0)] H = (some (some (.inr (.inr s0)), H)) := by
  exact e1 hG PT_38 k38_31 _ _ _
-- StepsAhead$Either.isClosedNextBy(I)Z
theorem PT_39 : PT 39 = pt39 := rfl
theorem k39_0 : lkp pt39 0 = iP 1 (fIld 1) := rfl
theorem k39_1 : lkp pt39 1 = iP 2 (fAld 0) := rfl
theorem k39_2 : lkp pt39 2 = iRI 5 (gtI 7) := rfl
theorem k39_5 : lkp pt39 5 = iP 6 (fK (.inl (-1))) := rfl
theorem k39_6 : lkp pt39 6 = iB 9 14 (b2 (fun x y => decide (x ≠ y))) := rfl
theorem k39_9 : lkp pt39 9 = iP 11 (fK (.inl 7)) := rfl
theorem k39_11 : lkp pt39 11 = iP 16 fGo := rfl
theorem k39_14 : lkp pt39 14 = iP 16 (fK (.inl 8)) := rfl
theorem k39_16 : lkp pt39 16 = iB 19 23 (b2 (fun x y => decide (x ≠ y))) := rfl
theorem k39_19 : lkp pt39 19 = iP 20 (fK (.inl 1)) := rfl
theorem k39_20 : lkp pt39 20 = iP 24 fGo := rfl
theorem k39_23 : lkp pt39 23 = iP 24 (fK (.inl 0)) := rfl
theorem k39_24 : lkp pt39 24 = iRet rZ := rfl
theorem b39_0 {G : AG} (hG : FIX G) (x0 : Nat) (x1 : Int32) (H : Hp) : G 39 0 [some (.inr (.inr x0)), some (.inl x1)] [] H = ((hgI H x0 7).bind fun i1 => bif decide ((i1 : Int32) ≠ ((-1) : Int32)) then G 39 16 [some (.inr (.inr x0)), some (.inl x1)] [.inl 8, .inl x1] H else G 39 16 [some (.inr (.inr x0)), some (.inl x1)] [.inl 7, .inl x1] H) := by
  refine Eq.trans (e1 hG PT_39 k39_0 _ _ _) ?_
  show G 39 1 [some (.inr (.inr x0)), some (.inl x1)] [.inl x1] H = _
  refine Eq.trans (e1 hG PT_39 k39_1 _ _ _) ?_
  show G 39 2 [some (.inr (.inr x0)), some (.inl x1)] [.inr (.inr x0), .inl x1] H = _
  refine Eq.trans (e1 hG PT_39 k39_2 _ _ _) ?_
  refine bdc fun i1 => ?_
  show G 39 5 [some (.inr (.inr x0)), some (.inl x1)] [.inl i1, .inl x1] H = _
  refine Eq.trans (e1 hG PT_39 k39_5 _ _ _) ?_
  show G 39 6 [some (.inr (.inr x0)), some (.inl x1)] [.inl (-1), .inl i1, .inl x1] H = _
  refine Eq.trans (e1 hG PT_39 k39_6 _ _ _) ?_
  refine bfc ?_ ?_
  · show G 39 14 [some (.inr (.inr x0)), some (.inl x1)] [.inl x1] H = _
    refine Eq.trans (e1 hG PT_39 k39_14 _ _ _) ?_
    rfl
  · show G 39 9 [some (.inr (.inr x0)), some (.inl x1)] [.inl x1] H = _
    refine Eq.trans (e1 hG PT_39 k39_9 _ _ _) ?_
    show G 39 11 [some (.inr (.inr x0)), some (.inl x1)] [.inl 7, .inl x1] H = _
    refine Eq.trans (e1 hG PT_39 k39_11 _ _ _) ?_
    rfl
theorem b39_16 {G : AG} (hG : FIX G) (x0 : Nat) (x1 : Int32) (s0 : Int32) (s1 : Int32) (H : Hp) : G 39 16 [some (.inr (.inr x0)), some (.inl x1)] [.inl s0, .inl s1] H = (bif decide ((s1 : Int32) ≠ (s0 : Int32)) then G 39 24 [some (.inr (.inr x0)), some (.inl x1)] [.inl 0] H else G 39 24 [some (.inr (.inr x0)), some (.inl x1)] [.inl 1] H) := by
  refine Eq.trans (e1 hG PT_39 k39_16 _ _ _) ?_
  refine bfc ?_ ?_
  · show G 39 23 [some (.inr (.inr x0)), some (.inl x1)] [] H = _
    refine Eq.trans (e1 hG PT_39 k39_23 _ _ _) ?_
    rfl
  · show G 39 19 [some (.inr (.inr x0)), some (.inl x1)] [] H = _
    refine Eq.trans (e1 hG PT_39 k39_19 _ _ _) ?_
    show G 39 20 [some (.inr (.inr x0)), some (.inl x1)] [.inl 1] H = _
    refine Eq.trans (e1 hG PT_39 k39_20 _ _ _) ?_
    rfl
theorem b39_24 {G : AG} (hG : FIX G) (x0 : Nat) (x1 : Int32) (s0 : Int32) (H : Hp) : G 39 24 [some (.inr (.inr x0)), some (.inl x1)] [.inl s0] H = (retZ s0 H) := by
  exact e1 hG PT_39 k39_24 _ _ _
-- StepsAhead$Loop.isClosedNextBy(I)Z
theorem PT_40 : PT 40 = pt40 := rfl
theorem k40_0 : lkp pt40 0 = iP 1 (fIld 1) := rfl
theorem k40_1 : lkp pt40 1 = iP 3 (fK (.inl 6)) := rfl
theorem k40_3 : lkp pt40 3 = iB 6 10 (b2 (fun x y => decide (x ≠ y))) := rfl
theorem k40_6 : lkp pt40 6 = iP 7 (fK (.inl 1)) := rfl
theorem k40_7 : lkp pt40 7 = iP 11 fGo := rfl
theorem k40_10 : lkp pt40 10 = iP 11 (fK (.inl 0)) := rfl
theorem k40_11 : lkp pt40 11 = iRet rZ := rfl
theorem b40_0 {G : AG} (hG : FIX G) (x0 : Nat) (x1 : Int32) (H : Hp) : G 40 0 [some (.inr (.inr x0)), some (.inl x1)] [] H = (bif decide ((x1 : Int32) ≠ (6 : Int32)) then G 40 11 [some (.inr (.inr x0)), some (.inl x1)] [.inl 0] H else G 40 11 [some (.inr (.inr x0)), some (.inl x1)] [.inl 1] H) := by
  refine Eq.trans (e1 hG PT_40 k40_0 _ _ _) ?_
  show G 40 1 [some (.inr (.inr x0)), some (.inl x1)] [.inl x1] H = _
  refine Eq.trans (e1 hG PT_40 k40_1 _ _ _) ?_
  show G 40 3 [some (.inr (.inr x0)), some (.inl x1)] [.inl 6, .inl x1] H = _
  refine Eq.trans (e1 hG PT_40 k40_3 _ _ _) ?_
  refine bfc ?_ ?_
  · show G 40 10 [some (.inr (.inr x0)), some (.inl x1)] [] H = _
    refine Eq.trans (e1 hG PT_40 k40_10 _ _ _) ?_
    rfl
  · show G 40 6 [some (.inr (.inr x0)), some (.inl x1)] [] H = _
    refine Eq.trans (e1 hG PT_40 k40_6 _ _ _) ?_
    show G 40 7 [some (.inr (.inr x0)), some (.inl x1)] [.inl 1] H = _
    refine Eq.trans (e1 hG PT_40 k40_7 _ _ _) ?_
    rfl
theorem b40_11 {G : AG} (hG : FIX G) (x0 : Nat) (x1 : Int32) (s0 : Int32) (H : Hp) : G 40 11 [some (.inr (.inr x0)), some (.inl x1)] [.inl s0] H = (retZ s0 H) := by
  exact e1 hG PT_40 k40_11 _ _ _
-- StepsAhead$Op.isClosedNextBy(I)Z
theorem PT_41 : PT 41 = pt41 := rfl
theorem k41_0 : lkp pt41 0 = iP 1 (fK (.inl 0)) := rfl
theorem k41_1 : lkp pt41 1 = iRet rZ := rfl
theorem b41_0 {G : AG} (hG : FIX G) (x0 : Nat) (x1 : Int32) (H : Hp) : G 41 0 [some (.inr (.inr x0)), some (.inl x1)] [] H = (retZ 0 H) := by
  refine Eq.trans (e1 hG PT_41 k41_0 _ _ _) ?_
  show G 41 1 [some (.inr (.inr x0)), some (.inl x1)] [.inl 0] H = _
  exact e1 hG PT_41 k41_1 _ _ _
-- StepsAhead.back(I)I
theorem PT_42 : PT 42 = pt42 := rfl
theorem k42_0 : lkp pt42 0 = iP 1 (fAld 0) := rfl
theorem k42_1 : lkp pt42 1 = iP 2 (fIld 1) := rfl
theorem k42_2 : lkp pt42 2 = iCK 5 11 15 2 2 3 := rfl
theorem k42_5 : lkp pt42 5 = iP 6 (fAst 2) := rfl
theorem k42_6 : lkp pt42 6 = iP 7 (fAld 2) := rfl
theorem k42_7 : lkp pt42 7 = iB 10 13 bNN := rfl
theorem k42_10 : lkp pt42 10 = iP 12 (fK (.inl (-1000001))) := rfl
theorem k42_12 : lkp pt42 12 = iRet rI := rfl
theorem k42_13 : lkp pt42 13 = iP 14 (fAld 2) := rfl
theorem k42_14 : lkp pt42 14 = iRI 17 (gtI 23) := rfl
theorem k42_17 : lkp pt42 17 = iB 20 23 (b1 (fun x => decide (x ≠ 0))) := rfl
theorem k42_20 : lkp pt42 20 = iP 22 (fK (.inl (-1000002))) := rfl
theorem k42_22 : lkp pt42 22 = iRet rI := rfl
theorem k42_23 : lkp pt42 23 = iP 24 (fAld 2) := rfl
theorem k42_24 : lkp pt42 24 = iCK 27 7 43 3 1 0 := rfl
theorem k42_27 : lkp pt42 27 = iP 28 (fAld 0) := rfl
theorem k42_28 : lkp pt42 28 = iP 29 (fAld 2) := rfl
theorem k42_29 : lkp pt42 29 = iRI 32 (gtI 21) := rfl
theorem k42_32 : lkp pt42 32 = iCK 35 11 28 3 2 0 := rfl
theorem k42_35 : lkp pt42 35 = iP 36 (fAld 2) := rfl
theorem k42_36 : lkp pt42 36 = iRI 39 (gtI 23) := rfl
theorem k42_39 : lkp pt42 39 = iRet rI := rfl
theorem b42_0 {G : AG} (hG : FIX G) (x0 : Nat) (x1 : Int32) (H : Hp) : G 42 0 [some (.inr (.inr x0)), some (.inl x1), none] [] H = (bif Nat.beq (H.1 x0).1 11 then (G 15 0 [some (.inr (.inr x0)), some (.inl x1)] [] H).bind fun u1 => (asR u1.1).bind fun r2 => bif !(Nat.beq r2 0) then (hgI u1.2 r2 23).bind fun i3 => bif decide ((i3 : Int32) ≠ 0) then bif Nat.beq (u1.2.1 r2).1 7 then (G 43 0 [some (.inr (.inr r2)), none, none] [] u1.2).bind fun u4 => (asV u4.1).bind fun _ => (hgI u4.2 r2 21).bind fun i5 => bif Nat.beq (u4.2.1 x0).1 11 then (G 28 0 [some (.inr (.inr x0)), some (.inl i5), none] [] u4.2).bind fun u6 => (asV u6.1).bind fun _ => (hgI u6.2 r2 23).bind fun i7 => some (some (.inl i7), u6.2) else none else none else some (some (.inl ((-1000002))), u1.2) else some (some (.inl ((-1000001))), u1.2) else none) := by
  refine Eq.trans (e1 hG PT_42 k42_0 _ _ _) ?_
  show G 42 1 [some (.inr (.inr x0)), some (.inl x1), none] [.inr (.inr x0)] H = _
  refine Eq.trans (e1 hG PT_42 k42_1 _ _ _) ?_
  show G 42 2 [some (.inr (.inr x0)), some (.inl x1), none] [.inl x1, .inr (.inr x0)] H = _
  refine Eq.trans (e1 hG PT_42 k42_2 _ _ _) ?_
  refine bfc ?_ ?_
  · refine bdc fun u1 => ?_
    refine bdc fun r2 => ?_
    show G 42 5 [some (.inr (.inr x0)), some (.inl x1), none] [.inr (.inr r2)] u1.2 = _
    refine Eq.trans (e1 hG PT_42 k42_5 _ _ _) ?_
    show G 42 6 [some (.inr (.inr x0)), some (.inl x1), some (.inr (.inr r2))] [] u1.2 = _
    refine Eq.trans (e1 hG PT_42 k42_6 _ _ _) ?_
    show G 42 7 [some (.inr (.inr x0)), some (.inl x1), some (.inr (.inr r2))] [.inr (.inr r2)] u1.2 = _
    refine Eq.trans (e1 hG PT_42 k42_7 _ _ _) ?_
    refine bfc ?_ ?_
    · show G 42 13 [some (.inr (.inr x0)), some (.inl x1), some (.inr (.inr r2))] [] u1.2 = _
      refine Eq.trans (e1 hG PT_42 k42_13 _ _ _) ?_
      show G 42 14 [some (.inr (.inr x0)), some (.inl x1), some (.inr (.inr r2))] [.inr (.inr r2)] u1.2 = _
      refine Eq.trans (e1 hG PT_42 k42_14 _ _ _) ?_
      refine bdc fun i3 => ?_
      show G 42 17 [some (.inr (.inr x0)), some (.inl x1), some (.inr (.inr r2))] [.inl i3] u1.2 = _
      refine Eq.trans (e1 hG PT_42 k42_17 _ _ _) ?_
      refine bfc ?_ ?_
      · show G 42 23 [some (.inr (.inr x0)), some (.inl x1), some (.inr (.inr r2))] [] u1.2 = _
        refine Eq.trans (e1 hG PT_42 k42_23 _ _ _) ?_
        show G 42 24 [some (.inr (.inr x0)), some (.inl x1), some (.inr (.inr r2))] [.inr (.inr r2)] u1.2 = _
        refine Eq.trans (e1 hG PT_42 k42_24 _ _ _) ?_
        refine bfc ?_ ?_
        · refine bdc fun u4 => ?_
          refine bdc fun _ => ?_
          show G 42 27 [some (.inr (.inr x0)), some (.inl x1), some (.inr (.inr r2))] [] u4.2 = _
          refine Eq.trans (e1 hG PT_42 k42_27 _ _ _) ?_
          show G 42 28 [some (.inr (.inr x0)), some (.inl x1), some (.inr (.inr r2))] [.inr (.inr x0)] u4.2 = _
          refine Eq.trans (e1 hG PT_42 k42_28 _ _ _) ?_
          show G 42 29 [some (.inr (.inr x0)), some (.inl x1), some (.inr (.inr r2))] [.inr (.inr r2), .inr (.inr x0)] u4.2 = _
          refine Eq.trans (e1 hG PT_42 k42_29 _ _ _) ?_
          refine bdc fun i5 => ?_
          show G 42 32 [some (.inr (.inr x0)), some (.inl x1), some (.inr (.inr r2))] [.inl i5, .inr (.inr x0)] u4.2 = _
          refine Eq.trans (e1 hG PT_42 k42_32 _ _ _) ?_
          refine bfc ?_ ?_
          · refine bdc fun u6 => ?_
            refine bdc fun _ => ?_
            show G 42 35 [some (.inr (.inr x0)), some (.inl x1), some (.inr (.inr r2))] [] u6.2 = _
            refine Eq.trans (e1 hG PT_42 k42_35 _ _ _) ?_
            show G 42 36 [some (.inr (.inr x0)), some (.inl x1), some (.inr (.inr r2))] [.inr (.inr r2)] u6.2 = _
            refine Eq.trans (e1 hG PT_42 k42_36 _ _ _) ?_
            refine bdc fun i7 => ?_
            show G 42 39 [some (.inr (.inr x0)), some (.inl x1), some (.inr (.inr r2))] [.inl i7] u6.2 = _
            exact e1 hG PT_42 k42_39 _ _ _
          · rfl
        · rfl
      · show G 42 20 [some (.inr (.inr x0)), some (.inl x1), some (.inr (.inr r2))] [] u1.2 = _
        refine Eq.trans (e1 hG PT_42 k42_20 _ _ _) ?_
        show G 42 22 [some (.inr (.inr x0)), some (.inl x1), some (.inr (.inr r2))] [.inl (-1000002)] u1.2 = _
        exact e1 hG PT_42 k42_22 _ _ _
    · show G 42 10 [some (.inr (.inr x0)), some (.inl x1), some (.inr (.inr r2))] [] u1.2 = _
      refine Eq.trans (e1 hG PT_42 k42_10 _ _ _) ?_
      show G 42 12 [some (.inr (.inr x0)), some (.inl x1), some (.inr (.inr r2))] [.inl (-1000001)] u1.2 = _
      exact e1 hG PT_42 k42_12 _ _ _
  · rfl
-- StepsAhead$Routine.dropLast()V
theorem PT_43 : PT 43 = pt43 := rfl
theorem k43_0 : lkp pt43 0 = iP 1 (fAld 0) := rfl
theorem k43_1 : lkp pt43 1 = iP 2 (fAld 0) := rfl
theorem k43_2 : lkp pt43 2 = iRI 5 (gtI 23) := rfl
theorem k43_5 : lkp pt43 5 = iP 6 (fK (.inl 1)) := rfl
theorem k43_6 : lkp pt43 6 = iP 7 (f2I (fun x y => x - y)) := rfl
theorem k43_7 : lkp pt43 7 = iCK 10 7 18 2 2 3 := rfl
theorem k43_10 : lkp pt43 10 = iP 11 (fAst 1) := rfl
theorem k43_11 : lkp pt43 11 = iP 12 (fAld 1) := rfl
theorem k43_12 : lkp pt43 12 = iB 15 16 bNN := rfl
theorem k43_15 : lkp pt43 15 = iRet rV := rfl
theorem k43_16 : lkp pt43 16 = iP 17 (fAld 0) := rfl
theorem k43_17 : lkp pt43 17 = iP 18 fDup := rfl
theorem k43_18 : lkp pt43 18 = iRI 21 (gtI 23) := rfl
theorem k43_21 : lkp pt43 21 = iP 22 (fK (.inl 1)) := rfl
theorem k43_22 : lkp pt43 22 = iP 23 (f2I (fun x y => x - y)) := rfl
theorem k43_23 : lkp pt43 23 = iW 26 (ptI 23) := rfl
theorem k43_26 : lkp pt43 26 = iP 27 (fAld 0) := rfl
theorem k43_27 : lkp pt43 27 = iRR 30 (gtR 22) := rfl
theorem k43_30 : lkp pt43 30 = iP 31 (fAld 0) := rfl
theorem k43_31 : lkp pt43 31 = iRI 34 (gtI 23) := rfl
theorem k43_34 : lkp pt43 34 = iP 35 (fK (.inr (.inr 0))) := rfl
theorem k43_35 : lkp pt43 35 = iW 36 wAR := rfl
theorem k43_36 : lkp pt43 36 = iP 37 (fAld 0) := rfl
theorem k43_37 : lkp pt43 37 = iCK 40 7 23 4 1 0 := rfl
theorem k43_40 : lkp pt43 40 = iP 41 (fAld 1) := rfl
theorem k43_41 : lkp pt43 41 = iRI 44 (gtI 1) := rfl
theorem k43_44 : lkp pt43 44 = iP 45 (fK (.inl 3)) := rfl
theorem k43_45 : lkp pt43 45 = iB 48 56 (b2 (fun x y => decide (x = y))) := rfl
theorem k43_48 : lkp pt43 48 = iP 49 (fAld 1) := rfl
theorem k43_49 : lkp pt43 49 = iRI 52 (gtI 1) := rfl
theorem k43_52 : lkp pt43 52 = iP 53 (fK (.inl 5)) := rfl
theorem k43_53 : lkp pt43 53 = iB 56 67 (b2 (fun x y => decide (x ≠ y))) := rfl
theorem k43_56 : lkp pt43 56 = iP 57 (fAld 0) := rfl
theorem k43_57 : lkp pt43 57 = iP 58 fDup := rfl
theorem k43_58 : lkp pt43 58 = iRI 61 (gtI 25) := rfl
theorem k43_61 : lkp pt43 61 = iP 62 (fK (.inl 1)) := rfl
theorem k43_62 : lkp pt43 62 = iP 63 (f2I (fun x y => x - y)) := rfl
theorem k43_63 : lkp pt43 63 = iW 66 (ptI 25) := rfl
theorem k43_66 : lkp pt43 66 = iRet rV := rfl
theorem k43_67 : lkp pt43 67 = iP 68 (fAld 0) := rfl
theorem k43_68 : lkp pt43 68 = iP 69 (fAld 1) := rfl
theorem k43_69 : lkp pt43 69 = iRI 72 (gtI 4) := rfl
theorem k43_72 : lkp pt43 72 = iCK 75 7 18 2 2 3 := rfl
theorem k43_75 : lkp pt43 75 = iP 76 (fAst 2) := rfl
theorem k43_76 : lkp pt43 76 = iP 77 (fAld 2) := rfl
theorem k43_77 : lkp pt43 77 = iB 80 106 bN := rfl
theorem k43_80 : lkp pt43 80 = iP 81 (fAld 2) := rfl
theorem k43_81 : lkp pt43 81 = iP 82 (fAld 1) := rfl
theorem k43_82 : lkp pt43 82 = iRI 85 (gtI 1) := rfl
theorem k43_85 : lkp pt43 85 = iP 86 (fK (.inl (-1))) := rfl
theorem k43_86 : lkp pt43 86 = iCV 89 3 0 [(1, 27, 3), (2, 25, 3), (3, 26, 3), (4, 27, 3), (10, 27, 3)] := rfl
theorem k43_89 : lkp pt43 89 = iP 90 (fAld 1) := rfl
theorem k43_90 : lkp pt43 90 = iRI 93 (gtI 1) := rfl
theorem k43_93 : lkp pt43 93 = iP 95 (fK (.inl 7)) := rfl
theorem k43_95 : lkp pt43 95 = iB 98 106 (b2 (fun x y => decide (x = y))) := rfl
theorem k43_98 : lkp pt43 98 = iP 99 (fAld 0) := rfl
theorem k43_99 : lkp pt43 99 = iP 100 (fAld 2) := rfl
theorem k43_100 : lkp pt43 100 = iRI 103 (gtI 2) := rfl
theorem k43_103 : lkp pt43 103 = iCK 106 7 24 2 2 0 := rfl
theorem k43_106 : lkp pt43 106 = iRet rV := rfl
theorem b43_0 {G : AG} (hG : FIX G) (x0 : Nat) (H : Hp) : G 43 0 [some (.inr (.inr x0)), none, none] [] H = ((hgI H x0 23).bind fun i1 => bif Nat.beq (H.1 x0).1 7 then (G 18 0 [some (.inr (.inr x0)), some (.inl ((i1 - 1)))] [] H).bind fun u2 => (asR u2.1).bind fun r3 => bif !(Nat.beq r3 0) then (hgI u2.2 x0 23).bind fun i4 => (hpI u2.2 x0 23 ((i4 - 1))).bind fun H5 => (hgR H5 x0 22).bind fun r6 => (hgI H5 x0 23).bind fun i7 => (hSR H5 r6 i7 0).bind fun H8 => bif Nat.beq (H8.1 x0).1 7 then (G 23 0 [some (.inr (.inr x0)), none, none, none] [] H8).bind fun u9 => (asV u9.1).bind fun _ => (hgI u9.2 r3 1).bind fun i10 => bif decide ((i10 : Int32) = (3 : Int32)) then G 43 56 [some (.inr (.inr x0)), some (.inr (.inr r3)), none] [] u9.2 else (hgI u9.2 r3 1).bind fun i11 => bif decide ((i11 : Int32) ≠ (5 : Int32)) then (hgI u9.2 r3 4).bind fun i12 => bif Nat.beq (u9.2.1 x0).1 7 then (G 18 0 [some (.inr (.inr x0)), some (.inl i12)] [] u9.2).bind fun u13 => (asR u13.1).bind fun r14 => bif Nat.beq r14 0 then G 43 106 [some (.inr (.inr x0)), some (.inr (.inr r3)), some (.inr (.inr r14))] [] u13.2 else (hgI u13.2 r3 1).bind fun i15 => (slk [(1, 27, 3), (2, 25, 3), (3, 26, 3), (4, 27, 3), (10, 27, 3)] (u13.2.1 r14).1).bind fun w17 => (G w17.1 0 (padA w17.2 [some (.inr (.inr r14)), some (.inl i15), some (.inl ((-1)))]) [] u13.2).bind fun u16 => (asV u16.1).bind fun _ => (hgI u16.2 r3 1).bind fun i18 => bif decide ((i18 : Int32) = (7 : Int32)) then G 43 106 [some (.inr (.inr x0)), some (.inr (.inr r3)), some (.inr (.inr r14))] [] u16.2 else (hgI u16.2 r14 2).bind fun i19 => bif Nat.beq (u16.2.1 x0).1 7 then (G 24 0 [some (.inr (.inr x0)), some (.inl i19)] [] u16.2).bind fun u20 => (asV u20.1).bind fun _ => G 43 106 [some (.inr (.inr x0)), some (.inr (.inr r3)), some (.inr (.inr r14))] [] u20.2 else none else none else G 43 56 [some (.inr (.inr x0)), some (.inr (.inr r3)), none] [] u9.2 else none else some (none, u2.2) else none) := by
  refine Eq.trans (e1 hG PT_43 k43_0 _ _ _) ?_
  show G 43 1 [some (.inr (.inr x0)), none, none] [.inr (.inr x0)] H = _
  refine Eq.trans (e1 hG PT_43 k43_1 _ _ _) ?_
  show G 43 2 [some (.inr (.inr x0)), none, none] [.inr (.inr x0), .inr (.inr x0)] H = _
  refine Eq.trans (e1 hG PT_43 k43_2 _ _ _) ?_
  refine bdc fun i1 => ?_
  show G 43 5 [some (.inr (.inr x0)), none, none] [.inl i1, .inr (.inr x0)] H = _
  refine Eq.trans (e1 hG PT_43 k43_5 _ _ _) ?_
  show G 43 6 [some (.inr (.inr x0)), none, none] [.inl 1, .inl i1, .inr (.inr x0)] H = _
  refine Eq.trans (e1 hG PT_43 k43_6 _ _ _) ?_
  show G 43 7 [some (.inr (.inr x0)), none, none] [.inl (i1 - 1), .inr (.inr x0)] H = _
  refine Eq.trans (e1 hG PT_43 k43_7 _ _ _) ?_
  refine bfc ?_ ?_
  · refine bdc fun u2 => ?_
    refine bdc fun r3 => ?_
    show G 43 10 [some (.inr (.inr x0)), none, none] [.inr (.inr r3)] u2.2 = _
    refine Eq.trans (e1 hG PT_43 k43_10 _ _ _) ?_
    show G 43 11 [some (.inr (.inr x0)), some (.inr (.inr r3)), none] [] u2.2 = _
    refine Eq.trans (e1 hG PT_43 k43_11 _ _ _) ?_
    show G 43 12 [some (.inr (.inr x0)), some (.inr (.inr r3)), none] [.inr (.inr r3)] u2.2 = _
    refine Eq.trans (e1 hG PT_43 k43_12 _ _ _) ?_
    refine bfc ?_ ?_
    · show G 43 16 [some (.inr (.inr x0)), some (.inr (.inr r3)), none] [] u2.2 = _
      refine Eq.trans (e1 hG PT_43 k43_16 _ _ _) ?_
      show G 43 17 [some (.inr (.inr x0)), some (.inr (.inr r3)), none] [.inr (.inr x0)] u2.2 = _
      refine Eq.trans (e1 hG PT_43 k43_17 _ _ _) ?_
      show G 43 18 [some (.inr (.inr x0)), some (.inr (.inr r3)), none] [.inr (.inr x0), .inr (.inr x0)] u2.2 = _
      refine Eq.trans (e1 hG PT_43 k43_18 _ _ _) ?_
      refine bdc fun i4 => ?_
      show G 43 21 [some (.inr (.inr x0)), some (.inr (.inr r3)), none] [.inl i4, .inr (.inr x0)] u2.2 = _
      refine Eq.trans (e1 hG PT_43 k43_21 _ _ _) ?_
      show G 43 22 [some (.inr (.inr x0)), some (.inr (.inr r3)), none] [.inl 1, .inl i4, .inr (.inr x0)] u2.2 = _
      refine Eq.trans (e1 hG PT_43 k43_22 _ _ _) ?_
      show G 43 23 [some (.inr (.inr x0)), some (.inr (.inr r3)), none] [.inl (i4 - 1), .inr (.inr x0)] u2.2 = _
      refine Eq.trans (e1 hG PT_43 k43_23 _ _ _) ?_
      refine bdc fun H5 => ?_
      show G 43 26 [some (.inr (.inr x0)), some (.inr (.inr r3)), none] [] H5 = _
      refine Eq.trans (e1 hG PT_43 k43_26 _ _ _) ?_
      show G 43 27 [some (.inr (.inr x0)), some (.inr (.inr r3)), none] [.inr (.inr x0)] H5 = _
      refine Eq.trans (e1 hG PT_43 k43_27 _ _ _) ?_
      refine bdc fun r6 => ?_
      show G 43 30 [some (.inr (.inr x0)), some (.inr (.inr r3)), none] [.inr (.inr r6)] H5 = _
      refine Eq.trans (e1 hG PT_43 k43_30 _ _ _) ?_
      show G 43 31 [some (.inr (.inr x0)), some (.inr (.inr r3)), none] [.inr (.inr x0), .inr (.inr r6)] H5 = _
      refine Eq.trans (e1 hG PT_43 k43_31 _ _ _) ?_
      refine bdc fun i7 => ?_
      show G 43 34 [some (.inr (.inr x0)), some (.inr (.inr r3)), none] [.inl i7, .inr (.inr r6)] H5 = _
      refine Eq.trans (e1 hG PT_43 k43_34 _ _ _) ?_
      show G 43 35 [some (.inr (.inr x0)), some (.inr (.inr r3)), none] [.inr (.inr 0), .inl i7, .inr (.inr r6)] H5 = _
      refine Eq.trans (e1 hG PT_43 k43_35 _ _ _) ?_
      refine bdc fun H8 => ?_
      show G 43 36 [some (.inr (.inr x0)), some (.inr (.inr r3)), none] [] H8 = _
      refine Eq.trans (e1 hG PT_43 k43_36 _ _ _) ?_
      show G 43 37 [some (.inr (.inr x0)), some (.inr (.inr r3)), none] [.inr (.inr x0)] H8 = _
      refine Eq.trans (e1 hG PT_43 k43_37 _ _ _) ?_
      refine bfc ?_ ?_
      · refine bdc fun u9 => ?_
        refine bdc fun _ => ?_
        show G 43 40 [some (.inr (.inr x0)), some (.inr (.inr r3)), none] [] u9.2 = _
        refine Eq.trans (e1 hG PT_43 k43_40 _ _ _) ?_
        show G 43 41 [some (.inr (.inr x0)), some (.inr (.inr r3)), none] [.inr (.inr r3)] u9.2 = _
        refine Eq.trans (e1 hG PT_43 k43_41 _ _ _) ?_
        refine bdc fun i10 => ?_
        show G 43 44 [some (.inr (.inr x0)), some (.inr (.inr r3)), none] [.inl i10] u9.2 = _
        refine Eq.trans (e1 hG PT_43 k43_44 _ _ _) ?_
        show G 43 45 [some (.inr (.inr x0)), some (.inr (.inr r3)), none] [.inl 3, .inl i10] u9.2 = _
        refine Eq.trans (e1 hG PT_43 k43_45 _ _ _) ?_
        refine bfc ?_ ?_
        · rfl
        · show G 43 48 [some (.inr (.inr x0)), some (.inr (.inr r3)), none] [] u9.2 = _
          refine Eq.trans (e1 hG PT_43 k43_48 _ _ _) ?_
          show G 43 49 [some (.inr (.inr x0)), some (.inr (.inr r3)), none] [.inr (.inr r3)] u9.2 = _
          refine Eq.trans (e1 hG PT_43 k43_49 _ _ _) ?_
          refine bdc fun i11 => ?_
          show G 43 52 [some (.inr (.inr x0)), some (.inr (.inr r3)), none] [.inl i11] u9.2 = _
          refine Eq.trans (e1 hG PT_43 k43_52 _ _ _) ?_
          show G 43 53 [some (.inr (.inr x0)), some (.inr (.inr r3)), none] [.inl 5, .inl i11] u9.2 = _
          refine Eq.trans (e1 hG PT_43 k43_53 _ _ _) ?_
          refine bfc ?_ ?_
          · show G 43 67 [some (.inr (.inr x0)), some (.inr (.inr r3)), none] [] u9.2 = _
            refine Eq.trans (e1 hG PT_43 k43_67 _ _ _) ?_
            show G 43 68 [some (.inr (.inr x0)), some (.inr (.inr r3)), none] [.inr (.inr x0)] u9.2 = _
            refine Eq.trans (e1 hG PT_43 k43_68 _ _ _) ?_
            show G 43 69 [some (.inr (.inr x0)), some (.inr (.inr r3)), none] [.inr (.inr r3), .inr (.inr x0)] u9.2 = _
            refine Eq.trans (e1 hG PT_43 k43_69 _ _ _) ?_
            refine bdc fun i12 => ?_
            show G 43 72 [some (.inr (.inr x0)), some (.inr (.inr r3)), none] [.inl i12, .inr (.inr x0)] u9.2 = _
            refine Eq.trans (e1 hG PT_43 k43_72 _ _ _) ?_
            refine bfc ?_ ?_
            · refine bdc fun u13 => ?_
              refine bdc fun r14 => ?_
              show G 43 75 [some (.inr (.inr x0)), some (.inr (.inr r3)), none] [.inr (.inr r14)] u13.2 = _
              refine Eq.trans (e1 hG PT_43 k43_75 _ _ _) ?_
              show G 43 76 [some (.inr (.inr x0)), some (.inr (.inr r3)), some (.inr (.inr r14))] [] u13.2 = _
              refine Eq.trans (e1 hG PT_43 k43_76 _ _ _) ?_
              show G 43 77 [some (.inr (.inr x0)), some (.inr (.inr r3)), some (.inr (.inr r14))] [.inr (.inr r14)] u13.2 = _
              refine Eq.trans (e1 hG PT_43 k43_77 _ _ _) ?_
              refine bfc ?_ ?_
              · rfl
              · show G 43 80 [some (.inr (.inr x0)), some (.inr (.inr r3)), some (.inr (.inr r14))] [] u13.2 = _
                refine Eq.trans (e1 hG PT_43 k43_80 _ _ _) ?_
                show G 43 81 [some (.inr (.inr x0)), some (.inr (.inr r3)), some (.inr (.inr r14))] [.inr (.inr r14)] u13.2 = _
                refine Eq.trans (e1 hG PT_43 k43_81 _ _ _) ?_
                show G 43 82 [some (.inr (.inr x0)), some (.inr (.inr r3)), some (.inr (.inr r14))] [.inr (.inr r3), .inr (.inr r14)] u13.2 = _
                refine Eq.trans (e1 hG PT_43 k43_82 _ _ _) ?_
                refine bdc fun i15 => ?_
                show G 43 85 [some (.inr (.inr x0)), some (.inr (.inr r3)), some (.inr (.inr r14))] [.inl i15, .inr (.inr r14)] u13.2 = _
                refine Eq.trans (e1 hG PT_43 k43_85 _ _ _) ?_
                show G 43 86 [some (.inr (.inr x0)), some (.inr (.inr r3)), some (.inr (.inr r14))] [.inl (-1), .inl i15, .inr (.inr r14)] u13.2 = _
                refine Eq.trans (e1 hG PT_43 k43_86 _ _ _) ?_
                refine bdc fun w17 => ?_
                refine bdc fun u16 => ?_
                refine bdc fun _ => ?_
                show G 43 89 [some (.inr (.inr x0)), some (.inr (.inr r3)), some (.inr (.inr r14))] [] u16.2 = _
                refine Eq.trans (e1 hG PT_43 k43_89 _ _ _) ?_
                show G 43 90 [some (.inr (.inr x0)), some (.inr (.inr r3)), some (.inr (.inr r14))] [.inr (.inr r3)] u16.2 = _
                refine Eq.trans (e1 hG PT_43 k43_90 _ _ _) ?_
                refine bdc fun i18 => ?_
                show G 43 93 [some (.inr (.inr x0)), some (.inr (.inr r3)), some (.inr (.inr r14))] [.inl i18] u16.2 = _
                refine Eq.trans (e1 hG PT_43 k43_93 _ _ _) ?_
                show G 43 95 [some (.inr (.inr x0)), some (.inr (.inr r3)), some (.inr (.inr r14))] [.inl 7, .inl i18] u16.2 = _
                refine Eq.trans (e1 hG PT_43 k43_95 _ _ _) ?_
                refine bfc ?_ ?_
                · rfl
                · show G 43 98 [some (.inr (.inr x0)), some (.inr (.inr r3)), some (.inr (.inr r14))] [] u16.2 = _
                  refine Eq.trans (e1 hG PT_43 k43_98 _ _ _) ?_
                  show G 43 99 [some (.inr (.inr x0)), some (.inr (.inr r3)), some (.inr (.inr r14))] [.inr (.inr x0)] u16.2 = _
                  refine Eq.trans (e1 hG PT_43 k43_99 _ _ _) ?_
                  show G 43 100 [some (.inr (.inr x0)), some (.inr (.inr r3)), some (.inr (.inr r14))] [.inr (.inr r14), .inr (.inr x0)] u16.2 = _
                  refine Eq.trans (e1 hG PT_43 k43_100 _ _ _) ?_
                  refine bdc fun i19 => ?_
                  show G 43 103 [some (.inr (.inr x0)), some (.inr (.inr r3)), some (.inr (.inr r14))] [.inl i19, .inr (.inr x0)] u16.2 = _
                  refine Eq.trans (e1 hG PT_43 k43_103 _ _ _) ?_
                  refine bfc ?_ ?_
                  · refine bdc fun u20 => ?_
                    refine bdc fun _ => ?_
                    rfl
                  · rfl
            · rfl
          · rfl
      · rfl
    · show G 43 15 [some (.inr (.inr x0)), some (.inr (.inr r3)), none] [] u2.2 = _
      exact e1 hG PT_43 k43_15 _ _ _
  · rfl
theorem b43_56 {G : AG} (hG : FIX G) (x0 : Nat) (x1 : Nat) (H : Hp) : G 43 56 [some (.inr (.inr x0)), some (.inr (.inr x1)), none] [] H = ((hgI H x0 25).bind fun i1 => (hpI H x0 25 ((i1 - 1))).bind fun H2 => some (none, H2)) := by
  refine Eq.trans (e1 hG PT_43 k43_56 _ _ _) ?_
  show G 43 57 [some (.inr (.inr x0)), some (.inr (.inr x1)), none] [.inr (.inr x0)] H = _
  refine Eq.trans (e1 hG PT_43 k43_57 _ _ _) ?_
  show G 43 58 [some (.inr (.inr x0)), some (.inr (.inr x1)), none] [.inr (.inr x0), .inr (.inr x0)] H = _
  refine Eq.trans (e1 hG PT_43 k43_58 _ _ _) ?_
  refine bdc fun i1 => ?_
  show G 43 61 [some (.inr (.inr x0)), some (.inr (.inr x1)), none] [.inl i1, .inr (.inr x0)] H = _
  refine Eq.trans (e1 hG PT_43 k43_61 _ _ _) ?_
  show G 43 62 [some (.inr (.inr x0)), some (.inr (.inr x1)), none] [.inl 1, .inl i1, .inr (.inr x0)] H = _
  refine Eq.trans (e1 hG PT_43 k43_62 _ _ _) ?_
  show G 43 63 [some (.inr (.inr x0)), some (.inr (.inr x1)), none] [.inl (i1 - 1), .inr (.inr x0)] H = _
  refine Eq.trans (e1 hG PT_43 k43_63 _ _ _) ?_
  refine bdc fun H2 => ?_
  show G 43 66 [some (.inr (.inr x0)), some (.inr (.inr x1)), none] [] H2 = _
  exact e1 hG PT_43 k43_66 _ _ _
theorem b43_106 {G : AG} (hG : FIX G) (x0 : Nat) (x1 : Nat) (x2 : Nat) (H : Hp) : G 43 106 [some (.inr (.inr x0)), some (.inr (.inr x1)), some (.inr (.inr x2))] [] H = (some (none, H)) := by
  exact e1 hG PT_43 k43_106 _ _ _
-- StepsAhead.kind(II)I
theorem PT_44 : PT 44 = pt44 := rfl
theorem k44_0 : lkp pt44 0 = iP 1 (fAld 0) := rfl
theorem k44_1 : lkp pt44 1 = iP 2 (fIld 1) := rfl
theorem k44_2 : lkp pt44 2 = iP 3 (fIld 2) := rfl
theorem k44_3 : lkp pt44 3 = iCK 6 11 45 4 3 3 := rfl
theorem k44_6 : lkp pt44 6 = iP 7 (fAst 3) := rfl
theorem k44_7 : lkp pt44 7 = iP 8 (fAld 3) := rfl
theorem k44_8 : lkp pt44 8 = iB 11 16 bNN := rfl
theorem k44_11 : lkp pt44 11 = iP 13 (fK (.inl (-1000001))) := rfl
theorem k44_13 : lkp pt44 13 = iP 20 fGo := rfl
theorem k44_16 : lkp pt44 16 = iP 17 (fAld 3) := rfl
theorem k44_17 : lkp pt44 17 = iRI 20 (gtI 1) := rfl
theorem k44_20 : lkp pt44 20 = iRet rI := rfl
theorem b44_0 {G : AG} (hG : FIX G) (x0 : Nat) (x1 : Int32) (x2 : Int32) (H : Hp) : G 44 0 [some (.inr (.inr x0)), some (.inl x1), some (.inl x2), none] [] H = (bif Nat.beq (H.1 x0).1 11 then (G 45 0 [some (.inr (.inr x0)), some (.inl x1), some (.inl x2), none] [] H).bind fun u1 => (asR u1.1).bind fun r2 => bif !(Nat.beq r2 0) then (hgI u1.2 r2 1).bind fun i3 => G 44 20 [some (.inr (.inr x0)), some (.inl x1), some (.inl x2), some (.inr (.inr r2))] [.inl i3] u1.2 else G 44 20 [some (.inr (.inr x0)), some (.inl x1), some (.inl x2), some (.inr (.inr r2))] [.inl (-1000001)] u1.2 else none) := by
  refine Eq.trans (e1 hG PT_44 k44_0 _ _ _) ?_
  show G 44 1 [some (.inr (.inr x0)), some (.inl x1), some (.inl x2), none] [.inr (.inr x0)] H = _
  refine Eq.trans (e1 hG PT_44 k44_1 _ _ _) ?_
  show G 44 2 [some (.inr (.inr x0)), some (.inl x1), some (.inl x2), none] [.inl x1, .inr (.inr x0)] H = _
  refine Eq.trans (e1 hG PT_44 k44_2 _ _ _) ?_
  show G 44 3 [some (.inr (.inr x0)), some (.inl x1), some (.inl x2), none] [.inl x2, .inl x1, .inr (.inr x0)] H = _
  refine Eq.trans (e1 hG PT_44 k44_3 _ _ _) ?_
  refine bfc ?_ ?_
  · refine bdc fun u1 => ?_
    refine bdc fun r2 => ?_
    show G 44 6 [some (.inr (.inr x0)), some (.inl x1), some (.inl x2), none] [.inr (.inr r2)] u1.2 = _
    refine Eq.trans (e1 hG PT_44 k44_6 _ _ _) ?_
    show G 44 7 [some (.inr (.inr x0)), some (.inl x1), some (.inl x2), some (.inr (.inr r2))] [] u1.2 = _
    refine Eq.trans (e1 hG PT_44 k44_7 _ _ _) ?_
    show G 44 8 [some (.inr (.inr x0)), some (.inl x1), some (.inl x2), some (.inr (.inr r2))] [.inr (.inr r2)] u1.2 = _
    refine Eq.trans (e1 hG PT_44 k44_8 _ _ _) ?_
    refine bfc ?_ ?_
    · show G 44 16 [some (.inr (.inr x0)), some (.inl x1), some (.inl x2), some (.inr (.inr r2))] [] u1.2 = _
      refine Eq.trans (e1 hG PT_44 k44_16 _ _ _) ?_
      show G 44 17 [some (.inr (.inr x0)), some (.inl x1), some (.inl x2), some (.inr (.inr r2))] [.inr (.inr r2)] u1.2 = _
      refine Eq.trans (e1 hG PT_44 k44_17 _ _ _) ?_
      refine bdc fun i3 => ?_
      rfl
    · show G 44 11 [some (.inr (.inr x0)), some (.inl x1), some (.inl x2), some (.inr (.inr r2))] [] u1.2 = _
      refine Eq.trans (e1 hG PT_44 k44_11 _ _ _) ?_
      show G 44 13 [some (.inr (.inr x0)), some (.inl x1), some (.inl x2), some (.inr (.inr r2))] [.inl (-1000001)] u1.2 = _
      refine Eq.trans (e1 hG PT_44 k44_13 _ _ _) ?_
      rfl
  · rfl
theorem b44_20 {G : AG} (hG : FIX G) (x0 : Nat) (x1 : Int32) (x2 : Int32) (x3 : Nat) (s0 : Int32) (H : Hp) : G 44 20 [some (.inr (.inr x0)), some (.inl x1), some (.inl x2), some (.inr (.inr x3))] [.inl s0] H = (some (some (.inl s0), H)) := by
  exact e1 hG PT_44 k44_20 _ _ _
-- StepsAhead.found(II)LStepsAhead$Op;
theorem PT_45 : PT 45 = pt45 := rfl
theorem k45_0 : lkp pt45 0 = iP 1 (fAld 0) := rfl
theorem k45_1 : lkp pt45 1 = iP 2 (fIld 1) := rfl
theorem k45_2 : lkp pt45 2 = iCK 5 11 15 2 2 3 := rfl
theorem k45_5 : lkp pt45 5 = iP 6 (fAst 3) := rfl
theorem k45_6 : lkp pt45 6 = iP 7 (fAld 3) := rfl
theorem k45_7 : lkp pt45 7 = iB 10 14 bNN := rfl
theorem k45_10 : lkp pt45 10 = iP 11 (fK (.inr (.inr 0))) := rfl
theorem k45_11 : lkp pt45 11 = iP 19 fGo := rfl
theorem k45_14 : lkp pt45 14 = iP 15 (fAld 3) := rfl
theorem k45_15 : lkp pt45 15 = iP 16 (fIld 2) := rfl
theorem k45_16 : lkp pt45 16 = iCK 19 7 18 2 2 3 := rfl
theorem k45_19 : lkp pt45 19 = iRet rA := rfl
theorem b45_0 {G : AG} (hG : FIX G) (x0 : Nat) (x1 : Int32) (x2 : Int32) (H : Hp) : G 45 0 [some (.inr (.inr x0)), some (.inl x1), some (.inl x2), none] [] H = (bif Nat.beq (H.1 x0).1 11 then (G 15 0 [some (.inr (.inr x0)), some (.inl x1)] [] H).bind fun u1 => (asR u1.1).bind fun r2 => bif !(Nat.beq r2 0) then bif Nat.beq (u1.2.1 r2).1 7 then (G 18 0 [some (.inr (.inr r2)), some (.inl x2)] [] u1.2).bind fun u3 => (asR u3.1).bind fun r4 => G 45 19 [some (.inr (.inr x0)), some (.inl x1), some (.inl x2), some (.inr (.inr r2))] [.inr (.inr r4)] u3.2 else none else G 45 19 [some (.inr (.inr x0)), some (.inl x1), some (.inl x2), some (.inr (.inr r2))] [.inr (.inr 0)] u1.2 else none) := by
  refine Eq.trans (e1 hG PT_45 k45_0 _ _ _) ?_
  show G 45 1 [some (.inr (.inr x0)), some (.inl x1), some (.inl x2), none] [.inr (.inr x0)] H = _
  refine Eq.trans (e1 hG PT_45 k45_1 _ _ _) ?_
  show G 45 2 [some (.inr (.inr x0)), some (.inl x1), some (.inl x2), none] [.inl x1, .inr (.inr x0)] H = _
  refine Eq.trans (e1 hG PT_45 k45_2 _ _ _) ?_
  refine bfc ?_ ?_
  · refine bdc fun u1 => ?_
    refine bdc fun r2 => ?_
    show G 45 5 [some (.inr (.inr x0)), some (.inl x1), some (.inl x2), none] [.inr (.inr r2)] u1.2 = _
    refine Eq.trans (e1 hG PT_45 k45_5 _ _ _) ?_
    show G 45 6 [some (.inr (.inr x0)), some (.inl x1), some (.inl x2), some (.inr (.inr r2))] [] u1.2 = _
    refine Eq.trans (e1 hG PT_45 k45_6 _ _ _) ?_
    show G 45 7 [some (.inr (.inr x0)), some (.inl x1), some (.inl x2), some (.inr (.inr r2))] [.inr (.inr r2)] u1.2 = _
    refine Eq.trans (e1 hG PT_45 k45_7 _ _ _) ?_
    refine bfc ?_ ?_
    · show G 45 14 [some (.inr (.inr x0)), some (.inl x1), some (.inl x2), some (.inr (.inr r2))] [] u1.2 = _
      refine Eq.trans (e1 hG PT_45 k45_14 _ _ _) ?_
      show G 45 15 [some (.inr (.inr x0)), some (.inl x1), some (.inl x2), some (.inr (.inr r2))] [.inr (.inr r2)] u1.2 = _
      refine Eq.trans (e1 hG PT_45 k45_15 _ _ _) ?_
      show G 45 16 [some (.inr (.inr x0)), some (.inl x1), some (.inl x2), some (.inr (.inr r2))] [.inl x2, .inr (.inr r2)] u1.2 = _
      refine Eq.trans (e1 hG PT_45 k45_16 _ _ _) ?_
      refine bfc ?_ ?_
      · refine bdc fun u3 => ?_
        refine bdc fun r4 => ?_
        rfl
      · rfl
    · show G 45 10 [some (.inr (.inr x0)), some (.inl x1), some (.inl x2), some (.inr (.inr r2))] [] u1.2 = _
      refine Eq.trans (e1 hG PT_45 k45_10 _ _ _) ?_
      show G 45 11 [some (.inr (.inr x0)), some (.inl x1), some (.inl x2), some (.inr (.inr r2))] [.inr (.inr 0)] u1.2 = _
      refine Eq.trans (e1 hG PT_45 k45_11 _ _ _) ?_
      rfl
  · rfl
theorem b45_19 {G : AG} (hG : FIX G) (x0 : Nat) (x1 : Int32) (x2 : Int32) (x3 : Nat) (s0 : Nat) (H : Hp) : G 45 19 [some (.inr (.inr x0)), some (.inl x1), some (.inl x2), some (.inr (.inr x3))] [.inr (.inr s0)] H = (some (some (.inr (.inr s0)), H)) := by
  exact e1 hG PT_45 k45_19 _ _ _
-- StepsAhead.is(III)I
theorem PT_46 : PT 46 = pt46 := rfl
theorem k46_0 : lkp pt46 0 = iP 1 (fAld 0) := rfl
theorem k46_1 : lkp pt46 1 = iP 2 (fIld 1) := rfl
theorem k46_2 : lkp pt46 2 = iP 3 (fIld 2) := rfl
theorem k46_3 : lkp pt46 3 = iCK 6 11 45 4 3 3 := rfl
theorem k46_6 : lkp pt46 6 = iP 8 (fAst 4) := rfl
theorem k46_8 : lkp pt46 8 = iP 10 (fAld 4) := rfl
theorem k46_10 : lkp pt46 10 = iB 13 23 bN := rfl
theorem k46_13 : lkp pt46 13 = iP 14 (fIld 3) := rfl
theorem k46_14 : lkp pt46 14 = iB 17 23 (b1 (fun x => decide (x < 0))) := rfl
theorem k46_17 : lkp pt46 17 = iP 18 (fIld 3) := rfl
theorem k46_18 : lkp pt46 18 = iP 20 (fK (.inl 8)) := rfl
theorem k46_20 : lkp pt46 20 = iB 23 26 (b2 (fun x y => decide (x ≤ y))) := rfl
theorem k46_23 : lkp pt46 23 = iP 25 (fK (.inl (-1000001))) := rfl
theorem k46_25 : lkp pt46 25 = iRet rI := rfl
theorem k46_26 : lkp pt46 26 = iP 28 (fAld 4) := rfl
theorem k46_28 : lkp pt46 28 = iP 29 (fIld 3) := rfl
theorem k46_29 : lkp pt46 29 = iCV 32 2 1 [(1, 47, 2), (2, 48, 2), (3, 47, 2), (4, 48, 2), (10, 48, 2)] := rfl
theorem k46_32 : lkp pt46 32 = iB 35 39 (b1 (fun x => decide (x = 0))) := rfl
theorem k46_35 : lkp pt46 35 = iP 36 (fK (.inl 1)) := rfl
theorem k46_36 : lkp pt46 36 = iP 40 fGo := rfl
theorem k46_39 : lkp pt46 39 = iP 40 (fK (.inl 0)) := rfl
theorem k46_40 : lkp pt46 40 = iRet rI := rfl
theorem b46_0 {G : AG} (hG : FIX G) (x0 : Nat) (x1 : Int32) (x2 : Int32) (x3 : Int32) (H : Hp) : G 46 0 [some (.inr (.inr x0)), some (.inl x1), some (.inl x2), some (.inl x3), none] [] H = (bif Nat.beq (H.1 x0).1 11 then (G 45 0 [some (.inr (.inr x0)), some (.inl x1), some (.inl x2), none] [] H).bind fun u1 => (asR u1.1).bind fun r2 => bif Nat.beq r2 0 then G 46 23 [some (.inr (.inr x0)), some (.inl x1), some (.inl x2), some (.inl x3), some (.inr (.inr r2))] [] u1.2 else bif decide ((x3 : Int32) < 0) then G 46 23 [some (.inr (.inr x0)), some (.inl x1), some (.inl x2), some (.inl x3), some (.inr (.inr r2))] [] u1.2 else bif decide ((x3 : Int32) ≤ (8 : Int32)) then (slk [(1, 47, 2), (2, 48, 2), (3, 47, 2), (4, 48, 2), (10, 48, 2)] (u1.2.1 r2).1).bind fun w4 => (G w4.1 0 (padA w4.2 [some (.inr (.inr r2)), some (.inl x3)]) [] u1.2).bind fun u3 => (asI u3.1).bind fun i5 => bif decide ((i5 : Int32) = 0) then G 46 40 [some (.inr (.inr x0)), some (.inl x1), some (.inl x2), some (.inl x3), some (.inr (.inr r2))] [.inl 0] u3.2 else G 46 40 [some (.inr (.inr x0)), some (.inl x1), some (.inl x2), some (.inl x3), some (.inr (.inr r2))] [.inl 1] u3.2 else G 46 23 [some (.inr (.inr x0)), some (.inl x1), some (.inl x2), some (.inl x3), some (.inr (.inr r2))] [] u1.2 else none) := by
  refine Eq.trans (e1 hG PT_46 k46_0 _ _ _) ?_
  show G 46 1 [some (.inr (.inr x0)), some (.inl x1), some (.inl x2), some (.inl x3), none] [.inr (.inr x0)] H = _
  refine Eq.trans (e1 hG PT_46 k46_1 _ _ _) ?_
  show G 46 2 [some (.inr (.inr x0)), some (.inl x1), some (.inl x2), some (.inl x3), none] [.inl x1, .inr (.inr x0)] H = _
  refine Eq.trans (e1 hG PT_46 k46_2 _ _ _) ?_
  show G 46 3 [some (.inr (.inr x0)), some (.inl x1), some (.inl x2), some (.inl x3), none] [.inl x2, .inl x1, .inr (.inr x0)] H = _
  refine Eq.trans (e1 hG PT_46 k46_3 _ _ _) ?_
  refine bfc ?_ ?_
  · refine bdc fun u1 => ?_
    refine bdc fun r2 => ?_
    show G 46 6 [some (.inr (.inr x0)), some (.inl x1), some (.inl x2), some (.inl x3), none] [.inr (.inr r2)] u1.2 = _
    refine Eq.trans (e1 hG PT_46 k46_6 _ _ _) ?_
    show G 46 8 [some (.inr (.inr x0)), some (.inl x1), some (.inl x2), some (.inl x3), some (.inr (.inr r2))] [] u1.2 = _
    refine Eq.trans (e1 hG PT_46 k46_8 _ _ _) ?_
    show G 46 10 [some (.inr (.inr x0)), some (.inl x1), some (.inl x2), some (.inl x3), some (.inr (.inr r2))] [.inr (.inr r2)] u1.2 = _
    refine Eq.trans (e1 hG PT_46 k46_10 _ _ _) ?_
    refine bfc ?_ ?_
    · rfl
    · show G 46 13 [some (.inr (.inr x0)), some (.inl x1), some (.inl x2), some (.inl x3), some (.inr (.inr r2))] [] u1.2 = _
      refine Eq.trans (e1 hG PT_46 k46_13 _ _ _) ?_
      show G 46 14 [some (.inr (.inr x0)), some (.inl x1), some (.inl x2), some (.inl x3), some (.inr (.inr r2))] [.inl x3] u1.2 = _
      refine Eq.trans (e1 hG PT_46 k46_14 _ _ _) ?_
      refine bfc ?_ ?_
      · rfl
      · show G 46 17 [some (.inr (.inr x0)), some (.inl x1), some (.inl x2), some (.inl x3), some (.inr (.inr r2))] [] u1.2 = _
        refine Eq.trans (e1 hG PT_46 k46_17 _ _ _) ?_
        show G 46 18 [some (.inr (.inr x0)), some (.inl x1), some (.inl x2), some (.inl x3), some (.inr (.inr r2))] [.inl x3] u1.2 = _
        refine Eq.trans (e1 hG PT_46 k46_18 _ _ _) ?_
        show G 46 20 [some (.inr (.inr x0)), some (.inl x1), some (.inl x2), some (.inl x3), some (.inr (.inr r2))] [.inl 8, .inl x3] u1.2 = _
        refine Eq.trans (e1 hG PT_46 k46_20 _ _ _) ?_
        refine bfc ?_ ?_
        · show G 46 26 [some (.inr (.inr x0)), some (.inl x1), some (.inl x2), some (.inl x3), some (.inr (.inr r2))] [] u1.2 = _
          refine Eq.trans (e1 hG PT_46 k46_26 _ _ _) ?_
          show G 46 28 [some (.inr (.inr x0)), some (.inl x1), some (.inl x2), some (.inl x3), some (.inr (.inr r2))] [.inr (.inr r2)] u1.2 = _
          refine Eq.trans (e1 hG PT_46 k46_28 _ _ _) ?_
          show G 46 29 [some (.inr (.inr x0)), some (.inl x1), some (.inl x2), some (.inl x3), some (.inr (.inr r2))] [.inl x3, .inr (.inr r2)] u1.2 = _
          refine Eq.trans (e1 hG PT_46 k46_29 _ _ _) ?_
          refine bdc fun w4 => ?_
          refine bdc fun u3 => ?_
          refine bdc fun i5 => ?_
          show G 46 32 [some (.inr (.inr x0)), some (.inl x1), some (.inl x2), some (.inl x3), some (.inr (.inr r2))] [.inl i5] u3.2 = _
          refine Eq.trans (e1 hG PT_46 k46_32 _ _ _) ?_
          refine bfc ?_ ?_
          · show G 46 39 [some (.inr (.inr x0)), some (.inl x1), some (.inl x2), some (.inl x3), some (.inr (.inr r2))] [] u3.2 = _
            refine Eq.trans (e1 hG PT_46 k46_39 _ _ _) ?_
            rfl
          · show G 46 35 [some (.inr (.inr x0)), some (.inl x1), some (.inl x2), some (.inl x3), some (.inr (.inr r2))] [] u3.2 = _
            refine Eq.trans (e1 hG PT_46 k46_35 _ _ _) ?_
            show G 46 36 [some (.inr (.inr x0)), some (.inl x1), some (.inl x2), some (.inl x3), some (.inr (.inr r2))] [.inl 1] u3.2 = _
            refine Eq.trans (e1 hG PT_46 k46_36 _ _ _) ?_
            rfl
        · rfl
  · rfl
theorem b46_23 {G : AG} (hG : FIX G) (x0 : Nat) (x1 : Int32) (x2 : Int32) (x3 : Int32) (x4 : Nat) (H : Hp) : G 46 23 [some (.inr (.inr x0)), some (.inl x1), some (.inl x2), some (.inl x3), some (.inr (.inr x4))] [] H = (some (some (.inl ((-1000001))), H)) := by
  refine Eq.trans (e1 hG PT_46 k46_23 _ _ _) ?_
  show G 46 25 [some (.inr (.inr x0)), some (.inl x1), some (.inl x2), some (.inl x3), some (.inr (.inr x4))] [.inl (-1000001)] H = _
  exact e1 hG PT_46 k46_25 _ _ _
theorem b46_40 {G : AG} (hG : FIX G) (x0 : Nat) (x1 : Int32) (x2 : Int32) (x3 : Int32) (x4 : Nat) (s0 : Int32) (H : Hp) : G 46 40 [some (.inr (.inr x0)), some (.inl x1), some (.inl x2), some (.inl x3), some (.inr (.inr x4))] [.inl s0] H = (some (some (.inl s0), H)) := by
  exact e1 hG PT_46 k46_40 _ _ _
-- StepsAhead$Counted.isOf(I)Z
theorem PT_47 : PT 47 = pt47 := rfl
theorem k47_0 : lkp pt47 0 = iP 1 (fIld 1) := rfl
theorem k47_1 : lkp pt47 1 = iP 2 (fK (.inl 2)) := rfl
theorem k47_2 : lkp pt47 2 = iB 5 13 (b2 (fun x y => decide (x = y))) := rfl
theorem k47_5 : lkp pt47 5 = iP 6 (fAld 0) := rfl
theorem k47_6 : lkp pt47 6 = iP 7 (fIld 1) := rfl
theorem k47_7 : lkp pt47 7 = iCV 10 2 1 [(1, 48, 2), (3, 48, 2)] := rfl
theorem k47_10 : lkp pt47 10 = iB 13 17 (b1 (fun x => decide (x = 0))) := rfl
theorem k47_13 : lkp pt47 13 = iP 14 (fK (.inl 1)) := rfl
theorem k47_14 : lkp pt47 14 = iP 18 fGo := rfl
theorem k47_17 : lkp pt47 17 = iP 18 (fK (.inl 0)) := rfl
theorem k47_18 : lkp pt47 18 = iRet rZ := rfl
theorem b47_0 {G : AG} (hG : FIX G) (x0 : Nat) (x1 : Int32) (H : Hp) : G 47 0 [some (.inr (.inr x0)), some (.inl x1)] [] H = (bif decide ((x1 : Int32) = (2 : Int32)) then G 47 13 [some (.inr (.inr x0)), some (.inl x1)] [] H else (slk [(1, 48, 2), (3, 48, 2)] (H.1 x0).1).bind fun w2 => (G w2.1 0 (padA w2.2 [some (.inr (.inr x0)), some (.inl x1)]) [] H).bind fun u1 => (asI u1.1).bind fun i3 => bif decide ((i3 : Int32) = 0) then G 47 18 [some (.inr (.inr x0)), some (.inl x1)] [.inl 0] u1.2 else G 47 13 [some (.inr (.inr x0)), some (.inl x1)] [] u1.2) := by
  refine Eq.trans (e1 hG PT_47 k47_0 _ _ _) ?_
  show G 47 1 [some (.inr (.inr x0)), some (.inl x1)] [.inl x1] H = _
  refine Eq.trans (e1 hG PT_47 k47_1 _ _ _) ?_
  show G 47 2 [some (.inr (.inr x0)), some (.inl x1)] [.inl 2, .inl x1] H = _
  refine Eq.trans (e1 hG PT_47 k47_2 _ _ _) ?_
  refine bfc ?_ ?_
  · rfl
  · show G 47 5 [some (.inr (.inr x0)), some (.inl x1)] [] H = _
    refine Eq.trans (e1 hG PT_47 k47_5 _ _ _) ?_
    show G 47 6 [some (.inr (.inr x0)), some (.inl x1)] [.inr (.inr x0)] H = _
    refine Eq.trans (e1 hG PT_47 k47_6 _ _ _) ?_
    show G 47 7 [some (.inr (.inr x0)), some (.inl x1)] [.inl x1, .inr (.inr x0)] H = _
    refine Eq.trans (e1 hG PT_47 k47_7 _ _ _) ?_
    refine bdc fun w2 => ?_
    refine bdc fun u1 => ?_
    refine bdc fun i3 => ?_
    show G 47 10 [some (.inr (.inr x0)), some (.inl x1)] [.inl i3] u1.2 = _
    refine Eq.trans (e1 hG PT_47 k47_10 _ _ _) ?_
    refine bfc ?_ ?_
    · show G 47 17 [some (.inr (.inr x0)), some (.inl x1)] [] u1.2 = _
      refine Eq.trans (e1 hG PT_47 k47_17 _ _ _) ?_
      rfl
    · rfl
theorem b47_13 {G : AG} (hG : FIX G) (x0 : Nat) (x1 : Int32) (H : Hp) : G 47 13 [some (.inr (.inr x0)), some (.inl x1)] [] H = (G 47 18 [some (.inr (.inr x0)), some (.inl x1)] [.inl 1] H) := by
  refine Eq.trans (e1 hG PT_47 k47_13 _ _ _) ?_
  show G 47 14 [some (.inr (.inr x0)), some (.inl x1)] [.inl 1] H = _
  refine Eq.trans (e1 hG PT_47 k47_14 _ _ _) ?_
  rfl
theorem b47_18 {G : AG} (hG : FIX G) (x0 : Nat) (x1 : Int32) (s0 : Int32) (H : Hp) : G 47 18 [some (.inr (.inr x0)), some (.inl x1)] [.inl s0] H = (retZ s0 H) := by
  exact e1 hG PT_47 k47_18 _ _ _
-- StepsAhead$Op.isOf(I)Z
theorem PT_48 : PT 48 = pt48 := rfl
theorem k48_0 : lkp pt48 0 = iP 1 (fIld 1) := rfl
theorem k48_1 : lkp pt48 1 = iB 4 12 (b1 (fun x => decide (x = 0))) := rfl
theorem k48_4 : lkp pt48 4 = iP 5 (fIld 1) := rfl
theorem k48_5 : lkp pt48 5 = iP 6 (fAld 0) := rfl
theorem k48_6 : lkp pt48 6 = iRI 9 (gtI 1) := rfl
theorem k48_9 : lkp pt48 9 = iB 12 16 (b2 (fun x y => decide (x ≠ y))) := rfl
theorem k48_12 : lkp pt48 12 = iP 13 (fK (.inl 1)) := rfl
theorem k48_13 : lkp pt48 13 = iP 17 fGo := rfl
theorem k48_16 : lkp pt48 16 = iP 17 (fK (.inl 0)) := rfl
theorem k48_17 : lkp pt48 17 = iRet rZ := rfl
theorem b48_0 {G : AG} (hG : FIX G) (x0 : Nat) (x1 : Int32) (H : Hp) : G 48 0 [some (.inr (.inr x0)), some (.inl x1)] [] H = (bif decide ((x1 : Int32) = 0) then G 48 12 [some (.inr (.inr x0)), some (.inl x1)] [] H else (hgI H x0 1).bind fun i1 => bif decide ((x1 : Int32) ≠ (i1 : Int32)) then G 48 17 [some (.inr (.inr x0)), some (.inl x1)] [.inl 0] H else G 48 12 [some (.inr (.inr x0)), some (.inl x1)] [] H) := by
  refine Eq.trans (e1 hG PT_48 k48_0 _ _ _) ?_
  show G 48 1 [some (.inr (.inr x0)), some (.inl x1)] [.inl x1] H = _
  refine Eq.trans (e1 hG PT_48 k48_1 _ _ _) ?_
  refine bfc ?_ ?_
  · rfl
  · show G 48 4 [some (.inr (.inr x0)), some (.inl x1)] [] H = _
    refine Eq.trans (e1 hG PT_48 k48_4 _ _ _) ?_
    show G 48 5 [some (.inr (.inr x0)), some (.inl x1)] [.inl x1] H = _
    refine Eq.trans (e1 hG PT_48 k48_5 _ _ _) ?_
    show G 48 6 [some (.inr (.inr x0)), some (.inl x1)] [.inr (.inr x0), .inl x1] H = _
    refine Eq.trans (e1 hG PT_48 k48_6 _ _ _) ?_
    refine bdc fun i1 => ?_
    show G 48 9 [some (.inr (.inr x0)), some (.inl x1)] [.inl i1, .inl x1] H = _
    refine Eq.trans (e1 hG PT_48 k48_9 _ _ _) ?_
    refine bfc ?_ ?_
    · show G 48 16 [some (.inr (.inr x0)), some (.inl x1)] [] H = _
      refine Eq.trans (e1 hG PT_48 k48_16 _ _ _) ?_
      rfl
    · rfl
theorem b48_12 {G : AG} (hG : FIX G) (x0 : Nat) (x1 : Int32) (H : Hp) : G 48 12 [some (.inr (.inr x0)), some (.inl x1)] [] H = (G 48 17 [some (.inr (.inr x0)), some (.inl x1)] [.inl 1] H) := by
  refine Eq.trans (e1 hG PT_48 k48_12 _ _ _) ?_
  show G 48 13 [some (.inr (.inr x0)), some (.inl x1)] [.inl 1] H = _
  refine Eq.trans (e1 hG PT_48 k48_13 _ _ _) ?_
  rfl
theorem b48_17 {G : AG} (hG : FIX G) (x0 : Nat) (x1 : Int32) (s0 : Int32) (H : Hp) : G 48 17 [some (.inr (.inr x0)), some (.inl x1)] [.inl s0] H = (retZ s0 H) := by
  exact e1 hG PT_48 k48_17 _ _ _
-- StepsAhead.told(III)I
theorem PT_49 : PT 49 = pt49 := rfl
theorem k49_0 : lkp pt49 0 = iP 1 (fAld 0) := rfl
theorem k49_1 : lkp pt49 1 = iP 2 (fIld 1) := rfl
theorem k49_2 : lkp pt49 2 = iP 3 (fIld 2) := rfl
theorem k49_3 : lkp pt49 3 = iCK 6 11 45 4 3 3 := rfl
theorem k49_6 : lkp pt49 6 = iP 8 (fAst 4) := rfl
theorem k49_8 : lkp pt49 8 = iP 10 (fAld 4) := rfl
theorem k49_10 : lkp pt49 10 = iB 13 23 bN := rfl
theorem k49_13 : lkp pt49 13 = iP 14 (fIld 3) := rfl
theorem k49_14 : lkp pt49 14 = iB 17 23 (b1 (fun x => decide (x < 0))) := rfl
theorem k49_17 : lkp pt49 17 = iP 18 (fIld 3) := rfl
theorem k49_18 : lkp pt49 18 = iP 20 (fK (.inl 6)) := rfl
theorem k49_20 : lkp pt49 20 = iB 23 26 (b2 (fun x y => decide (x < y))) := rfl
theorem k49_23 : lkp pt49 23 = iP 25 (fK (.inl (-1000001))) := rfl
theorem k49_25 : lkp pt49 25 = iRet rI := rfl
theorem k49_26 : lkp pt49 26 = iP 28 (fAld 4) := rfl
theorem k49_28 : lkp pt49 28 = iRI 31 (qInst [1, 3] [2, 4, 10]) := rfl
theorem k49_31 : lkp pt49 31 = iB 34 51 (b1 (fun x => decide (x = 0))) := rfl
theorem k49_34 : lkp pt49 34 = iP 36 (fAld 4) := rfl
theorem k49_36 : lkp pt49 36 = iRR 39 (qCast [1, 3]) := rfl
theorem k49_39 : lkp pt49 39 = iP 41 (fAst 5) := rfl
theorem k49_41 : lkp pt49 41 = iP 43 (fAld 5) := rfl
theorem k49_43 : lkp pt49 43 = iRR 46 (gtR 0) := rfl
theorem k49_46 : lkp pt49 46 = iP 47 (fIld 3) := rfl
theorem k49_47 : lkp pt49 47 = iRI 48 qAI := rfl
theorem k49_48 : lkp pt49 48 = iP 53 fGo := rfl
theorem k49_51 : lkp pt49 51 = iP 53 (fK (.inl (-1000005))) := rfl
theorem k49_53 : lkp pt49 53 = iRet rI := rfl
theorem b49_0 {G : AG} (hG : FIX G) (x0 : Nat) (x1 : Int32) (x2 : Int32) (x3 : Int32) (H : Hp) : G 49 0 [some (.inr (.inr x0)), some (.inl x1), some (.inl x2), some (.inl x3), none, none] [] H = (bif Nat.beq (H.1 x0).1 11 then (G 45 0 [some (.inr (.inr x0)), some (.inl x1), some (.inl x2), none] [] H).bind fun u1 => (asR u1.1).bind fun r2 => bif Nat.beq r2 0 then G 49 23 [some (.inr (.inr x0)), some (.inl x1), some (.inl x2), some (.inl x3), some (.inr (.inr r2)), none] [] u1.2 else bif decide ((x3 : Int32) < 0) then G 49 23 [some (.inr (.inr x0)), some (.inl x1), some (.inl x2), some (.inl x3), some (.inr (.inr r2)), none] [] u1.2 else bif decide ((x3 : Int32) < (6 : Int32)) then ((bif Nat.beq r2 0 then some (0 : Int32) else bif [1, 3].any (Nat.beq (u1.2.1 r2).1) then some 1 else bif [2, 4, 10].any (Nat.beq (u1.2.1 r2).1) then some 0 else none)).bind fun i3 => bif decide ((i3 : Int32) = 0) then G 49 53 [some (.inr (.inr x0)), some (.inl x1), some (.inl x2), some (.inl x3), some (.inr (.inr r2)), none] [.inl (-1000005)] u1.2 else ((bif Nat.beq r2 0 || [1, 3].any (Nat.beq (u1.2.1 r2).1) then some r2 else none)).bind fun r4 => (hgR u1.2 r4 0).bind fun r5 => (hAI u1.2 r5 x3).bind fun i6 => G 49 53 [some (.inr (.inr x0)), some (.inl x1), some (.inl x2), some (.inl x3), some (.inr (.inr r2)), some (.inr (.inr r4))] [.inl i6] u1.2 else G 49 23 [some (.inr (.inr x0)), some (.inl x1), some (.inl x2), some (.inl x3), some (.inr (.inr r2)), none] [] u1.2 else none) := by
  refine Eq.trans (e1 hG PT_49 k49_0 _ _ _) ?_
  show G 49 1 [some (.inr (.inr x0)), some (.inl x1), some (.inl x2), some (.inl x3), none, none] [.inr (.inr x0)] H = _
  refine Eq.trans (e1 hG PT_49 k49_1 _ _ _) ?_
  show G 49 2 [some (.inr (.inr x0)), some (.inl x1), some (.inl x2), some (.inl x3), none, none] [.inl x1, .inr (.inr x0)] H = _
  refine Eq.trans (e1 hG PT_49 k49_2 _ _ _) ?_
  show G 49 3 [some (.inr (.inr x0)), some (.inl x1), some (.inl x2), some (.inl x3), none, none] [.inl x2, .inl x1, .inr (.inr x0)] H = _
  refine Eq.trans (e1 hG PT_49 k49_3 _ _ _) ?_
  refine bfc ?_ ?_
  · refine bdc fun u1 => ?_
    refine bdc fun r2 => ?_
    show G 49 6 [some (.inr (.inr x0)), some (.inl x1), some (.inl x2), some (.inl x3), none, none] [.inr (.inr r2)] u1.2 = _
    refine Eq.trans (e1 hG PT_49 k49_6 _ _ _) ?_
    show G 49 8 [some (.inr (.inr x0)), some (.inl x1), some (.inl x2), some (.inl x3), some (.inr (.inr r2)), none] [] u1.2 = _
    refine Eq.trans (e1 hG PT_49 k49_8 _ _ _) ?_
    show G 49 10 [some (.inr (.inr x0)), some (.inl x1), some (.inl x2), some (.inl x3), some (.inr (.inr r2)), none] [.inr (.inr r2)] u1.2 = _
    refine Eq.trans (e1 hG PT_49 k49_10 _ _ _) ?_
    refine bfc ?_ ?_
    · rfl
    · show G 49 13 [some (.inr (.inr x0)), some (.inl x1), some (.inl x2), some (.inl x3), some (.inr (.inr r2)), none] [] u1.2 = _
      refine Eq.trans (e1 hG PT_49 k49_13 _ _ _) ?_
      show G 49 14 [some (.inr (.inr x0)), some (.inl x1), some (.inl x2), some (.inl x3), some (.inr (.inr r2)), none] [.inl x3] u1.2 = _
      refine Eq.trans (e1 hG PT_49 k49_14 _ _ _) ?_
      refine bfc ?_ ?_
      · rfl
      · show G 49 17 [some (.inr (.inr x0)), some (.inl x1), some (.inl x2), some (.inl x3), some (.inr (.inr r2)), none] [] u1.2 = _
        refine Eq.trans (e1 hG PT_49 k49_17 _ _ _) ?_
        show G 49 18 [some (.inr (.inr x0)), some (.inl x1), some (.inl x2), some (.inl x3), some (.inr (.inr r2)), none] [.inl x3] u1.2 = _
        refine Eq.trans (e1 hG PT_49 k49_18 _ _ _) ?_
        show G 49 20 [some (.inr (.inr x0)), some (.inl x1), some (.inl x2), some (.inl x3), some (.inr (.inr r2)), none] [.inl 6, .inl x3] u1.2 = _
        refine Eq.trans (e1 hG PT_49 k49_20 _ _ _) ?_
        refine bfc ?_ ?_
        · show G 49 26 [some (.inr (.inr x0)), some (.inl x1), some (.inl x2), some (.inl x3), some (.inr (.inr r2)), none] [] u1.2 = _
          refine Eq.trans (e1 hG PT_49 k49_26 _ _ _) ?_
          show G 49 28 [some (.inr (.inr x0)), some (.inl x1), some (.inl x2), some (.inl x3), some (.inr (.inr r2)), none] [.inr (.inr r2)] u1.2 = _
          refine Eq.trans (e1 hG PT_49 k49_28 _ _ _) ?_
          refine bdc fun i3 => ?_
          show G 49 31 [some (.inr (.inr x0)), some (.inl x1), some (.inl x2), some (.inl x3), some (.inr (.inr r2)), none] [.inl i3] u1.2 = _
          refine Eq.trans (e1 hG PT_49 k49_31 _ _ _) ?_
          refine bfc ?_ ?_
          · show G 49 51 [some (.inr (.inr x0)), some (.inl x1), some (.inl x2), some (.inl x3), some (.inr (.inr r2)), none] [] u1.2 = _
            refine Eq.trans (e1 hG PT_49 k49_51 _ _ _) ?_
            rfl
          · show G 49 34 [some (.inr (.inr x0)), some (.inl x1), some (.inl x2), some (.inl x3), some (.inr (.inr r2)), none] [] u1.2 = _
            refine Eq.trans (e1 hG PT_49 k49_34 _ _ _) ?_
            show G 49 36 [some (.inr (.inr x0)), some (.inl x1), some (.inl x2), some (.inl x3), some (.inr (.inr r2)), none] [.inr (.inr r2)] u1.2 = _
            refine Eq.trans (e1 hG PT_49 k49_36 _ _ _) ?_
            refine bdc fun r4 => ?_
            show G 49 39 [some (.inr (.inr x0)), some (.inl x1), some (.inl x2), some (.inl x3), some (.inr (.inr r2)), none] [.inr (.inr r4)] u1.2 = _
            refine Eq.trans (e1 hG PT_49 k49_39 _ _ _) ?_
            show G 49 41 [some (.inr (.inr x0)), some (.inl x1), some (.inl x2), some (.inl x3), some (.inr (.inr r2)), some (.inr (.inr r4))] [] u1.2 = _
            refine Eq.trans (e1 hG PT_49 k49_41 _ _ _) ?_
            show G 49 43 [some (.inr (.inr x0)), some (.inl x1), some (.inl x2), some (.inl x3), some (.inr (.inr r2)), some (.inr (.inr r4))] [.inr (.inr r4)] u1.2 = _
            refine Eq.trans (e1 hG PT_49 k49_43 _ _ _) ?_
            refine bdc fun r5 => ?_
            show G 49 46 [some (.inr (.inr x0)), some (.inl x1), some (.inl x2), some (.inl x3), some (.inr (.inr r2)), some (.inr (.inr r4))] [.inr (.inr r5)] u1.2 = _
            refine Eq.trans (e1 hG PT_49 k49_46 _ _ _) ?_
            show G 49 47 [some (.inr (.inr x0)), some (.inl x1), some (.inl x2), some (.inl x3), some (.inr (.inr r2)), some (.inr (.inr r4))] [.inl x3, .inr (.inr r5)] u1.2 = _
            refine Eq.trans (e1 hG PT_49 k49_47 _ _ _) ?_
            refine bdc fun i6 => ?_
            show G 49 48 [some (.inr (.inr x0)), some (.inl x1), some (.inl x2), some (.inl x3), some (.inr (.inr r2)), some (.inr (.inr r4))] [.inl i6] u1.2 = _
            refine Eq.trans (e1 hG PT_49 k49_48 _ _ _) ?_
            rfl
        · rfl
  · rfl
theorem b49_23 {G : AG} (hG : FIX G) (x0 : Nat) (x1 : Int32) (x2 : Int32) (x3 : Int32) (x4 : Nat) (H : Hp) : G 49 23 [some (.inr (.inr x0)), some (.inl x1), some (.inl x2), some (.inl x3), some (.inr (.inr x4)), none] [] H = (some (some (.inl ((-1000001))), H)) := by
  refine Eq.trans (e1 hG PT_49 k49_23 _ _ _) ?_
  show G 49 25 [some (.inr (.inr x0)), some (.inl x1), some (.inl x2), some (.inl x3), some (.inr (.inr x4)), none] [.inl (-1000001)] H = _
  exact e1 hG PT_49 k49_25 _ _ _
theorem b49_53 {G : AG} (hG : FIX G) (x0 : Nat) (x1 : Int32) (x2 : Int32) (x3 : Int32) (x4 : Nat) (o5 : Option AV) (s0 : Int32) (H : Hp) : G 49 53 [some (.inr (.inr x0)), some (.inl x1), some (.inl x2), some (.inl x3), some (.inr (.inr x4)), o5] [.inl s0] H = (some (some (.inl s0), H)) := by
  exact e1 hG PT_49 k49_53 _ _ _
-- StepsAhead.ask(III)I
theorem PT_50 : PT 50 = pt50 := rfl
theorem k50_0 : lkp pt50 0 = iP 1 (fAld 0) := rfl
theorem k50_1 : lkp pt50 1 = iP 2 (fIld 1) := rfl
theorem k50_2 : lkp pt50 2 = iP 3 (fIld 2) := rfl
theorem k50_3 : lkp pt50 3 = iCK 6 11 45 4 3 3 := rfl
theorem k50_6 : lkp pt50 6 = iP 8 (fAst 4) := rfl
theorem k50_8 : lkp pt50 8 = iP 10 (fAld 4) := rfl
theorem k50_10 : lkp pt50 10 = iB 13 22 bN := rfl
theorem k50_13 : lkp pt50 13 = iP 14 (fIld 3) := rfl
theorem k50_14 : lkp pt50 14 = iB 17 22 (b1 (fun x => decide (x < 0))) := rfl
theorem k50_17 : lkp pt50 17 = iP 18 (fIld 3) := rfl
theorem k50_18 : lkp pt50 18 = iP 19 (fK (.inl 1)) := rfl
theorem k50_19 : lkp pt50 19 = iB 22 25 (b2 (fun x y => decide (x ≤ y))) := rfl
theorem k50_22 : lkp pt50 22 = iP 24 (fK (.inl (-1000001))) := rfl
theorem k50_24 : lkp pt50 24 = iRet rI := rfl
theorem k50_25 : lkp pt50 25 = iP 26 (fAld 0) := rfl
theorem k50_26 : lkp pt50 26 = iRR 29 (gtR 47) := rfl
theorem k50_29 : lkp pt50 29 = iCK 32 9 51 1 1 0 := rfl
theorem k50_32 : lkp pt50 32 = iP 33 (fIld 3) := rfl
theorem k50_33 : lkp pt50 33 = iB 36 48 (b1 (fun x => decide (x ≠ 0))) := rfl
theorem k50_36 : lkp pt50 36 = iP 38 (fAld 4) := rfl
theorem k50_38 : lkp pt50 38 = iP 39 (fAld 0) := rfl
theorem k50_39 : lkp pt50 39 = iRR 42 (gtR 47) := rfl
theorem k50_42 : lkp pt50 42 = iCV 45 2 1 [(1, 52, 2), (2, 57, 2), (3, 54, 2), (4, 57, 2), (10, 56, 2)] := rfl
theorem k50_45 : lkp pt50 45 = iP 57 fGo := rfl
theorem k50_48 : lkp pt50 48 = iP 50 (fAld 4) := rfl
theorem k50_50 : lkp pt50 50 = iP 51 (fAld 0) := rfl
theorem k50_51 : lkp pt50 51 = iRR 54 (gtR 47) := rfl
theorem k50_54 : lkp pt50 54 = iCV 57 2 1 [(1, 58, 2), (2, 59, 2), (3, 60, 2), (4, 62, 2), (10, 62, 2)] := rfl
theorem k50_57 : lkp pt50 57 = iRet rI := rfl
theorem b50_0 {G : AG} (hG : FIX G) (x0 : Nat) (x1 : Int32) (x2 : Int32) (x3 : Int32) (H : Hp) : G 50 0 [some (.inr (.inr x0)), some (.inl x1), some (.inl x2), some (.inl x3), none] [] H = (bif Nat.beq (H.1 x0).1 11 then (G 45 0 [some (.inr (.inr x0)), some (.inl x1), some (.inl x2), none] [] H).bind fun u1 => (asR u1.1).bind fun r2 => bif Nat.beq r2 0 then G 50 22 [some (.inr (.inr x0)), some (.inl x1), some (.inl x2), some (.inl x3), some (.inr (.inr r2))] [] u1.2 else bif decide ((x3 : Int32) < 0) then G 50 22 [some (.inr (.inr x0)), some (.inl x1), some (.inl x2), some (.inl x3), some (.inr (.inr r2))] [] u1.2 else bif decide ((x3 : Int32) ≤ (1 : Int32)) then (hgR u1.2 x0 47).bind fun r3 => bif Nat.beq (u1.2.1 r3).1 9 then (G 51 0 [some (.inr (.inr r3))] [] u1.2).bind fun u4 => (asV u4.1).bind fun _ => bif decide ((x3 : Int32) ≠ 0) then (hgR u4.2 x0 47).bind fun r5 => (slk [(1, 58, 2), (2, 59, 2), (3, 60, 2), (4, 62, 2), (10, 62, 2)] (u4.2.1 r2).1).bind fun w7 => (G w7.1 0 (padA w7.2 [some (.inr (.inr r2)), some (.inr (.inr r5))]) [] u4.2).bind fun u6 => (asI u6.1).bind fun i8 => G 50 57 [some (.inr (.inr x0)), some (.inl x1), some (.inl x2), some (.inl x3), some (.inr (.inr r2))] [.inl i8] u6.2 else (hgR u4.2 x0 47).bind fun r9 => (slk [(1, 52, 2), (2, 57, 2), (3, 54, 2), (4, 57, 2), (10, 56, 2)] (u4.2.1 r2).1).bind fun w11 => (G w11.1 0 (padA w11.2 [some (.inr (.inr r2)), some (.inr (.inr r9))]) [] u4.2).bind fun u10 => (asI u10.1).bind fun i12 => G 50 57 [some (.inr (.inr x0)), some (.inl x1), some (.inl x2), some (.inl x3), some (.inr (.inr r2))] [.inl i12] u10.2 else none else G 50 22 [some (.inr (.inr x0)), some (.inl x1), some (.inl x2), some (.inl x3), some (.inr (.inr r2))] [] u1.2 else none) := by
  refine Eq.trans (e1 hG PT_50 k50_0 _ _ _) ?_
  show G 50 1 [some (.inr (.inr x0)), some (.inl x1), some (.inl x2), some (.inl x3), none] [.inr (.inr x0)] H = _
  refine Eq.trans (e1 hG PT_50 k50_1 _ _ _) ?_
  show G 50 2 [some (.inr (.inr x0)), some (.inl x1), some (.inl x2), some (.inl x3), none] [.inl x1, .inr (.inr x0)] H = _
  refine Eq.trans (e1 hG PT_50 k50_2 _ _ _) ?_
  show G 50 3 [some (.inr (.inr x0)), some (.inl x1), some (.inl x2), some (.inl x3), none] [.inl x2, .inl x1, .inr (.inr x0)] H = _
  refine Eq.trans (e1 hG PT_50 k50_3 _ _ _) ?_
  refine bfc ?_ ?_
  · refine bdc fun u1 => ?_
    refine bdc fun r2 => ?_
    show G 50 6 [some (.inr (.inr x0)), some (.inl x1), some (.inl x2), some (.inl x3), none] [.inr (.inr r2)] u1.2 = _
    refine Eq.trans (e1 hG PT_50 k50_6 _ _ _) ?_
    show G 50 8 [some (.inr (.inr x0)), some (.inl x1), some (.inl x2), some (.inl x3), some (.inr (.inr r2))] [] u1.2 = _
    refine Eq.trans (e1 hG PT_50 k50_8 _ _ _) ?_
    show G 50 10 [some (.inr (.inr x0)), some (.inl x1), some (.inl x2), some (.inl x3), some (.inr (.inr r2))] [.inr (.inr r2)] u1.2 = _
    refine Eq.trans (e1 hG PT_50 k50_10 _ _ _) ?_
    refine bfc ?_ ?_
    · rfl
    · show G 50 13 [some (.inr (.inr x0)), some (.inl x1), some (.inl x2), some (.inl x3), some (.inr (.inr r2))] [] u1.2 = _
      refine Eq.trans (e1 hG PT_50 k50_13 _ _ _) ?_
      show G 50 14 [some (.inr (.inr x0)), some (.inl x1), some (.inl x2), some (.inl x3), some (.inr (.inr r2))] [.inl x3] u1.2 = _
      refine Eq.trans (e1 hG PT_50 k50_14 _ _ _) ?_
      refine bfc ?_ ?_
      · rfl
      · show G 50 17 [some (.inr (.inr x0)), some (.inl x1), some (.inl x2), some (.inl x3), some (.inr (.inr r2))] [] u1.2 = _
        refine Eq.trans (e1 hG PT_50 k50_17 _ _ _) ?_
        show G 50 18 [some (.inr (.inr x0)), some (.inl x1), some (.inl x2), some (.inl x3), some (.inr (.inr r2))] [.inl x3] u1.2 = _
        refine Eq.trans (e1 hG PT_50 k50_18 _ _ _) ?_
        show G 50 19 [some (.inr (.inr x0)), some (.inl x1), some (.inl x2), some (.inl x3), some (.inr (.inr r2))] [.inl 1, .inl x3] u1.2 = _
        refine Eq.trans (e1 hG PT_50 k50_19 _ _ _) ?_
        refine bfc ?_ ?_
        · show G 50 25 [some (.inr (.inr x0)), some (.inl x1), some (.inl x2), some (.inl x3), some (.inr (.inr r2))] [] u1.2 = _
          refine Eq.trans (e1 hG PT_50 k50_25 _ _ _) ?_
          show G 50 26 [some (.inr (.inr x0)), some (.inl x1), some (.inl x2), some (.inl x3), some (.inr (.inr r2))] [.inr (.inr x0)] u1.2 = _
          refine Eq.trans (e1 hG PT_50 k50_26 _ _ _) ?_
          refine bdc fun r3 => ?_
          show G 50 29 [some (.inr (.inr x0)), some (.inl x1), some (.inl x2), some (.inl x3), some (.inr (.inr r2))] [.inr (.inr r3)] u1.2 = _
          refine Eq.trans (e1 hG PT_50 k50_29 _ _ _) ?_
          refine bfc ?_ ?_
          · refine bdc fun u4 => ?_
            refine bdc fun _ => ?_
            show G 50 32 [some (.inr (.inr x0)), some (.inl x1), some (.inl x2), some (.inl x3), some (.inr (.inr r2))] [] u4.2 = _
            refine Eq.trans (e1 hG PT_50 k50_32 _ _ _) ?_
            show G 50 33 [some (.inr (.inr x0)), some (.inl x1), some (.inl x2), some (.inl x3), some (.inr (.inr r2))] [.inl x3] u4.2 = _
            refine Eq.trans (e1 hG PT_50 k50_33 _ _ _) ?_
            refine bfc ?_ ?_
            · show G 50 48 [some (.inr (.inr x0)), some (.inl x1), some (.inl x2), some (.inl x3), some (.inr (.inr r2))] [] u4.2 = _
              refine Eq.trans (e1 hG PT_50 k50_48 _ _ _) ?_
              show G 50 50 [some (.inr (.inr x0)), some (.inl x1), some (.inl x2), some (.inl x3), some (.inr (.inr r2))] [.inr (.inr r2)] u4.2 = _
              refine Eq.trans (e1 hG PT_50 k50_50 _ _ _) ?_
              show G 50 51 [some (.inr (.inr x0)), some (.inl x1), some (.inl x2), some (.inl x3), some (.inr (.inr r2))] [.inr (.inr x0), .inr (.inr r2)] u4.2 = _
              refine Eq.trans (e1 hG PT_50 k50_51 _ _ _) ?_
              refine bdc fun r5 => ?_
              show G 50 54 [some (.inr (.inr x0)), some (.inl x1), some (.inl x2), some (.inl x3), some (.inr (.inr r2))] [.inr (.inr r5), .inr (.inr r2)] u4.2 = _
              refine Eq.trans (e1 hG PT_50 k50_54 _ _ _) ?_
              refine bdc fun w7 => ?_
              refine bdc fun u6 => ?_
              refine bdc fun i8 => ?_
              rfl
            · show G 50 36 [some (.inr (.inr x0)), some (.inl x1), some (.inl x2), some (.inl x3), some (.inr (.inr r2))] [] u4.2 = _
              refine Eq.trans (e1 hG PT_50 k50_36 _ _ _) ?_
              show G 50 38 [some (.inr (.inr x0)), some (.inl x1), some (.inl x2), some (.inl x3), some (.inr (.inr r2))] [.inr (.inr r2)] u4.2 = _
              refine Eq.trans (e1 hG PT_50 k50_38 _ _ _) ?_
              show G 50 39 [some (.inr (.inr x0)), some (.inl x1), some (.inl x2), some (.inl x3), some (.inr (.inr r2))] [.inr (.inr x0), .inr (.inr r2)] u4.2 = _
              refine Eq.trans (e1 hG PT_50 k50_39 _ _ _) ?_
              refine bdc fun r9 => ?_
              show G 50 42 [some (.inr (.inr x0)), some (.inl x1), some (.inl x2), some (.inl x3), some (.inr (.inr r2))] [.inr (.inr r9), .inr (.inr r2)] u4.2 = _
              refine Eq.trans (e1 hG PT_50 k50_42 _ _ _) ?_
              refine bdc fun w11 => ?_
              refine bdc fun u10 => ?_
              refine bdc fun i12 => ?_
              show G 50 45 [some (.inr (.inr x0)), some (.inl x1), some (.inl x2), some (.inl x3), some (.inr (.inr r2))] [.inl i12] u10.2 = _
              refine Eq.trans (e1 hG PT_50 k50_45 _ _ _) ?_
              rfl
          · rfl
        · rfl
  · rfl
theorem b50_22 {G : AG} (hG : FIX G) (x0 : Nat) (x1 : Int32) (x2 : Int32) (x3 : Int32) (x4 : Nat) (H : Hp) : G 50 22 [some (.inr (.inr x0)), some (.inl x1), some (.inl x2), some (.inl x3), some (.inr (.inr x4))] [] H = (some (some (.inl ((-1000001))), H)) := by
  refine Eq.trans (e1 hG PT_50 k50_22 _ _ _) ?_
  show G 50 24 [some (.inr (.inr x0)), some (.inl x1), some (.inl x2), some (.inl x3), some (.inr (.inr x4))] [.inl (-1000001)] H = _
  exact e1 hG PT_50 k50_24 _ _ _
theorem b50_57 {G : AG} (hG : FIX G) (x0 : Nat) (x1 : Int32) (x2 : Int32) (x3 : Int32) (x4 : Nat) (s0 : Int32) (H : Hp) : G 50 57 [some (.inr (.inr x0)), some (.inl x1), some (.inl x2), some (.inl x3), some (.inr (.inr x4))] [.inl s0] H = (some (some (.inl s0), H)) := by
  exact e1 hG PT_50 k50_57 _ _ _
-- StepsAhead$Trace.empty()V
theorem PT_51 : PT 51 = pt51 := rfl
theorem k51_0 : lkp pt51 0 = iP 1 (fAld 0) := rfl
theorem k51_1 : lkp pt51 1 = iP 2 (fK (.inl 0)) := rfl
theorem k51_2 : lkp pt51 2 = iW 5 (ptI 41) := rfl
theorem k51_5 : lkp pt51 5 = iRet rV := rfl
theorem b51_0 {G : AG} (hG : FIX G) (x0 : Nat) (H : Hp) : G 51 0 [some (.inr (.inr x0))] [] H = ((hpI H x0 41 0).bind fun H1 => some (none, H1)) := by
  refine Eq.trans (e1 hG PT_51 k51_0 _ _ _) ?_
  show G 51 1 [some (.inr (.inr x0))] [.inr (.inr x0)] H = _
  refine Eq.trans (e1 hG PT_51 k51_1 _ _ _) ?_
  show G 51 2 [some (.inr (.inr x0))] [.inl 0, .inr (.inr x0)] H = _
  refine Eq.trans (e1 hG PT_51 k51_2 _ _ _) ?_
  refine bdc fun H1 => ?_
  show G 51 5 [some (.inr (.inr x0))] [] H1 = _
  exact e1 hG PT_51 k51_5 _ _ _
-- StepsAhead$Call.sizeAsked(LStepsAhead$Trace;)I
theorem PT_52 : PT 52 = pt52 := rfl
theorem k52_0 : lkp pt52 0 = iP 1 (fAld 1) := rfl
theorem k52_1 : lkp pt52 1 = iP 3 (fK (.inl 12)) := rfl
theorem k52_3 : lkp pt52 3 = iCK 6 9 53 2 2 0 := rfl
theorem k52_6 : lkp pt52 6 = iP 7 (fAld 0) := rfl
theorem k52_7 : lkp pt52 7 = iP 8 (fAld 1) := rfl
theorem k52_8 : lkp pt52 8 = iCK 11 1 54 2 2 1 := rfl
theorem k52_11 : lkp pt52 11 = iP 12 (fAld 0) := rfl
theorem k52_12 : lkp pt52 12 = iRR 15 (gtR 5) := rfl
theorem k52_15 : lkp pt52 15 = iC 18 55 6 1 1 := rfl
theorem k52_18 : lkp pt52 18 = iP 19 (f2I (fun x y => x + y)) := rfl
theorem k52_19 : lkp pt52 19 = iRet rI := rfl
theorem b52_0 {G : AG} (hG : FIX G) (x0 : Nat) (x1 : Nat) (H : Hp) : G 52 0 [some (.inr (.inr x0)), some (.inr (.inr x1))] [] H = (bif Nat.beq (H.1 x1).1 9 then (G 53 0 [some (.inr (.inr x1)), some (.inl 12)] [] H).bind fun u1 => (asV u1.1).bind fun _ => bif Nat.beq (u1.2.1 x0).1 1 then (G 54 0 [some (.inr (.inr x0)), some (.inr (.inr x1))] [] u1.2).bind fun u2 => (asI u2.1).bind fun i3 => (hgR u2.2 x0 5).bind fun r4 => (G 55 0 [some (.inr (.inr r4)), none, none, none, none, none] [] u2.2).bind fun u5 => (asI u5.1).bind fun i6 => some (some (.inl ((i3 + i6))), u5.2) else none else none) := by
  refine Eq.trans (e1 hG PT_52 k52_0 _ _ _) ?_
  show G 52 1 [some (.inr (.inr x0)), some (.inr (.inr x1))] [.inr (.inr x1)] H = _
  refine Eq.trans (e1 hG PT_52 k52_1 _ _ _) ?_
  show G 52 3 [some (.inr (.inr x0)), some (.inr (.inr x1))] [.inl 12, .inr (.inr x1)] H = _
  refine Eq.trans (e1 hG PT_52 k52_3 _ _ _) ?_
  refine bfc ?_ ?_
  · refine bdc fun u1 => ?_
    refine bdc fun _ => ?_
    show G 52 6 [some (.inr (.inr x0)), some (.inr (.inr x1))] [] u1.2 = _
    refine Eq.trans (e1 hG PT_52 k52_6 _ _ _) ?_
    show G 52 7 [some (.inr (.inr x0)), some (.inr (.inr x1))] [.inr (.inr x0)] u1.2 = _
    refine Eq.trans (e1 hG PT_52 k52_7 _ _ _) ?_
    show G 52 8 [some (.inr (.inr x0)), some (.inr (.inr x1))] [.inr (.inr x1), .inr (.inr x0)] u1.2 = _
    refine Eq.trans (e1 hG PT_52 k52_8 _ _ _) ?_
    refine bfc ?_ ?_
    · refine bdc fun u2 => ?_
      refine bdc fun i3 => ?_
      show G 52 11 [some (.inr (.inr x0)), some (.inr (.inr x1))] [.inl i3] u2.2 = _
      refine Eq.trans (e1 hG PT_52 k52_11 _ _ _) ?_
      show G 52 12 [some (.inr (.inr x0)), some (.inr (.inr x1))] [.inr (.inr x0), .inl i3] u2.2 = _
      refine Eq.trans (e1 hG PT_52 k52_12 _ _ _) ?_
      refine bdc fun r4 => ?_
      show G 52 15 [some (.inr (.inr x0)), some (.inr (.inr x1))] [.inr (.inr r4), .inl i3] u2.2 = _
      refine Eq.trans (e1 hG PT_52 k52_15 _ _ _) ?_
      refine bdc fun u5 => ?_
      refine bdc fun i6 => ?_
      show G 52 18 [some (.inr (.inr x0)), some (.inr (.inr x1))] [.inl i6, .inl i3] u5.2 = _
      refine Eq.trans (e1 hG PT_52 k52_18 _ _ _) ?_
      show G 52 19 [some (.inr (.inr x0)), some (.inr (.inr x1))] [.inl (i3 + i6)] u5.2 = _
      exact e1 hG PT_52 k52_19 _ _ _
    · rfl
  · rfl
-- StepsAhead$Trace.leave(I)V
theorem PT_53 : PT 53 = pt53 := rfl
theorem k53_0 : lkp pt53 0 = iP 1 (fAld 0) := rfl
theorem k53_1 : lkp pt53 1 = iRI 4 (gtI 41) := rfl
theorem k53_4 : lkp pt53 4 = iP 5 (fAld 0) := rfl
theorem k53_5 : lkp pt53 5 = iRR 8 (gtR 40) := rfl
theorem k53_8 : lkp pt53 8 = iRI 9 qLen := rfl
theorem k53_9 : lkp pt53 9 = iB 12 32 (b2 (fun x y => decide (y ≤ x))) := rfl
theorem k53_12 : lkp pt53 12 = iP 13 (fAld 0) := rfl
theorem k53_13 : lkp pt53 13 = iRR 16 (gtR 40) := rfl
theorem k53_16 : lkp pt53 16 = iP 17 (fAld 0) := rfl
theorem k53_17 : lkp pt53 17 = iRI 20 (gtI 41) := rfl
theorem k53_20 : lkp pt53 20 = iP 21 (fIld 1) := rfl
theorem k53_21 : lkp pt53 21 = iW 22 wAI := rfl
theorem k53_22 : lkp pt53 22 = iP 23 (fAld 0) := rfl
theorem k53_23 : lkp pt53 23 = iP 24 fDup := rfl
theorem k53_24 : lkp pt53 24 = iRI 27 (gtI 41) := rfl
theorem k53_27 : lkp pt53 27 = iP 28 (fK (.inl 1)) := rfl
theorem k53_28 : lkp pt53 28 = iP 29 (f2I (fun x y => x + y)) := rfl
theorem k53_29 : lkp pt53 29 = iW 32 (ptI 41) := rfl
theorem k53_32 : lkp pt53 32 = iRet rV := rfl
theorem b53_0 {G : AG} (hG : FIX G) (x0 : Nat) (x1 : Int32) (H : Hp) : G 53 0 [some (.inr (.inr x0)), some (.inl x1)] [] H = ((hgI H x0 41).bind fun i1 => (hgR H x0 40).bind fun r2 => (hLen H r2).bind fun i3 => bif decide ((i3 : Int32) ≤ (i1 : Int32)) then G 53 32 [some (.inr (.inr x0)), some (.inl x1)] [] H else (hgR H x0 40).bind fun r4 => (hgI H x0 41).bind fun i5 => (hSI H r4 i5 x1).bind fun H6 => (hgI H6 x0 41).bind fun i7 => (hpI H6 x0 41 ((i7 + 1))).bind fun H8 => G 53 32 [some (.inr (.inr x0)), some (.inl x1)] [] H8) := by
  refine Eq.trans (e1 hG PT_53 k53_0 _ _ _) ?_
  show G 53 1 [some (.inr (.inr x0)), some (.inl x1)] [.inr (.inr x0)] H = _
  refine Eq.trans (e1 hG PT_53 k53_1 _ _ _) ?_
  refine bdc fun i1 => ?_
  show G 53 4 [some (.inr (.inr x0)), some (.inl x1)] [.inl i1] H = _
  refine Eq.trans (e1 hG PT_53 k53_4 _ _ _) ?_
  show G 53 5 [some (.inr (.inr x0)), some (.inl x1)] [.inr (.inr x0), .inl i1] H = _
  refine Eq.trans (e1 hG PT_53 k53_5 _ _ _) ?_
  refine bdc fun r2 => ?_
  show G 53 8 [some (.inr (.inr x0)), some (.inl x1)] [.inr (.inr r2), .inl i1] H = _
  refine Eq.trans (e1 hG PT_53 k53_8 _ _ _) ?_
  refine bdc fun i3 => ?_
  show G 53 9 [some (.inr (.inr x0)), some (.inl x1)] [.inl i3, .inl i1] H = _
  refine Eq.trans (e1 hG PT_53 k53_9 _ _ _) ?_
  refine bfc ?_ ?_
  · rfl
  · show G 53 12 [some (.inr (.inr x0)), some (.inl x1)] [] H = _
    refine Eq.trans (e1 hG PT_53 k53_12 _ _ _) ?_
    show G 53 13 [some (.inr (.inr x0)), some (.inl x1)] [.inr (.inr x0)] H = _
    refine Eq.trans (e1 hG PT_53 k53_13 _ _ _) ?_
    refine bdc fun r4 => ?_
    show G 53 16 [some (.inr (.inr x0)), some (.inl x1)] [.inr (.inr r4)] H = _
    refine Eq.trans (e1 hG PT_53 k53_16 _ _ _) ?_
    show G 53 17 [some (.inr (.inr x0)), some (.inl x1)] [.inr (.inr x0), .inr (.inr r4)] H = _
    refine Eq.trans (e1 hG PT_53 k53_17 _ _ _) ?_
    refine bdc fun i5 => ?_
    show G 53 20 [some (.inr (.inr x0)), some (.inl x1)] [.inl i5, .inr (.inr r4)] H = _
    refine Eq.trans (e1 hG PT_53 k53_20 _ _ _) ?_
    show G 53 21 [some (.inr (.inr x0)), some (.inl x1)] [.inl x1, .inl i5, .inr (.inr r4)] H = _
    refine Eq.trans (e1 hG PT_53 k53_21 _ _ _) ?_
    refine bdc fun H6 => ?_
    show G 53 22 [some (.inr (.inr x0)), some (.inl x1)] [] H6 = _
    refine Eq.trans (e1 hG PT_53 k53_22 _ _ _) ?_
    show G 53 23 [some (.inr (.inr x0)), some (.inl x1)] [.inr (.inr x0)] H6 = _
    refine Eq.trans (e1 hG PT_53 k53_23 _ _ _) ?_
    show G 53 24 [some (.inr (.inr x0)), some (.inl x1)] [.inr (.inr x0), .inr (.inr x0)] H6 = _
    refine Eq.trans (e1 hG PT_53 k53_24 _ _ _) ?_
    refine bdc fun i7 => ?_
    show G 53 27 [some (.inr (.inr x0)), some (.inl x1)] [.inl i7, .inr (.inr x0)] H6 = _
    refine Eq.trans (e1 hG PT_53 k53_27 _ _ _) ?_
    show G 53 28 [some (.inr (.inr x0)), some (.inl x1)] [.inl 1, .inl i7, .inr (.inr x0)] H6 = _
    refine Eq.trans (e1 hG PT_53 k53_28 _ _ _) ?_
    show G 53 29 [some (.inr (.inr x0)), some (.inl x1)] [.inl (i7 + 1), .inr (.inr x0)] H6 = _
    refine Eq.trans (e1 hG PT_53 k53_29 _ _ _) ?_
    refine bdc fun H8 => ?_
    rfl
theorem b53_32 {G : AG} (hG : FIX G) (x0 : Nat) (x1 : Int32) (H : Hp) : G 53 32 [some (.inr (.inr x0)), some (.inl x1)] [] H = (some (none, H)) := by
  exact e1 hG PT_53 k53_32 _ _ _
-- StepsAhead$Counted.sizeAsked(LStepsAhead$Trace;)I
theorem PT_54 : PT 54 = pt54 := rfl
theorem k54_0 : lkp pt54 0 = iP 1 (fAld 1) := rfl
theorem k54_1 : lkp pt54 1 = iP 3 (fK (.inl 11)) := rfl
theorem k54_3 : lkp pt54 3 = iCK 6 9 53 2 2 0 := rfl
theorem k54_6 : lkp pt54 6 = iP 7 (fAld 0) := rfl
theorem k54_7 : lkp pt54 7 = iP 8 (fAld 1) := rfl
theorem k54_8 : lkp pt54 8 = iCV 11 2 1 [(1, 57, 2), (3, 57, 2)] := rfl
theorem k54_11 : lkp pt54 11 = iP 12 (fAld 0) := rfl
theorem k54_12 : lkp pt54 12 = iRR 15 (gtR 0) := rfl
theorem k54_15 : lkp pt54 15 = iC 18 55 6 1 1 := rfl
theorem k54_18 : lkp pt54 18 = iP 19 (f2I (fun x y => x + y)) := rfl
theorem k54_19 : lkp pt54 19 = iRet rI := rfl
theorem b54_0 {G : AG} (hG : FIX G) (x0 : Nat) (x1 : Nat) (H : Hp) : G 54 0 [some (.inr (.inr x0)), some (.inr (.inr x1))] [] H = (bif Nat.beq (H.1 x1).1 9 then (G 53 0 [some (.inr (.inr x1)), some (.inl 11)] [] H).bind fun u1 => (asV u1.1).bind fun _ => (slk [(1, 57, 2), (3, 57, 2)] (u1.2.1 x0).1).bind fun w3 => (G w3.1 0 (padA w3.2 [some (.inr (.inr x0)), some (.inr (.inr x1))]) [] u1.2).bind fun u2 => (asI u2.1).bind fun i4 => (hgR u2.2 x0 0).bind fun r5 => (G 55 0 [some (.inr (.inr r5)), none, none, none, none, none] [] u2.2).bind fun u6 => (asI u6.1).bind fun i7 => some (some (.inl ((i4 + i7))), u6.2) else none) := by
  refine Eq.trans (e1 hG PT_54 k54_0 _ _ _) ?_
  show G 54 1 [some (.inr (.inr x0)), some (.inr (.inr x1))] [.inr (.inr x1)] H = _
  refine Eq.trans (e1 hG PT_54 k54_1 _ _ _) ?_
  show G 54 3 [some (.inr (.inr x0)), some (.inr (.inr x1))] [.inl 11, .inr (.inr x1)] H = _
  refine Eq.trans (e1 hG PT_54 k54_3 _ _ _) ?_
  refine bfc ?_ ?_
  · refine bdc fun u1 => ?_
    refine bdc fun _ => ?_
    show G 54 6 [some (.inr (.inr x0)), some (.inr (.inr x1))] [] u1.2 = _
    refine Eq.trans (e1 hG PT_54 k54_6 _ _ _) ?_
    show G 54 7 [some (.inr (.inr x0)), some (.inr (.inr x1))] [.inr (.inr x0)] u1.2 = _
    refine Eq.trans (e1 hG PT_54 k54_7 _ _ _) ?_
    show G 54 8 [some (.inr (.inr x0)), some (.inr (.inr x1))] [.inr (.inr x1), .inr (.inr x0)] u1.2 = _
    refine Eq.trans (e1 hG PT_54 k54_8 _ _ _) ?_
    refine bdc fun w3 => ?_
    refine bdc fun u2 => ?_
    refine bdc fun i4 => ?_
    show G 54 11 [some (.inr (.inr x0)), some (.inr (.inr x1))] [.inl i4] u2.2 = _
    refine Eq.trans (e1 hG PT_54 k54_11 _ _ _) ?_
    show G 54 12 [some (.inr (.inr x0)), some (.inr (.inr x1))] [.inr (.inr x0), .inl i4] u2.2 = _
    refine Eq.trans (e1 hG PT_54 k54_12 _ _ _) ?_
    refine bdc fun r5 => ?_
    show G 54 15 [some (.inr (.inr x0)), some (.inr (.inr x1))] [.inr (.inr r5), .inl i4] u2.2 = _
    refine Eq.trans (e1 hG PT_54 k54_15 _ _ _) ?_
    refine bdc fun u6 => ?_
    refine bdc fun i7 => ?_
    show G 54 18 [some (.inr (.inr x0)), some (.inr (.inr x1))] [.inl i7, .inl i4] u6.2 = _
    refine Eq.trans (e1 hG PT_54 k54_18 _ _ _) ?_
    show G 54 19 [some (.inr (.inr x0)), some (.inr (.inr x1))] [.inl (i4 + i7)] u6.2 = _
    exact e1 hG PT_54 k54_19 _ _ _
  · rfl
-- StepsAhead$Counted.notZero([I)I
theorem PT_55 : PT 55 = pt55 := rfl
theorem k55_0 : lkp pt55 0 = iP 1 (fK (.inl 0)) := rfl
theorem k55_1 : lkp pt55 1 = iP 2 (fIst 1) := rfl
theorem k55_2 : lkp pt55 2 = iP 3 (fAld 0) := rfl
theorem k55_3 : lkp pt55 3 = iP 4 (fAst 2) := rfl
theorem k55_4 : lkp pt55 4 = iP 5 (fAld 2) := rfl
theorem k55_5 : lkp pt55 5 = iRI 6 qLen := rfl
theorem k55_6 : lkp pt55 6 = iP 7 (fIst 3) := rfl
theorem k55_7 : lkp pt55 7 = iP 8 (fK (.inl 0)) := rfl
theorem k55_8 : lkp pt55 8 = iP 10 (fIst 4) := rfl
theorem k55_10 : lkp pt55 10 = iP 12 (fIld 4) := rfl
theorem k55_12 : lkp pt55 12 = iP 13 (fIld 3) := rfl
theorem k55_13 : lkp pt55 13 = iB 16 36 (b2 (fun x y => decide (y ≤ x))) := rfl
theorem k55_16 : lkp pt55 16 = iP 17 (fAld 2) := rfl
theorem k55_17 : lkp pt55 17 = iP 19 (fIld 4) := rfl
theorem k55_19 : lkp pt55 19 = iRI 20 qAI := rfl
theorem k55_20 : lkp pt55 20 = iP 22 (fIst 5) := rfl
theorem k55_22 : lkp pt55 22 = iP 24 (fIld 5) := rfl
theorem k55_24 : lkp pt55 24 = iB 27 30 (b1 (fun x => decide (x = 0))) := rfl
theorem k55_27 : lkp pt55 27 = iP 30 (fInc 1 1) := rfl
theorem k55_30 : lkp pt55 30 = iP 33 (fInc 4 1) := rfl
theorem k55_33 : lkp pt55 33 = iP 10 fGo := rfl
theorem k55_36 : lkp pt55 36 = iP 37 (fIld 1) := rfl
theorem k55_37 : lkp pt55 37 = iRet rI := rfl
theorem b55_0 {G : AG} (hG : FIX G) (x0 : Nat) (H : Hp) : G 55 0 [some (.inr (.inr x0)), none, none, none, none, none] [] H = ((hLen H x0).bind fun i1 => G 55 10 [some (.inr (.inr x0)), some (.inl 0), some (.inr (.inr x0)), some (.inl i1), some (.inl 0), none] [] H) := by
  refine Eq.trans (e1 hG PT_55 k55_0 _ _ _) ?_
  show G 55 1 [some (.inr (.inr x0)), none, none, none, none, none] [.inl 0] H = _
  refine Eq.trans (e1 hG PT_55 k55_1 _ _ _) ?_
  show G 55 2 [some (.inr (.inr x0)), some (.inl 0), none, none, none, none] [] H = _
  refine Eq.trans (e1 hG PT_55 k55_2 _ _ _) ?_
  show G 55 3 [some (.inr (.inr x0)), some (.inl 0), none, none, none, none] [.inr (.inr x0)] H = _
  refine Eq.trans (e1 hG PT_55 k55_3 _ _ _) ?_
  show G 55 4 [some (.inr (.inr x0)), some (.inl 0), some (.inr (.inr x0)), none, none, none] [] H = _
  refine Eq.trans (e1 hG PT_55 k55_4 _ _ _) ?_
  show G 55 5 [some (.inr (.inr x0)), some (.inl 0), some (.inr (.inr x0)), none, none, none] [.inr (.inr x0)] H = _
  refine Eq.trans (e1 hG PT_55 k55_5 _ _ _) ?_
  refine bdc fun i1 => ?_
  show G 55 6 [some (.inr (.inr x0)), some (.inl 0), some (.inr (.inr x0)), none, none, none] [.inl i1] H = _
  refine Eq.trans (e1 hG PT_55 k55_6 _ _ _) ?_
  show G 55 7 [some (.inr (.inr x0)), some (.inl 0), some (.inr (.inr x0)), some (.inl i1), none, none] [] H = _
  refine Eq.trans (e1 hG PT_55 k55_7 _ _ _) ?_
  show G 55 8 [some (.inr (.inr x0)), some (.inl 0), some (.inr (.inr x0)), some (.inl i1), none, none] [.inl 0] H = _
  refine Eq.trans (e1 hG PT_55 k55_8 _ _ _) ?_
  rfl
theorem b55_10 {G : AG} (hG : FIX G) (x0 : Nat) (x1 : Int32) (x2 : Nat) (x3 : Int32) (x4 : Int32) (o5 : Option AV) (H : Hp) : G 55 10 [some (.inr (.inr x0)), some (.inl x1), some (.inr (.inr x2)), some (.inl x3), some (.inl x4), o5] [] H = (bif decide ((x3 : Int32) ≤ (x4 : Int32)) then some (some (.inl x1), H) else (hAI H x2 x4).bind fun i1 => bif decide ((i1 : Int32) = 0) then G 55 30 [some (.inr (.inr x0)), some (.inl x1), some (.inr (.inr x2)), some (.inl x3), some (.inl x4), some (.inl i1)] [] H else G 55 30 [some (.inr (.inr x0)), some (.inl (x1 + 1)), some (.inr (.inr x2)), some (.inl x3), some (.inl x4), some (.inl i1)] [] H) := by
  refine Eq.trans (e1 hG PT_55 k55_10 _ _ _) ?_
  show G 55 12 [some (.inr (.inr x0)), some (.inl x1), some (.inr (.inr x2)), some (.inl x3), some (.inl x4), o5] [.inl x4] H = _
  refine Eq.trans (e1 hG PT_55 k55_12 _ _ _) ?_
  show G 55 13 [some (.inr (.inr x0)), some (.inl x1), some (.inr (.inr x2)), some (.inl x3), some (.inl x4), o5] [.inl x3, .inl x4] H = _
  refine Eq.trans (e1 hG PT_55 k55_13 _ _ _) ?_
  refine bfc ?_ ?_
  · show G 55 36 [some (.inr (.inr x0)), some (.inl x1), some (.inr (.inr x2)), some (.inl x3), some (.inl x4), o5] [] H = _
    refine Eq.trans (e1 hG PT_55 k55_36 _ _ _) ?_
    show G 55 37 [some (.inr (.inr x0)), some (.inl x1), some (.inr (.inr x2)), some (.inl x3), some (.inl x4), o5] [.inl x1] H = _
    exact e1 hG PT_55 k55_37 _ _ _
  · show G 55 16 [some (.inr (.inr x0)), some (.inl x1), some (.inr (.inr x2)), some (.inl x3), some (.inl x4), o5] [] H = _
    refine Eq.trans (e1 hG PT_55 k55_16 _ _ _) ?_
    show G 55 17 [some (.inr (.inr x0)), some (.inl x1), some (.inr (.inr x2)), some (.inl x3), some (.inl x4), o5] [.inr (.inr x2)] H = _
    refine Eq.trans (e1 hG PT_55 k55_17 _ _ _) ?_
    show G 55 19 [some (.inr (.inr x0)), some (.inl x1), some (.inr (.inr x2)), some (.inl x3), some (.inl x4), o5] [.inl x4, .inr (.inr x2)] H = _
    refine Eq.trans (e1 hG PT_55 k55_19 _ _ _) ?_
    refine bdc fun i1 => ?_
    show G 55 20 [some (.inr (.inr x0)), some (.inl x1), some (.inr (.inr x2)), some (.inl x3), some (.inl x4), o5] [.inl i1] H = _
    refine Eq.trans (e1 hG PT_55 k55_20 _ _ _) ?_
    show G 55 22 [some (.inr (.inr x0)), some (.inl x1), some (.inr (.inr x2)), some (.inl x3), some (.inl x4), some (.inl i1)] [] H = _
    refine Eq.trans (e1 hG PT_55 k55_22 _ _ _) ?_
    show G 55 24 [some (.inr (.inr x0)), some (.inl x1), some (.inr (.inr x2)), some (.inl x3), some (.inl x4), some (.inl i1)] [.inl i1] H = _
    refine Eq.trans (e1 hG PT_55 k55_24 _ _ _) ?_
    refine bfc ?_ ?_
    · rfl
    · show G 55 27 [some (.inr (.inr x0)), some (.inl x1), some (.inr (.inr x2)), some (.inl x3), some (.inl x4), some (.inl i1)] [] H = _
      refine Eq.trans (e1 hG PT_55 k55_27 _ _ _) ?_
      rfl
theorem b55_30 {G : AG} (hG : FIX G) (x0 : Nat) (x1 : Int32) (x2 : Nat) (x3 : Int32) (x4 : Int32) (x5 : Int32) (H : Hp) : G 55 30 [some (.inr (.inr x0)), some (.inl x1), some (.inr (.inr x2)), some (.inl x3), some (.inl x4), some (.inl x5)] [] H = (G 55 10 [some (.inr (.inr x0)), some (.inl x1), some (.inr (.inr x2)), some (.inl x3), some (.inl (x4 + 1)), some (.inl x5)] [] H) := by
  refine Eq.trans (e1 hG PT_55 k55_30 _ _ _) ?_
  show G 55 33 [some (.inr (.inr x0)), some (.inl x1), some (.inr (.inr x2)), some (.inl x3), some (.inl (x4 + 1)), some (.inl x5)] [] H = _
  refine Eq.trans (e1 hG PT_55 k55_33 _ _ _) ?_
  rfl
-- StepsAhead$Work.sizeAsked(LStepsAhead$Trace;)I
theorem PT_56 : PT 56 = pt56 := rfl
theorem k56_0 : lkp pt56 0 = iP 1 (fAld 1) := rfl
theorem k56_1 : lkp pt56 1 = iP 3 (fK (.inl 13)) := rfl
theorem k56_3 : lkp pt56 3 = iCK 6 9 53 2 2 0 := rfl
theorem k56_6 : lkp pt56 6 = iP 7 (fAld 0) := rfl
theorem k56_7 : lkp pt56 7 = iRI 10 (gtI 42) := rfl
theorem k56_10 : lkp pt56 10 = iRet rI := rfl
theorem b56_0 {G : AG} (hG : FIX G) (x0 : Nat) (x1 : Nat) (H : Hp) : G 56 0 [some (.inr (.inr x0)), some (.inr (.inr x1))] [] H = (bif Nat.beq (H.1 x1).1 9 then (G 53 0 [some (.inr (.inr x1)), some (.inl 13)] [] H).bind fun u1 => (asV u1.1).bind fun _ => (hgI u1.2 x0 42).bind fun i2 => some (some (.inl i2), u1.2) else none) := by
  refine Eq.trans (e1 hG PT_56 k56_0 _ _ _) ?_
  show G 56 1 [some (.inr (.inr x0)), some (.inr (.inr x1))] [.inr (.inr x1)] H = _
  refine Eq.trans (e1 hG PT_56 k56_1 _ _ _) ?_
  show G 56 3 [some (.inr (.inr x0)), some (.inr (.inr x1))] [.inl 13, .inr (.inr x1)] H = _
  refine Eq.trans (e1 hG PT_56 k56_3 _ _ _) ?_
  refine bfc ?_ ?_
  · refine bdc fun u1 => ?_
    refine bdc fun _ => ?_
    show G 56 6 [some (.inr (.inr x0)), some (.inr (.inr x1))] [] u1.2 = _
    refine Eq.trans (e1 hG PT_56 k56_6 _ _ _) ?_
    show G 56 7 [some (.inr (.inr x0)), some (.inr (.inr x1))] [.inr (.inr x0)] u1.2 = _
    refine Eq.trans (e1 hG PT_56 k56_7 _ _ _) ?_
    refine bdc fun i2 => ?_
    show G 56 10 [some (.inr (.inr x0)), some (.inr (.inr x1))] [.inl i2] u1.2 = _
    exact e1 hG PT_56 k56_10 _ _ _
  · rfl
-- StepsAhead$Op.sizeAsked(LStepsAhead$Trace;)I
theorem PT_57 : PT 57 = pt57 := rfl
theorem k57_0 : lkp pt57 0 = iP 1 (fAld 1) := rfl
theorem k57_1 : lkp pt57 1 = iP 3 (fK (.inl 10)) := rfl
theorem k57_3 : lkp pt57 3 = iCK 6 9 53 2 2 0 := rfl
theorem k57_6 : lkp pt57 6 = iP 7 (fK (.inl 1)) := rfl
theorem k57_7 : lkp pt57 7 = iRet rI := rfl
theorem b57_0 {G : AG} (hG : FIX G) (x0 : Nat) (x1 : Nat) (H : Hp) : G 57 0 [some (.inr (.inr x0)), some (.inr (.inr x1))] [] H = (bif Nat.beq (H.1 x1).1 9 then (G 53 0 [some (.inr (.inr x1)), some (.inl 10)] [] H).bind fun u1 => (asV u1.1).bind fun _ => some (some (.inl 1), u1.2) else none) := by
  refine Eq.trans (e1 hG PT_57 k57_0 _ _ _) ?_
  show G 57 1 [some (.inr (.inr x0)), some (.inr (.inr x1))] [.inr (.inr x1)] H = _
  refine Eq.trans (e1 hG PT_57 k57_1 _ _ _) ?_
  show G 57 3 [some (.inr (.inr x0)), some (.inr (.inr x1))] [.inl 10, .inr (.inr x1)] H = _
  refine Eq.trans (e1 hG PT_57 k57_3 _ _ _) ?_
  refine bfc ?_ ?_
  · refine bdc fun u1 => ?_
    refine bdc fun _ => ?_
    show G 57 6 [some (.inr (.inr x0)), some (.inr (.inr x1))] [] u1.2 = _
    refine Eq.trans (e1 hG PT_57 k57_6 _ _ _) ?_
    show G 57 7 [some (.inr (.inr x0)), some (.inr (.inr x1))] [.inl 1] u1.2 = _
    exact e1 hG PT_57 k57_7 _ _ _
  · rfl
-- StepsAhead$Call.markAsked(LStepsAhead$Trace;)I
theorem PT_58 : PT 58 = pt58 := rfl
theorem k58_0 : lkp pt58 0 = iP 1 (fAld 1) := rfl
theorem k58_1 : lkp pt58 1 = iP 3 (fK (.inl 23)) := rfl
theorem k58_3 : lkp pt58 3 = iCK 6 9 53 2 2 0 := rfl
theorem k58_6 : lkp pt58 6 = iP 7 (fAld 0) := rfl
theorem k58_7 : lkp pt58 7 = iRR 10 (gtR 6) := rfl
theorem k58_10 : lkp pt58 10 = iRI 13 (gtI 21) := rfl
theorem k58_13 : lkp pt58 13 = iRet rI := rfl
theorem b58_0 {G : AG} (hG : FIX G) (x0 : Nat) (x1 : Nat) (H : Hp) : G 58 0 [some (.inr (.inr x0)), some (.inr (.inr x1))] [] H = (bif Nat.beq (H.1 x1).1 9 then (G 53 0 [some (.inr (.inr x1)), some (.inl 23)] [] H).bind fun u1 => (asV u1.1).bind fun _ => (hgR u1.2 x0 6).bind fun r2 => (hgI u1.2 r2 21).bind fun i3 => some (some (.inl i3), u1.2) else none) := by
  refine Eq.trans (e1 hG PT_58 k58_0 _ _ _) ?_
  show G 58 1 [some (.inr (.inr x0)), some (.inr (.inr x1))] [.inr (.inr x1)] H = _
  refine Eq.trans (e1 hG PT_58 k58_1 _ _ _) ?_
  show G 58 3 [some (.inr (.inr x0)), some (.inr (.inr x1))] [.inl 23, .inr (.inr x1)] H = _
  refine Eq.trans (e1 hG PT_58 k58_3 _ _ _) ?_
  refine bfc ?_ ?_
  · refine bdc fun u1 => ?_
    refine bdc fun _ => ?_
    show G 58 6 [some (.inr (.inr x0)), some (.inr (.inr x1))] [] u1.2 = _
    refine Eq.trans (e1 hG PT_58 k58_6 _ _ _) ?_
    show G 58 7 [some (.inr (.inr x0)), some (.inr (.inr x1))] [.inr (.inr x0)] u1.2 = _
    refine Eq.trans (e1 hG PT_58 k58_7 _ _ _) ?_
    refine bdc fun r2 => ?_
    show G 58 10 [some (.inr (.inr x0)), some (.inr (.inr x1))] [.inr (.inr r2)] u1.2 = _
    refine Eq.trans (e1 hG PT_58 k58_10 _ _ _) ?_
    refine bdc fun i3 => ?_
    show G 58 13 [some (.inr (.inr x0)), some (.inr (.inr x1))] [.inl i3] u1.2 = _
    exact e1 hG PT_58 k58_13 _ _ _
  · rfl
-- StepsAhead$Either.markAsked(LStepsAhead$Trace;)I
theorem PT_59 : PT 59 = pt59 := rfl
theorem k59_0 : lkp pt59 0 = iP 1 (fAld 1) := rfl
theorem k59_1 : lkp pt59 1 = iP 3 (fK (.inl 24)) := rfl
theorem k59_3 : lkp pt59 3 = iCK 6 9 53 2 2 0 := rfl
theorem k59_6 : lkp pt59 6 = iP 7 (fK (.inl 2)) := rfl
theorem k59_7 : lkp pt59 7 = iP 8 (fAld 0) := rfl
theorem k59_8 : lkp pt59 8 = iP 9 (fAld 1) := rfl
theorem k59_9 : lkp pt59 9 = iCK 12 2 62 2 2 1 := rfl
theorem k59_12 : lkp pt59 12 = iP 13 (f2I (fun x y => x * y)) := rfl
theorem k59_13 : lkp pt59 13 = iRet rI := rfl
theorem b59_0 {G : AG} (hG : FIX G) (x0 : Nat) (x1 : Nat) (H : Hp) : G 59 0 [some (.inr (.inr x0)), some (.inr (.inr x1))] [] H = (bif Nat.beq (H.1 x1).1 9 then (G 53 0 [some (.inr (.inr x1)), some (.inl 24)] [] H).bind fun u1 => (asV u1.1).bind fun _ => bif Nat.beq (u1.2.1 x0).1 2 then (G 62 0 [some (.inr (.inr x0)), some (.inr (.inr x1))] [] u1.2).bind fun u2 => (asI u2.1).bind fun i3 => some (some (.inl ((2 * i3))), u2.2) else none else none) := by
  refine Eq.trans (e1 hG PT_59 k59_0 _ _ _) ?_
  show G 59 1 [some (.inr (.inr x0)), some (.inr (.inr x1))] [.inr (.inr x1)] H = _
  refine Eq.trans (e1 hG PT_59 k59_1 _ _ _) ?_
  show G 59 3 [some (.inr (.inr x0)), some (.inr (.inr x1))] [.inl 24, .inr (.inr x1)] H = _
  refine Eq.trans (e1 hG PT_59 k59_3 _ _ _) ?_
  refine bfc ?_ ?_
  · refine bdc fun u1 => ?_
    refine bdc fun _ => ?_
    show G 59 6 [some (.inr (.inr x0)), some (.inr (.inr x1))] [] u1.2 = _
    refine Eq.trans (e1 hG PT_59 k59_6 _ _ _) ?_
    show G 59 7 [some (.inr (.inr x0)), some (.inr (.inr x1))] [.inl 2] u1.2 = _
    refine Eq.trans (e1 hG PT_59 k59_7 _ _ _) ?_
    show G 59 8 [some (.inr (.inr x0)), some (.inr (.inr x1))] [.inr (.inr x0), .inl 2] u1.2 = _
    refine Eq.trans (e1 hG PT_59 k59_8 _ _ _) ?_
    show G 59 9 [some (.inr (.inr x0)), some (.inr (.inr x1))] [.inr (.inr x1), .inr (.inr x0), .inl 2] u1.2 = _
    refine Eq.trans (e1 hG PT_59 k59_9 _ _ _) ?_
    refine bfc ?_ ?_
    · refine bdc fun u2 => ?_
      refine bdc fun i3 => ?_
      show G 59 12 [some (.inr (.inr x0)), some (.inr (.inr x1))] [.inl i3, .inl 2] u2.2 = _
      refine Eq.trans (e1 hG PT_59 k59_12 _ _ _) ?_
      show G 59 13 [some (.inr (.inr x0)), some (.inr (.inr x1))] [.inl (2 * i3)] u2.2 = _
      exact e1 hG PT_59 k59_13 _ _ _
    · rfl
  · rfl
-- StepsAhead$Loop.markAsked(LStepsAhead$Trace;)I
theorem PT_60 : PT 60 = pt60 := rfl
theorem k60_0 : lkp pt60 0 = iP 1 (fAld 1) := rfl
theorem k60_1 : lkp pt60 1 = iP 3 (fK (.inl 22)) := rfl
theorem k60_3 : lkp pt60 3 = iCK 6 9 53 2 2 0 := rfl
theorem k60_6 : lkp pt60 6 = iP 7 (fAld 0) := rfl
theorem k60_7 : lkp pt60 7 = iP 8 (fAld 1) := rfl
theorem k60_8 : lkp pt60 8 = iCK 11 3 61 2 2 1 := rfl
theorem k60_11 : lkp pt60 11 = iP 12 (fAld 0) := rfl
theorem k60_12 : lkp pt60 12 = iRI 15 (gtI 3) := rfl
theorem k60_15 : lkp pt60 15 = iP 16 (f2I (fun x y => x + y)) := rfl
theorem k60_16 : lkp pt60 16 = iP 17 (fK (.inl 1)) := rfl
theorem k60_17 : lkp pt60 17 = iP 18 (f2I (fun x y => x + y)) := rfl
theorem k60_18 : lkp pt60 18 = iRet rI := rfl
theorem b60_0 {G : AG} (hG : FIX G) (x0 : Nat) (x1 : Nat) (H : Hp) : G 60 0 [some (.inr (.inr x0)), some (.inr (.inr x1))] [] H = (bif Nat.beq (H.1 x1).1 9 then (G 53 0 [some (.inr (.inr x1)), some (.inl 22)] [] H).bind fun u1 => (asV u1.1).bind fun _ => bif Nat.beq (u1.2.1 x0).1 3 then (G 61 0 [some (.inr (.inr x0)), some (.inr (.inr x1))] [] u1.2).bind fun u2 => (asI u2.1).bind fun i3 => (hgI u2.2 x0 3).bind fun i4 => some (some (.inl (((i3 + i4) + 1))), u2.2) else none else none) := by
  refine Eq.trans (e1 hG PT_60 k60_0 _ _ _) ?_
  show G 60 1 [some (.inr (.inr x0)), some (.inr (.inr x1))] [.inr (.inr x1)] H = _
  refine Eq.trans (e1 hG PT_60 k60_1 _ _ _) ?_
  show G 60 3 [some (.inr (.inr x0)), some (.inr (.inr x1))] [.inl 22, .inr (.inr x1)] H = _
  refine Eq.trans (e1 hG PT_60 k60_3 _ _ _) ?_
  refine bfc ?_ ?_
  · refine bdc fun u1 => ?_
    refine bdc fun _ => ?_
    show G 60 6 [some (.inr (.inr x0)), some (.inr (.inr x1))] [] u1.2 = _
    refine Eq.trans (e1 hG PT_60 k60_6 _ _ _) ?_
    show G 60 7 [some (.inr (.inr x0)), some (.inr (.inr x1))] [.inr (.inr x0)] u1.2 = _
    refine Eq.trans (e1 hG PT_60 k60_7 _ _ _) ?_
    show G 60 8 [some (.inr (.inr x0)), some (.inr (.inr x1))] [.inr (.inr x1), .inr (.inr x0)] u1.2 = _
    refine Eq.trans (e1 hG PT_60 k60_8 _ _ _) ?_
    refine bfc ?_ ?_
    · refine bdc fun u2 => ?_
      refine bdc fun i3 => ?_
      show G 60 11 [some (.inr (.inr x0)), some (.inr (.inr x1))] [.inl i3] u2.2 = _
      refine Eq.trans (e1 hG PT_60 k60_11 _ _ _) ?_
      show G 60 12 [some (.inr (.inr x0)), some (.inr (.inr x1))] [.inr (.inr x0), .inl i3] u2.2 = _
      refine Eq.trans (e1 hG PT_60 k60_12 _ _ _) ?_
      refine bdc fun i4 => ?_
      show G 60 15 [some (.inr (.inr x0)), some (.inr (.inr x1))] [.inl i4, .inl i3] u2.2 = _
      refine Eq.trans (e1 hG PT_60 k60_15 _ _ _) ?_
      show G 60 16 [some (.inr (.inr x0)), some (.inr (.inr x1))] [.inl (i3 + i4)] u2.2 = _
      refine Eq.trans (e1 hG PT_60 k60_16 _ _ _) ?_
      show G 60 17 [some (.inr (.inr x0)), some (.inr (.inr x1))] [.inl 1, .inl (i3 + i4)] u2.2 = _
      refine Eq.trans (e1 hG PT_60 k60_17 _ _ _) ?_
      show G 60 18 [some (.inr (.inr x0)), some (.inr (.inr x1))] [.inl ((i3 + i4) + 1)] u2.2 = _
      exact e1 hG PT_60 k60_18 _ _ _
    · rfl
  · rfl
-- StepsAhead$Counted.markAsked(LStepsAhead$Trace;)I
theorem PT_61 : PT 61 = pt61 := rfl
theorem k61_0 : lkp pt61 0 = iP 1 (fAld 1) := rfl
theorem k61_1 : lkp pt61 1 = iP 3 (fK (.inl 21)) := rfl
theorem k61_3 : lkp pt61 3 = iCK 6 9 53 2 2 0 := rfl
theorem k61_6 : lkp pt61 6 = iP 7 (fAld 0) := rfl
theorem k61_7 : lkp pt61 7 = iP 8 (fAld 1) := rfl
theorem k61_8 : lkp pt61 8 = iCV 11 2 1 [(1, 62, 2), (3, 62, 2)] := rfl
theorem k61_11 : lkp pt61 11 = iP 12 (fAld 0) := rfl
theorem k61_12 : lkp pt61 12 = iP 13 (fAld 1) := rfl
theorem k61_13 : lkp pt61 13 = iCV 16 2 1 [(1, 52, 2), (3, 54, 2)] := rfl
theorem k61_16 : lkp pt61 16 = iP 17 (f2I (fun x y => x + y)) := rfl
theorem k61_17 : lkp pt61 17 = iRet rI := rfl
theorem b61_0 {G : AG} (hG : FIX G) (x0 : Nat) (x1 : Nat) (H : Hp) : G 61 0 [some (.inr (.inr x0)), some (.inr (.inr x1))] [] H = (bif Nat.beq (H.1 x1).1 9 then (G 53 0 [some (.inr (.inr x1)), some (.inl 21)] [] H).bind fun u1 => (asV u1.1).bind fun _ => (slk [(1, 62, 2), (3, 62, 2)] (u1.2.1 x0).1).bind fun w3 => (G w3.1 0 (padA w3.2 [some (.inr (.inr x0)), some (.inr (.inr x1))]) [] u1.2).bind fun u2 => (asI u2.1).bind fun i4 => (slk [(1, 52, 2), (3, 54, 2)] (u2.2.1 x0).1).bind fun w6 => (G w6.1 0 (padA w6.2 [some (.inr (.inr x0)), some (.inr (.inr x1))]) [] u2.2).bind fun u5 => (asI u5.1).bind fun i7 => some (some (.inl ((i4 + i7))), u5.2) else none) := by
  refine Eq.trans (e1 hG PT_61 k61_0 _ _ _) ?_
  show G 61 1 [some (.inr (.inr x0)), some (.inr (.inr x1))] [.inr (.inr x1)] H = _
  refine Eq.trans (e1 hG PT_61 k61_1 _ _ _) ?_
  show G 61 3 [some (.inr (.inr x0)), some (.inr (.inr x1))] [.inl 21, .inr (.inr x1)] H = _
  refine Eq.trans (e1 hG PT_61 k61_3 _ _ _) ?_
  refine bfc ?_ ?_
  · refine bdc fun u1 => ?_
    refine bdc fun _ => ?_
    show G 61 6 [some (.inr (.inr x0)), some (.inr (.inr x1))] [] u1.2 = _
    refine Eq.trans (e1 hG PT_61 k61_6 _ _ _) ?_
    show G 61 7 [some (.inr (.inr x0)), some (.inr (.inr x1))] [.inr (.inr x0)] u1.2 = _
    refine Eq.trans (e1 hG PT_61 k61_7 _ _ _) ?_
    show G 61 8 [some (.inr (.inr x0)), some (.inr (.inr x1))] [.inr (.inr x1), .inr (.inr x0)] u1.2 = _
    refine Eq.trans (e1 hG PT_61 k61_8 _ _ _) ?_
    refine bdc fun w3 => ?_
    refine bdc fun u2 => ?_
    refine bdc fun i4 => ?_
    show G 61 11 [some (.inr (.inr x0)), some (.inr (.inr x1))] [.inl i4] u2.2 = _
    refine Eq.trans (e1 hG PT_61 k61_11 _ _ _) ?_
    show G 61 12 [some (.inr (.inr x0)), some (.inr (.inr x1))] [.inr (.inr x0), .inl i4] u2.2 = _
    refine Eq.trans (e1 hG PT_61 k61_12 _ _ _) ?_
    show G 61 13 [some (.inr (.inr x0)), some (.inr (.inr x1))] [.inr (.inr x1), .inr (.inr x0), .inl i4] u2.2 = _
    refine Eq.trans (e1 hG PT_61 k61_13 _ _ _) ?_
    refine bdc fun w6 => ?_
    refine bdc fun u5 => ?_
    refine bdc fun i7 => ?_
    show G 61 16 [some (.inr (.inr x0)), some (.inr (.inr x1))] [.inl i7, .inl i4] u5.2 = _
    refine Eq.trans (e1 hG PT_61 k61_16 _ _ _) ?_
    show G 61 17 [some (.inr (.inr x0)), some (.inr (.inr x1))] [.inl (i4 + i7)] u5.2 = _
    exact e1 hG PT_61 k61_17 _ _ _
  · rfl
-- StepsAhead$Op.markAsked(LStepsAhead$Trace;)I
theorem PT_62 : PT 62 = pt62 := rfl
theorem k62_0 : lkp pt62 0 = iP 1 (fAld 1) := rfl
theorem k62_1 : lkp pt62 1 = iP 3 (fK (.inl 20)) := rfl
theorem k62_3 : lkp pt62 3 = iCK 6 9 53 2 2 0 := rfl
theorem k62_6 : lkp pt62 6 = iP 7 (fAld 0) := rfl
theorem k62_7 : lkp pt62 7 = iRI 10 (gtI 2) := rfl
theorem k62_10 : lkp pt62 10 = iRet rI := rfl
theorem b62_0 {G : AG} (hG : FIX G) (x0 : Nat) (x1 : Nat) (H : Hp) : G 62 0 [some (.inr (.inr x0)), some (.inr (.inr x1))] [] H = (bif Nat.beq (H.1 x1).1 9 then (G 53 0 [some (.inr (.inr x1)), some (.inl 20)] [] H).bind fun u1 => (asV u1.1).bind fun _ => (hgI u1.2 x0 2).bind fun i2 => some (some (.inl i2), u1.2) else none) := by
  refine Eq.trans (e1 hG PT_62 k62_0 _ _ _) ?_
  show G 62 1 [some (.inr (.inr x0)), some (.inr (.inr x1))] [.inr (.inr x1)] H = _
  refine Eq.trans (e1 hG PT_62 k62_1 _ _ _) ?_
  show G 62 3 [some (.inr (.inr x0)), some (.inr (.inr x1))] [.inl 20, .inr (.inr x1)] H = _
  refine Eq.trans (e1 hG PT_62 k62_3 _ _ _) ?_
  refine bfc ?_ ?_
  · refine bdc fun u1 => ?_
    refine bdc fun _ => ?_
    show G 62 6 [some (.inr (.inr x0)), some (.inr (.inr x1))] [] u1.2 = _
    refine Eq.trans (e1 hG PT_62 k62_6 _ _ _) ?_
    show G 62 7 [some (.inr (.inr x0)), some (.inr (.inr x1))] [.inr (.inr x0)] u1.2 = _
    refine Eq.trans (e1 hG PT_62 k62_7 _ _ _) ?_
    refine bdc fun i2 => ?_
    show G 62 10 [some (.inr (.inr x0)), some (.inr (.inr x1))] [.inl i2] u1.2 = _
    exact e1 hG PT_62 k62_10 _ _ _
  · rfl
-- StepsAhead.trace(I)I
theorem PT_63 : PT 63 = pt63 := rfl
theorem k63_0 : lkp pt63 0 = iP 1 (fAld 0) := rfl
theorem k63_1 : lkp pt63 1 = iRR 4 (gtR 47) := rfl
theorem k63_4 : lkp pt63 4 = iP 5 (fIld 1) := rfl
theorem k63_5 : lkp pt63 5 = iCK 8 9 64 2 2 1 := rfl
theorem k63_8 : lkp pt63 8 = iRet rI := rfl
theorem b63_0 {G : AG} (hG : FIX G) (x0 : Nat) (x1 : Int32) (H : Hp) : G 63 0 [some (.inr (.inr x0)), some (.inl x1)] [] H = ((hgR H x0 47).bind fun r1 => bif Nat.beq (H.1 r1).1 9 then (G 64 0 [some (.inr (.inr r1)), some (.inl x1)] [] H).bind fun u2 => (asI u2.1).bind fun i3 => some (some (.inl i3), u2.2) else none) := by
  refine Eq.trans (e1 hG PT_63 k63_0 _ _ _) ?_
  show G 63 1 [some (.inr (.inr x0)), some (.inl x1)] [.inr (.inr x0)] H = _
  refine Eq.trans (e1 hG PT_63 k63_1 _ _ _) ?_
  refine bdc fun r1 => ?_
  show G 63 4 [some (.inr (.inr x0)), some (.inl x1)] [.inr (.inr r1)] H = _
  refine Eq.trans (e1 hG PT_63 k63_4 _ _ _) ?_
  show G 63 5 [some (.inr (.inr x0)), some (.inl x1)] [.inl x1, .inr (.inr r1)] H = _
  refine Eq.trans (e1 hG PT_63 k63_5 _ _ _) ?_
  refine bfc ?_ ?_
  · refine bdc fun u2 => ?_
    refine bdc fun i3 => ?_
    show G 63 8 [some (.inr (.inr x0)), some (.inl x1)] [.inl i3] u2.2 = _
    exact e1 hG PT_63 k63_8 _ _ _
  · rfl
-- StepsAhead$Trace.numberAt(I)I
theorem PT_64 : PT 64 = pt64 := rfl
theorem k64_0 : lkp pt64 0 = iP 1 (fIld 1) := rfl
theorem k64_1 : lkp pt64 1 = iB 4 21 (b1 (fun x => decide (x < 0))) := rfl
theorem k64_4 : lkp pt64 4 = iP 5 (fIld 1) := rfl
theorem k64_5 : lkp pt64 5 = iP 6 (fAld 0) := rfl
theorem k64_6 : lkp pt64 6 = iRI 9 (gtI 41) := rfl
theorem k64_9 : lkp pt64 9 = iB 12 21 (b2 (fun x y => decide (y ≤ x))) := rfl
theorem k64_12 : lkp pt64 12 = iP 13 (fIld 1) := rfl
theorem k64_13 : lkp pt64 13 = iP 14 (fAld 0) := rfl
theorem k64_14 : lkp pt64 14 = iRR 17 (gtR 40) := rfl
theorem k64_17 : lkp pt64 17 = iRI 18 qLen := rfl
theorem k64_18 : lkp pt64 18 = iB 21 26 (b2 (fun x y => decide (x < y))) := rfl
theorem k64_21 : lkp pt64 21 = iP 23 (fK (.inl (-1000000))) := rfl
theorem k64_23 : lkp pt64 23 = iP 32 fGo := rfl
theorem k64_26 : lkp pt64 26 = iP 27 (fAld 0) := rfl
theorem k64_27 : lkp pt64 27 = iRR 30 (gtR 40) := rfl
theorem k64_30 : lkp pt64 30 = iP 31 (fIld 1) := rfl
theorem k64_31 : lkp pt64 31 = iRI 32 qAI := rfl
theorem k64_32 : lkp pt64 32 = iRet rI := rfl
theorem b64_0 {G : AG} (hG : FIX G) (x0 : Nat) (x1 : Int32) (H : Hp) : G 64 0 [some (.inr (.inr x0)), some (.inl x1)] [] H = (bif decide ((x1 : Int32) < 0) then G 64 21 [some (.inr (.inr x0)), some (.inl x1)] [] H else (hgI H x0 41).bind fun i1 => bif decide ((i1 : Int32) ≤ (x1 : Int32)) then G 64 21 [some (.inr (.inr x0)), some (.inl x1)] [] H else (hgR H x0 40).bind fun r2 => (hLen H r2).bind fun i3 => bif decide ((x1 : Int32) < (i3 : Int32)) then (hgR H x0 40).bind fun r4 => (hAI H r4 x1).bind fun i5 => G 64 32 [some (.inr (.inr x0)), some (.inl x1)] [.inl i5] H else G 64 21 [some (.inr (.inr x0)), some (.inl x1)] [] H) := by
  refine Eq.trans (e1 hG PT_64 k64_0 _ _ _) ?_
  show G 64 1 [some (.inr (.inr x0)), some (.inl x1)] [.inl x1] H = _
  refine Eq.trans (e1 hG PT_64 k64_1 _ _ _) ?_
  refine bfc ?_ ?_
  · rfl
  · show G 64 4 [some (.inr (.inr x0)), some (.inl x1)] [] H = _
    refine Eq.trans (e1 hG PT_64 k64_4 _ _ _) ?_
    show G 64 5 [some (.inr (.inr x0)), some (.inl x1)] [.inl x1] H = _
    refine Eq.trans (e1 hG PT_64 k64_5 _ _ _) ?_
    show G 64 6 [some (.inr (.inr x0)), some (.inl x1)] [.inr (.inr x0), .inl x1] H = _
    refine Eq.trans (e1 hG PT_64 k64_6 _ _ _) ?_
    refine bdc fun i1 => ?_
    show G 64 9 [some (.inr (.inr x0)), some (.inl x1)] [.inl i1, .inl x1] H = _
    refine Eq.trans (e1 hG PT_64 k64_9 _ _ _) ?_
    refine bfc ?_ ?_
    · rfl
    · show G 64 12 [some (.inr (.inr x0)), some (.inl x1)] [] H = _
      refine Eq.trans (e1 hG PT_64 k64_12 _ _ _) ?_
      show G 64 13 [some (.inr (.inr x0)), some (.inl x1)] [.inl x1] H = _
      refine Eq.trans (e1 hG PT_64 k64_13 _ _ _) ?_
      show G 64 14 [some (.inr (.inr x0)), some (.inl x1)] [.inr (.inr x0), .inl x1] H = _
      refine Eq.trans (e1 hG PT_64 k64_14 _ _ _) ?_
      refine bdc fun r2 => ?_
      show G 64 17 [some (.inr (.inr x0)), some (.inl x1)] [.inr (.inr r2), .inl x1] H = _
      refine Eq.trans (e1 hG PT_64 k64_17 _ _ _) ?_
      refine bdc fun i3 => ?_
      show G 64 18 [some (.inr (.inr x0)), some (.inl x1)] [.inl i3, .inl x1] H = _
      refine Eq.trans (e1 hG PT_64 k64_18 _ _ _) ?_
      refine bfc ?_ ?_
      · show G 64 26 [some (.inr (.inr x0)), some (.inl x1)] [] H = _
        refine Eq.trans (e1 hG PT_64 k64_26 _ _ _) ?_
        show G 64 27 [some (.inr (.inr x0)), some (.inl x1)] [.inr (.inr x0)] H = _
        refine Eq.trans (e1 hG PT_64 k64_27 _ _ _) ?_
        refine bdc fun r4 => ?_
        show G 64 30 [some (.inr (.inr x0)), some (.inl x1)] [.inr (.inr r4)] H = _
        refine Eq.trans (e1 hG PT_64 k64_30 _ _ _) ?_
        show G 64 31 [some (.inr (.inr x0)), some (.inl x1)] [.inl x1, .inr (.inr r4)] H = _
        refine Eq.trans (e1 hG PT_64 k64_31 _ _ _) ?_
        refine bdc fun i5 => ?_
        rfl
      · rfl
theorem b64_21 {G : AG} (hG : FIX G) (x0 : Nat) (x1 : Int32) (H : Hp) : G 64 21 [some (.inr (.inr x0)), some (.inl x1)] [] H = (G 64 32 [some (.inr (.inr x0)), some (.inl x1)] [.inl (-1000000)] H) := by
  refine Eq.trans (e1 hG PT_64 k64_21 _ _ _) ?_
  show G 64 23 [some (.inr (.inr x0)), some (.inl x1)] [.inl (-1000000)] H = _
  refine Eq.trans (e1 hG PT_64 k64_23 _ _ _) ?_
  rfl
theorem b64_32 {G : AG} (hG : FIX G) (x0 : Nat) (x1 : Int32) (s0 : Int32) (H : Hp) : G 64 32 [some (.inr (.inr x0)), some (.inl x1)] [.inl s0] H = (some (some (.inl s0), H)) := by
  exact e1 hG PT_64 k64_32 _ _ _
-- StepsAhead.terms(II)I
theorem PT_65 : PT 65 = pt65 := rfl
theorem k65_0 : lkp pt65 0 = iP 1 (fAld 0) := rfl
theorem k65_1 : lkp pt65 1 = iP 2 (fIld 1) := rfl
theorem k65_2 : lkp pt65 2 = iCK 5 11 15 2 2 3 := rfl
theorem k65_5 : lkp pt65 5 = iP 6 (fAst 3) := rfl
theorem k65_6 : lkp pt65 6 = iP 7 (fAld 3) := rfl
theorem k65_7 : lkp pt65 7 = iB 10 17 bN := rfl
theorem k65_10 : lkp pt65 10 = iP 11 (fIld 2) := rfl
theorem k65_11 : lkp pt65 11 = iC 14 66 1 1 1 := rfl
theorem k65_14 : lkp pt65 14 = iB 17 20 (b1 (fun x => decide (x ≠ 0))) := rfl
theorem k65_17 : lkp pt65 17 = iP 19 (fK (.inl (-1000001))) := rfl
theorem k65_19 : lkp pt65 19 = iRet rI := rfl
theorem k65_20 : lkp pt65 20 = iP 21 (fAld 0) := rfl
theorem k65_21 : lkp pt65 21 = iP 22 (fAld 3) := rfl
theorem k65_22 : lkp pt65 22 = iP 23 (fIld 2) := rfl
theorem k65_23 : lkp pt65 23 = iCK 26 11 67 6 3 1 := rfl
theorem k65_26 : lkp pt65 26 = iP 28 (fIst 4) := rfl
theorem k65_28 : lkp pt65 28 = iP 30 (fIld 4) := rfl
theorem k65_30 : lkp pt65 30 = iB 33 38 (b1 (fun x => decide (0 ≤ x))) := rfl
theorem k65_33 : lkp pt65 33 = iP 35 (fIld 4) := rfl
theorem k65_35 : lkp pt65 35 = iP 43 fGo := rfl
theorem k65_38 : lkp pt65 38 = iP 39 (fAld 3) := rfl
theorem k65_39 : lkp pt65 39 = iP 40 (fIld 2) := rfl
theorem k65_40 : lkp pt65 40 = iCK 43 7 96 8 2 1 := rfl
theorem k65_43 : lkp pt65 43 = iRet rI := rfl
theorem b65_0 {G : AG} (hG : FIX G) (x0 : Nat) (x1 : Int32) (x2 : Int32) (H : Hp) : G 65 0 [some (.inr (.inr x0)), some (.inl x1), some (.inl x2), none, none] [] H = (bif Nat.beq (H.1 x0).1 11 then (G 15 0 [some (.inr (.inr x0)), some (.inl x1)] [] H).bind fun u1 => (asR u1.1).bind fun r2 => bif Nat.beq r2 0 then G 65 17 [some (.inr (.inr x0)), some (.inl x1), some (.inl x2), some (.inr (.inr r2)), none] [] u1.2 else (G 66 0 [some (.inl x2)] [] u1.2).bind fun u3 => (asI u3.1).bind fun i4 => bif decide ((i4 : Int32) ≠ 0) then bif Nat.beq (u3.2.1 x0).1 11 then (G 67 0 [some (.inr (.inr x0)), some (.inr (.inr r2)), some (.inl x2), none, none, none] [] u3.2).bind fun u5 => (asI u5.1).bind fun i6 => bif decide (0 ≤ (i6 : Int32)) then bif Nat.beq (u5.2.1 r2).1 7 then (G 96 0 [some (.inr (.inr r2)), some (.inl x2), none, none, none, none, none, none] [] u5.2).bind fun u7 => (asI u7.1).bind fun i8 => G 65 43 [some (.inr (.inr x0)), some (.inl x1), some (.inl x2), some (.inr (.inr r2)), some (.inl i6)] [.inl i8] u7.2 else none else G 65 43 [some (.inr (.inr x0)), some (.inl x1), some (.inl x2), some (.inr (.inr r2)), some (.inl i6)] [.inl i6] u5.2 else none else G 65 17 [some (.inr (.inr x0)), some (.inl x1), some (.inl x2), some (.inr (.inr r2)), none] [] u3.2 else none) := by
  refine Eq.trans (e1 hG PT_65 k65_0 _ _ _) ?_
  show G 65 1 [some (.inr (.inr x0)), some (.inl x1), some (.inl x2), none, none] [.inr (.inr x0)] H = _
  refine Eq.trans (e1 hG PT_65 k65_1 _ _ _) ?_
  show G 65 2 [some (.inr (.inr x0)), some (.inl x1), some (.inl x2), none, none] [.inl x1, .inr (.inr x0)] H = _
  refine Eq.trans (e1 hG PT_65 k65_2 _ _ _) ?_
  refine bfc ?_ ?_
  · refine bdc fun u1 => ?_
    refine bdc fun r2 => ?_
    show G 65 5 [some (.inr (.inr x0)), some (.inl x1), some (.inl x2), none, none] [.inr (.inr r2)] u1.2 = _
    refine Eq.trans (e1 hG PT_65 k65_5 _ _ _) ?_
    show G 65 6 [some (.inr (.inr x0)), some (.inl x1), some (.inl x2), some (.inr (.inr r2)), none] [] u1.2 = _
    refine Eq.trans (e1 hG PT_65 k65_6 _ _ _) ?_
    show G 65 7 [some (.inr (.inr x0)), some (.inl x1), some (.inl x2), some (.inr (.inr r2)), none] [.inr (.inr r2)] u1.2 = _
    refine Eq.trans (e1 hG PT_65 k65_7 _ _ _) ?_
    refine bfc ?_ ?_
    · rfl
    · show G 65 10 [some (.inr (.inr x0)), some (.inl x1), some (.inl x2), some (.inr (.inr r2)), none] [] u1.2 = _
      refine Eq.trans (e1 hG PT_65 k65_10 _ _ _) ?_
      show G 65 11 [some (.inr (.inr x0)), some (.inl x1), some (.inl x2), some (.inr (.inr r2)), none] [.inl x2] u1.2 = _
      refine Eq.trans (e1 hG PT_65 k65_11 _ _ _) ?_
      refine bdc fun u3 => ?_
      refine bdc fun i4 => ?_
      show G 65 14 [some (.inr (.inr x0)), some (.inl x1), some (.inl x2), some (.inr (.inr r2)), none] [.inl i4] u3.2 = _
      refine Eq.trans (e1 hG PT_65 k65_14 _ _ _) ?_
      refine bfc ?_ ?_
      · show G 65 20 [some (.inr (.inr x0)), some (.inl x1), some (.inl x2), some (.inr (.inr r2)), none] [] u3.2 = _
        refine Eq.trans (e1 hG PT_65 k65_20 _ _ _) ?_
        show G 65 21 [some (.inr (.inr x0)), some (.inl x1), some (.inl x2), some (.inr (.inr r2)), none] [.inr (.inr x0)] u3.2 = _
        refine Eq.trans (e1 hG PT_65 k65_21 _ _ _) ?_
        show G 65 22 [some (.inr (.inr x0)), some (.inl x1), some (.inl x2), some (.inr (.inr r2)), none] [.inr (.inr r2), .inr (.inr x0)] u3.2 = _
        refine Eq.trans (e1 hG PT_65 k65_22 _ _ _) ?_
        show G 65 23 [some (.inr (.inr x0)), some (.inl x1), some (.inl x2), some (.inr (.inr r2)), none] [.inl x2, .inr (.inr r2), .inr (.inr x0)] u3.2 = _
        refine Eq.trans (e1 hG PT_65 k65_23 _ _ _) ?_
        refine bfc ?_ ?_
        · refine bdc fun u5 => ?_
          refine bdc fun i6 => ?_
          show G 65 26 [some (.inr (.inr x0)), some (.inl x1), some (.inl x2), some (.inr (.inr r2)), none] [.inl i6] u5.2 = _
          refine Eq.trans (e1 hG PT_65 k65_26 _ _ _) ?_
          show G 65 28 [some (.inr (.inr x0)), some (.inl x1), some (.inl x2), some (.inr (.inr r2)), some (.inl i6)] [] u5.2 = _
          refine Eq.trans (e1 hG PT_65 k65_28 _ _ _) ?_
          show G 65 30 [some (.inr (.inr x0)), some (.inl x1), some (.inl x2), some (.inr (.inr r2)), some (.inl i6)] [.inl i6] u5.2 = _
          refine Eq.trans (e1 hG PT_65 k65_30 _ _ _) ?_
          refine bfc ?_ ?_
          · show G 65 38 [some (.inr (.inr x0)), some (.inl x1), some (.inl x2), some (.inr (.inr r2)), some (.inl i6)] [] u5.2 = _
            refine Eq.trans (e1 hG PT_65 k65_38 _ _ _) ?_
            show G 65 39 [some (.inr (.inr x0)), some (.inl x1), some (.inl x2), some (.inr (.inr r2)), some (.inl i6)] [.inr (.inr r2)] u5.2 = _
            refine Eq.trans (e1 hG PT_65 k65_39 _ _ _) ?_
            show G 65 40 [some (.inr (.inr x0)), some (.inl x1), some (.inl x2), some (.inr (.inr r2)), some (.inl i6)] [.inl x2, .inr (.inr r2)] u5.2 = _
            refine Eq.trans (e1 hG PT_65 k65_40 _ _ _) ?_
            refine bfc ?_ ?_
            · refine bdc fun u7 => ?_
              refine bdc fun i8 => ?_
              rfl
            · rfl
          · show G 65 33 [some (.inr (.inr x0)), some (.inl x1), some (.inl x2), some (.inr (.inr r2)), some (.inl i6)] [] u5.2 = _
            refine Eq.trans (e1 hG PT_65 k65_33 _ _ _) ?_
            show G 65 35 [some (.inr (.inr x0)), some (.inl x1), some (.inl x2), some (.inr (.inr r2)), some (.inl i6)] [.inl i6] u5.2 = _
            refine Eq.trans (e1 hG PT_65 k65_35 _ _ _) ?_
            rfl
        · rfl
      · rfl
  · rfl
theorem b65_17 {G : AG} (hG : FIX G) (x0 : Nat) (x1 : Int32) (x2 : Int32) (x3 : Nat) (H : Hp) : G 65 17 [some (.inr (.inr x0)), some (.inl x1), some (.inl x2), some (.inr (.inr x3)), none] [] H = (some (some (.inl ((-1000001))), H)) := by
  refine Eq.trans (e1 hG PT_65 k65_17 _ _ _) ?_
  show G 65 19 [some (.inr (.inr x0)), some (.inl x1), some (.inl x2), some (.inr (.inr x3)), none] [.inl (-1000001)] H = _
  exact e1 hG PT_65 k65_19 _ _ _
theorem b65_43 {G : AG} (hG : FIX G) (x0 : Nat) (x1 : Int32) (x2 : Int32) (x3 : Nat) (x4 : Int32) (s0 : Int32) (H : Hp) : G 65 43 [some (.inr (.inr x0)), some (.inl x1), some (.inl x2), some (.inr (.inr x3)), some (.inl x4)] [.inl s0] H = (some (some (.inl s0), H)) := by
  exact e1 hG PT_65 k65_43 _ _ _
-- StepsAhead.isSide(I)Z
theorem PT_66 : PT 66 = pt66 := rfl
theorem k66_0 : lkp pt66 0 = iP 1 (fIld 0) := rfl
theorem k66_1 : lkp pt66 1 = iB 4 9 (b1 (fun x => decide (x = 0))) := rfl
theorem k66_4 : lkp pt66 4 = iP 5 (fIld 0) := rfl
theorem k66_5 : lkp pt66 5 = iP 6 (fK (.inl 1)) := rfl
theorem k66_6 : lkp pt66 6 = iB 9 13 (b2 (fun x y => decide (x ≠ y))) := rfl
theorem k66_9 : lkp pt66 9 = iP 10 (fK (.inl 1)) := rfl
theorem k66_10 : lkp pt66 10 = iP 14 fGo := rfl
theorem k66_13 : lkp pt66 13 = iP 14 (fK (.inl 0)) := rfl
theorem k66_14 : lkp pt66 14 = iRet rZ := rfl
theorem b66_0 {G : AG} (hG : FIX G) (x0 : Int32) (H : Hp) : G 66 0 [some (.inl x0)] [] H = (bif decide ((x0 : Int32) = 0) then G 66 9 [some (.inl x0)] [] H else bif decide ((x0 : Int32) ≠ (1 : Int32)) then G 66 14 [some (.inl x0)] [.inl 0] H else G 66 9 [some (.inl x0)] [] H) := by
  refine Eq.trans (e1 hG PT_66 k66_0 _ _ _) ?_
  show G 66 1 [some (.inl x0)] [.inl x0] H = _
  refine Eq.trans (e1 hG PT_66 k66_1 _ _ _) ?_
  refine bfc ?_ ?_
  · rfl
  · show G 66 4 [some (.inl x0)] [] H = _
    refine Eq.trans (e1 hG PT_66 k66_4 _ _ _) ?_
    show G 66 5 [some (.inl x0)] [.inl x0] H = _
    refine Eq.trans (e1 hG PT_66 k66_5 _ _ _) ?_
    show G 66 6 [some (.inl x0)] [.inl 1, .inl x0] H = _
    refine Eq.trans (e1 hG PT_66 k66_6 _ _ _) ?_
    refine bfc ?_ ?_
    · show G 66 13 [some (.inl x0)] [] H = _
      refine Eq.trans (e1 hG PT_66 k66_13 _ _ _) ?_
      rfl
    · rfl
theorem b66_9 {G : AG} (hG : FIX G) (x0 : Int32) (H : Hp) : G 66 9 [some (.inl x0)] [] H = (G 66 14 [some (.inl x0)] [.inl 1] H) := by
  refine Eq.trans (e1 hG PT_66 k66_9 _ _ _) ?_
  show G 66 10 [some (.inl x0)] [.inl 1] H = _
  refine Eq.trans (e1 hG PT_66 k66_10 _ _ _) ?_
  rfl
theorem b66_14 {G : AG} (hG : FIX G) (x0 : Int32) (s0 : Int32) (H : Hp) : G 66 14 [some (.inl x0)] [.inl s0] H = (retZ s0 H) := by
  exact e1 hG PT_66 k66_14 _ _ _
-- StepsAhead.refusalOf(LStepsAhead$Routine;I)I
theorem PT_67 : PT 67 = pt67 := rfl
theorem k67_0 : lkp pt67 0 = iP 1 (fAld 0) := rfl
theorem k67_1 : lkp pt67 1 = iP 2 (fAld 1) := rfl
theorem k67_2 : lkp pt67 2 = iCK 5 11 68 4 2 1 := rfl
theorem k67_5 : lkp pt67 5 = iP 6 (fIst 3) := rfl
theorem k67_6 : lkp pt67 6 = iP 7 (fAld 0) := rfl
theorem k67_7 : lkp pt67 7 = iP 8 (fIld 3) := rfl
theorem k67_8 : lkp pt67 8 = iCK 11 11 69 3 2 1 := rfl
theorem k67_11 : lkp pt67 11 = iB 14 17 (b1 (fun x => decide (x ≠ 0))) := rfl
theorem k67_14 : lkp pt67 14 = iP 16 (fK (.inl (-1000002))) := rfl
theorem k67_16 : lkp pt67 16 = iRet rI := rfl
theorem k67_17 : lkp pt67 17 = iP 18 (fK (.inl 0)) := rfl
theorem k67_18 : lkp pt67 18 = iP 20 (fIst 4) := rfl
theorem k67_20 : lkp pt67 20 = iP 22 (fIld 4) := rfl
theorem k67_22 : lkp pt67 22 = iP 23 (fAld 1) := rfl
theorem k67_23 : lkp pt67 23 = iRI 26 (gtI 21) := rfl
theorem k67_26 : lkp pt67 26 = iB 29 73 (b2 (fun x y => decide (y < x))) := rfl
theorem k67_29 : lkp pt67 29 = iP 30 (fAld 0) := rfl
theorem k67_30 : lkp pt67 30 = iRR 33 (gtR 43) := rfl
theorem k67_33 : lkp pt67 33 = iP 35 (fIld 4) := rfl
theorem k67_35 : lkp pt67 35 = iRR 36 qAR := rfl
theorem k67_36 : lkp pt67 36 = iP 38 (fAst 5) := rfl
theorem k67_38 : lkp pt67 38 = iP 39 (fIld 3) := rfl
theorem k67_39 : lkp pt67 39 = iP 41 (fIld 4) := rfl
theorem k67_41 : lkp pt67 41 = iP 42 (f2I (fun x y => x >>> (y &&& 31))) := rfl
theorem k67_42 : lkp pt67 42 = iP 43 (fK (.inl 1)) := rfl
theorem k67_43 : lkp pt67 43 = iP 44 (f2I (fun x y => x &&& y)) := rfl
theorem k67_44 : lkp pt67 44 = iB 47 67 (b1 (fun x => decide (x = 0))) := rfl
theorem k67_47 : lkp pt67 47 = iP 49 (fAld 5) := rfl
theorem k67_49 : lkp pt67 49 = iRR 52 (gtR 28) := rfl
theorem k67_52 : lkp pt67 52 = iP 53 (fIld 2) := rfl
theorem k67_53 : lkp pt67 53 = iRI 54 qAI := rfl
theorem k67_54 : lkp pt67 54 = iB 57 67 (b1 (fun x => decide (x ≠ 0))) := rfl
theorem k67_57 : lkp pt67 57 = iP 58 (fAld 0) := rfl
theorem k67_58 : lkp pt67 58 = iRR 61 (gtR 48) := rfl
theorem k67_61 : lkp pt67 61 = iP 63 (fAld 5) := rfl
theorem k67_63 : lkp pt67 63 = iP 64 (fIld 2) := rfl
theorem k67_64 : lkp pt67 64 = iCK 67 6 71 9 3 0 := rfl
theorem k67_67 : lkp pt67 67 = iP 70 (fInc 4 1) := rfl
theorem k67_70 : lkp pt67 70 = iP 20 fGo := rfl
theorem k67_73 : lkp pt67 73 = iP 74 (fAld 1) := rfl
theorem k67_74 : lkp pt67 74 = iRR 77 (gtR 28) := rfl
theorem k67_77 : lkp pt67 77 = iP 78 (fIld 2) := rfl
theorem k67_78 : lkp pt67 78 = iRI 79 qAI := rfl
theorem k67_79 : lkp pt67 79 = iP 80 (fK (.inl 1)) := rfl
theorem k67_80 : lkp pt67 80 = iB 83 87 (b2 (fun x y => decide (x ≠ y))) := rfl
theorem k67_83 : lkp pt67 83 = iP 84 (fK (.inl 0)) := rfl
theorem k67_84 : lkp pt67 84 = iP 89 fGo := rfl
theorem k67_87 : lkp pt67 87 = iP 89 (fK (.inl (-1000003))) := rfl
theorem k67_89 : lkp pt67 89 = iRet rI := rfl
theorem b67_0 {G : AG} (hG : FIX G) (x0 : Nat) (x1 : Nat) (x2 : Int32) (H : Hp) : G 67 0 [some (.inr (.inr x0)), some (.inr (.inr x1)), some (.inl x2), none, none, none] [] H = (bif Nat.beq (H.1 x0).1 11 then (G 68 0 [some (.inr (.inr x0)), some (.inr (.inr x1)), none, none] [] H).bind fun u1 => (asI u1.1).bind fun i2 => bif Nat.beq (u1.2.1 x0).1 11 then (G 69 0 [some (.inr (.inr x0)), some (.inl i2), none] [] u1.2).bind fun u3 => (asI u3.1).bind fun i4 => bif decide ((i4 : Int32) ≠ 0) then G 67 20 [some (.inr (.inr x0)), some (.inr (.inr x1)), some (.inl x2), some (.inl i2), some (.inl 0), none] [] u3.2 else some (some (.inl ((-1000002))), u3.2) else none else none) := by
  refine Eq.trans (e1 hG PT_67 k67_0 _ _ _) ?_
  show G 67 1 [some (.inr (.inr x0)), some (.inr (.inr x1)), some (.inl x2), none, none, none] [.inr (.inr x0)] H = _
  refine Eq.trans (e1 hG PT_67 k67_1 _ _ _) ?_
  show G 67 2 [some (.inr (.inr x0)), some (.inr (.inr x1)), some (.inl x2), none, none, none] [.inr (.inr x1), .inr (.inr x0)] H = _
  refine Eq.trans (e1 hG PT_67 k67_2 _ _ _) ?_
  refine bfc ?_ ?_
  · refine bdc fun u1 => ?_
    refine bdc fun i2 => ?_
    show G 67 5 [some (.inr (.inr x0)), some (.inr (.inr x1)), some (.inl x2), none, none, none] [.inl i2] u1.2 = _
    refine Eq.trans (e1 hG PT_67 k67_5 _ _ _) ?_
    show G 67 6 [some (.inr (.inr x0)), some (.inr (.inr x1)), some (.inl x2), some (.inl i2), none, none] [] u1.2 = _
    refine Eq.trans (e1 hG PT_67 k67_6 _ _ _) ?_
    show G 67 7 [some (.inr (.inr x0)), some (.inr (.inr x1)), some (.inl x2), some (.inl i2), none, none] [.inr (.inr x0)] u1.2 = _
    refine Eq.trans (e1 hG PT_67 k67_7 _ _ _) ?_
    show G 67 8 [some (.inr (.inr x0)), some (.inr (.inr x1)), some (.inl x2), some (.inl i2), none, none] [.inl i2, .inr (.inr x0)] u1.2 = _
    refine Eq.trans (e1 hG PT_67 k67_8 _ _ _) ?_
    refine bfc ?_ ?_
    · refine bdc fun u3 => ?_
      refine bdc fun i4 => ?_
      show G 67 11 [some (.inr (.inr x0)), some (.inr (.inr x1)), some (.inl x2), some (.inl i2), none, none] [.inl i4] u3.2 = _
      refine Eq.trans (e1 hG PT_67 k67_11 _ _ _) ?_
      refine bfc ?_ ?_
      · show G 67 17 [some (.inr (.inr x0)), some (.inr (.inr x1)), some (.inl x2), some (.inl i2), none, none] [] u3.2 = _
        refine Eq.trans (e1 hG PT_67 k67_17 _ _ _) ?_
        show G 67 18 [some (.inr (.inr x0)), some (.inr (.inr x1)), some (.inl x2), some (.inl i2), none, none] [.inl 0] u3.2 = _
        refine Eq.trans (e1 hG PT_67 k67_18 _ _ _) ?_
        rfl
      · show G 67 14 [some (.inr (.inr x0)), some (.inr (.inr x1)), some (.inl x2), some (.inl i2), none, none] [] u3.2 = _
        refine Eq.trans (e1 hG PT_67 k67_14 _ _ _) ?_
        show G 67 16 [some (.inr (.inr x0)), some (.inr (.inr x1)), some (.inl x2), some (.inl i2), none, none] [.inl (-1000002)] u3.2 = _
        exact e1 hG PT_67 k67_16 _ _ _
    · rfl
  · rfl
theorem b67_20 {G : AG} (hG : FIX G) (x0 : Nat) (x1 : Nat) (x2 : Int32) (x3 : Int32) (x4 : Int32) (o5 : Option AV) (H : Hp) : G 67 20 [some (.inr (.inr x0)), some (.inr (.inr x1)), some (.inl x2), some (.inl x3), some (.inl x4), o5] [] H = ((hgI H x1 21).bind fun i1 => bif decide ((i1 : Int32) < (x4 : Int32)) then (hgR H x1 28).bind fun r2 => (hAI H r2 x2).bind fun i3 => bif decide ((i3 : Int32) ≠ (1 : Int32)) then G 67 89 [some (.inr (.inr x0)), some (.inr (.inr x1)), some (.inl x2), some (.inl x3), some (.inl x4), o5] [.inl (-1000003)] H else G 67 89 [some (.inr (.inr x0)), some (.inr (.inr x1)), some (.inl x2), some (.inl x3), some (.inl x4), o5] [.inl 0] H else (hgR H x0 43).bind fun r4 => (hAR H r4 x4).bind fun r5 => bif decide ((((x3 >>> (x4 &&& 31)) &&& 1) : Int32) = 0) then G 67 67 [some (.inr (.inr x0)), some (.inr (.inr x1)), some (.inl x2), some (.inl x3), some (.inl x4), some (.inr (.inr r5))] [] H else (hgR H r5 28).bind fun r6 => (hAI H r6 x2).bind fun i7 => bif decide ((i7 : Int32) ≠ 0) then G 67 67 [some (.inr (.inr x0)), some (.inr (.inr x1)), some (.inl x2), some (.inl x3), some (.inl x4), some (.inr (.inr r5))] [] H else (hgR H x0 48).bind fun r8 => bif Nat.beq (H.1 r8).1 6 then (G 71 0 [some (.inr (.inr r8)), some (.inr (.inr r5)), some (.inl x2), none, none, none, none, none, none] [] H).bind fun u9 => (asV u9.1).bind fun _ => G 67 67 [some (.inr (.inr x0)), some (.inr (.inr x1)), some (.inl x2), some (.inl x3), some (.inl x4), some (.inr (.inr r5))] [] u9.2 else none) := by
  refine Eq.trans (e1 hG PT_67 k67_20 _ _ _) ?_
  show G 67 22 [some (.inr (.inr x0)), some (.inr (.inr x1)), some (.inl x2), some (.inl x3), some (.inl x4), o5] [.inl x4] H = _
  refine Eq.trans (e1 hG PT_67 k67_22 _ _ _) ?_
  show G 67 23 [some (.inr (.inr x0)), some (.inr (.inr x1)), some (.inl x2), some (.inl x3), some (.inl x4), o5] [.inr (.inr x1), .inl x4] H = _
  refine Eq.trans (e1 hG PT_67 k67_23 _ _ _) ?_
  refine bdc fun i1 => ?_
  show G 67 26 [some (.inr (.inr x0)), some (.inr (.inr x1)), some (.inl x2), some (.inl x3), some (.inl x4), o5] [.inl i1, .inl x4] H = _
  refine Eq.trans (e1 hG PT_67 k67_26 _ _ _) ?_
  refine bfc ?_ ?_
  · show G 67 73 [some (.inr (.inr x0)), some (.inr (.inr x1)), some (.inl x2), some (.inl x3), some (.inl x4), o5] [] H = _
    refine Eq.trans (e1 hG PT_67 k67_73 _ _ _) ?_
    show G 67 74 [some (.inr (.inr x0)), some (.inr (.inr x1)), some (.inl x2), some (.inl x3), some (.inl x4), o5] [.inr (.inr x1)] H = _
    refine Eq.trans (e1 hG PT_67 k67_74 _ _ _) ?_
    refine bdc fun r2 => ?_
    show G 67 77 [some (.inr (.inr x0)), some (.inr (.inr x1)), some (.inl x2), some (.inl x3), some (.inl x4), o5] [.inr (.inr r2)] H = _
    refine Eq.trans (e1 hG PT_67 k67_77 _ _ _) ?_
    show G 67 78 [some (.inr (.inr x0)), some (.inr (.inr x1)), some (.inl x2), some (.inl x3), some (.inl x4), o5] [.inl x2, .inr (.inr r2)] H = _
    refine Eq.trans (e1 hG PT_67 k67_78 _ _ _) ?_
    refine bdc fun i3 => ?_
    show G 67 79 [some (.inr (.inr x0)), some (.inr (.inr x1)), some (.inl x2), some (.inl x3), some (.inl x4), o5] [.inl i3] H = _
    refine Eq.trans (e1 hG PT_67 k67_79 _ _ _) ?_
    show G 67 80 [some (.inr (.inr x0)), some (.inr (.inr x1)), some (.inl x2), some (.inl x3), some (.inl x4), o5] [.inl 1, .inl i3] H = _
    refine Eq.trans (e1 hG PT_67 k67_80 _ _ _) ?_
    refine bfc ?_ ?_
    · show G 67 87 [some (.inr (.inr x0)), some (.inr (.inr x1)), some (.inl x2), some (.inl x3), some (.inl x4), o5] [] H = _
      refine Eq.trans (e1 hG PT_67 k67_87 _ _ _) ?_
      rfl
    · show G 67 83 [some (.inr (.inr x0)), some (.inr (.inr x1)), some (.inl x2), some (.inl x3), some (.inl x4), o5] [] H = _
      refine Eq.trans (e1 hG PT_67 k67_83 _ _ _) ?_
      show G 67 84 [some (.inr (.inr x0)), some (.inr (.inr x1)), some (.inl x2), some (.inl x3), some (.inl x4), o5] [.inl 0] H = _
      refine Eq.trans (e1 hG PT_67 k67_84 _ _ _) ?_
      rfl
  · show G 67 29 [some (.inr (.inr x0)), some (.inr (.inr x1)), some (.inl x2), some (.inl x3), some (.inl x4), o5] [] H = _
    refine Eq.trans (e1 hG PT_67 k67_29 _ _ _) ?_
    show G 67 30 [some (.inr (.inr x0)), some (.inr (.inr x1)), some (.inl x2), some (.inl x3), some (.inl x4), o5] [.inr (.inr x0)] H = _
    refine Eq.trans (e1 hG PT_67 k67_30 _ _ _) ?_
    refine bdc fun r4 => ?_
    show G 67 33 [some (.inr (.inr x0)), some (.inr (.inr x1)), some (.inl x2), some (.inl x3), some (.inl x4), o5] [.inr (.inr r4)] H = _
    refine Eq.trans (e1 hG PT_67 k67_33 _ _ _) ?_
    show G 67 35 [some (.inr (.inr x0)), some (.inr (.inr x1)), some (.inl x2), some (.inl x3), some (.inl x4), o5] [.inl x4, .inr (.inr r4)] H = _
    refine Eq.trans (e1 hG PT_67 k67_35 _ _ _) ?_
    refine bdc fun r5 => ?_
    show G 67 36 [some (.inr (.inr x0)), some (.inr (.inr x1)), some (.inl x2), some (.inl x3), some (.inl x4), o5] [.inr (.inr r5)] H = _
    refine Eq.trans (e1 hG PT_67 k67_36 _ _ _) ?_
    show G 67 38 [some (.inr (.inr x0)), some (.inr (.inr x1)), some (.inl x2), some (.inl x3), some (.inl x4), some (.inr (.inr r5))] [] H = _
    refine Eq.trans (e1 hG PT_67 k67_38 _ _ _) ?_
    show G 67 39 [some (.inr (.inr x0)), some (.inr (.inr x1)), some (.inl x2), some (.inl x3), some (.inl x4), some (.inr (.inr r5))] [.inl x3] H = _
    refine Eq.trans (e1 hG PT_67 k67_39 _ _ _) ?_
    show G 67 41 [some (.inr (.inr x0)), some (.inr (.inr x1)), some (.inl x2), some (.inl x3), some (.inl x4), some (.inr (.inr r5))] [.inl x4, .inl x3] H = _
    refine Eq.trans (e1 hG PT_67 k67_41 _ _ _) ?_
    show G 67 42 [some (.inr (.inr x0)), some (.inr (.inr x1)), some (.inl x2), some (.inl x3), some (.inl x4), some (.inr (.inr r5))] [.inl (x3 >>> (x4 &&& 31))] H = _
    refine Eq.trans (e1 hG PT_67 k67_42 _ _ _) ?_
    show G 67 43 [some (.inr (.inr x0)), some (.inr (.inr x1)), some (.inl x2), some (.inl x3), some (.inl x4), some (.inr (.inr r5))] [.inl 1, .inl (x3 >>> (x4 &&& 31))] H = _
    refine Eq.trans (e1 hG PT_67 k67_43 _ _ _) ?_
    show G 67 44 [some (.inr (.inr x0)), some (.inr (.inr x1)), some (.inl x2), some (.inl x3), some (.inl x4), some (.inr (.inr r5))] [.inl ((x3 >>> (x4 &&& 31)) &&& 1)] H = _
    refine Eq.trans (e1 hG PT_67 k67_44 _ _ _) ?_
    refine bfc ?_ ?_
    · rfl
    · show G 67 47 [some (.inr (.inr x0)), some (.inr (.inr x1)), some (.inl x2), some (.inl x3), some (.inl x4), some (.inr (.inr r5))] [] H = _
      refine Eq.trans (e1 hG PT_67 k67_47 _ _ _) ?_
      show G 67 49 [some (.inr (.inr x0)), some (.inr (.inr x1)), some (.inl x2), some (.inl x3), some (.inl x4), some (.inr (.inr r5))] [.inr (.inr r5)] H = _
      refine Eq.trans (e1 hG PT_67 k67_49 _ _ _) ?_
      refine bdc fun r6 => ?_
      show G 67 52 [some (.inr (.inr x0)), some (.inr (.inr x1)), some (.inl x2), some (.inl x3), some (.inl x4), some (.inr (.inr r5))] [.inr (.inr r6)] H = _
      refine Eq.trans (e1 hG PT_67 k67_52 _ _ _) ?_
      show G 67 53 [some (.inr (.inr x0)), some (.inr (.inr x1)), some (.inl x2), some (.inl x3), some (.inl x4), some (.inr (.inr r5))] [.inl x2, .inr (.inr r6)] H = _
      refine Eq.trans (e1 hG PT_67 k67_53 _ _ _) ?_
      refine bdc fun i7 => ?_
      show G 67 54 [some (.inr (.inr x0)), some (.inr (.inr x1)), some (.inl x2), some (.inl x3), some (.inl x4), some (.inr (.inr r5))] [.inl i7] H = _
      refine Eq.trans (e1 hG PT_67 k67_54 _ _ _) ?_
      refine bfc ?_ ?_
      · rfl
      · show G 67 57 [some (.inr (.inr x0)), some (.inr (.inr x1)), some (.inl x2), some (.inl x3), some (.inl x4), some (.inr (.inr r5))] [] H = _
        refine Eq.trans (e1 hG PT_67 k67_57 _ _ _) ?_
        show G 67 58 [some (.inr (.inr x0)), some (.inr (.inr x1)), some (.inl x2), some (.inl x3), some (.inl x4), some (.inr (.inr r5))] [.inr (.inr x0)] H = _
        refine Eq.trans (e1 hG PT_67 k67_58 _ _ _) ?_
        refine bdc fun r8 => ?_
        show G 67 61 [some (.inr (.inr x0)), some (.inr (.inr x1)), some (.inl x2), some (.inl x3), some (.inl x4), some (.inr (.inr r5))] [.inr (.inr r8)] H = _
        refine Eq.trans (e1 hG PT_67 k67_61 _ _ _) ?_
        show G 67 63 [some (.inr (.inr x0)), some (.inr (.inr x1)), some (.inl x2), some (.inl x3), some (.inl x4), some (.inr (.inr r5))] [.inr (.inr r5), .inr (.inr r8)] H = _
        refine Eq.trans (e1 hG PT_67 k67_63 _ _ _) ?_
        show G 67 64 [some (.inr (.inr x0)), some (.inr (.inr x1)), some (.inl x2), some (.inl x3), some (.inl x4), some (.inr (.inr r5))] [.inl x2, .inr (.inr r5), .inr (.inr r8)] H = _
        refine Eq.trans (e1 hG PT_67 k67_64 _ _ _) ?_
        refine bfc ?_ ?_
        · refine bdc fun u9 => ?_
          refine bdc fun _ => ?_
          rfl
        · rfl
theorem b67_67 {G : AG} (hG : FIX G) (x0 : Nat) (x1 : Nat) (x2 : Int32) (x3 : Int32) (x4 : Int32) (x5 : Nat) (H : Hp) : G 67 67 [some (.inr (.inr x0)), some (.inr (.inr x1)), some (.inl x2), some (.inl x3), some (.inl x4), some (.inr (.inr x5))] [] H = (G 67 20 [some (.inr (.inr x0)), some (.inr (.inr x1)), some (.inl x2), some (.inl x3), some (.inl (x4 + 1)), some (.inr (.inr x5))] [] H) := by
  refine Eq.trans (e1 hG PT_67 k67_67 _ _ _) ?_
  show G 67 70 [some (.inr (.inr x0)), some (.inr (.inr x1)), some (.inl x2), some (.inl x3), some (.inl (x4 + 1)), some (.inr (.inr x5))] [] H = _
  refine Eq.trans (e1 hG PT_67 k67_70 _ _ _) ?_
  rfl
theorem b67_89 {G : AG} (hG : FIX G) (x0 : Nat) (x1 : Nat) (x2 : Int32) (x3 : Int32) (x4 : Int32) (o5 : Option AV) (s0 : Int32) (H : Hp) : G 67 89 [some (.inr (.inr x0)), some (.inr (.inr x1)), some (.inl x2), some (.inl x3), some (.inl x4), o5] [.inl s0] H = (some (some (.inl s0), H)) := by
  exact e1 hG PT_67 k67_89 _ _ _
-- StepsAhead.reached(LStepsAhead$Routine;)I
theorem PT_68 : PT 68 = pt68 := rfl
theorem k68_0 : lkp pt68 0 = iP 1 (fK (.inl 1)) := rfl
theorem k68_1 : lkp pt68 1 = iP 2 (fAld 1) := rfl
theorem k68_2 : lkp pt68 2 = iRI 5 (gtI 21) := rfl
theorem k68_5 : lkp pt68 5 = iP 6 (f2I (fun x y => x <<< (y &&& 31))) := rfl
theorem k68_6 : lkp pt68 6 = iP 7 (fIst 2) := rfl
theorem k68_7 : lkp pt68 7 = iP 8 (fAld 1) := rfl
theorem k68_8 : lkp pt68 8 = iRI 11 (gtI 21) := rfl
theorem k68_11 : lkp pt68 11 = iP 12 (fIst 3) := rfl
theorem k68_12 : lkp pt68 12 = iP 13 (fIld 3) := rfl
theorem k68_13 : lkp pt68 13 = iB 16 42 (b1 (fun x => decide (x < 0))) := rfl
theorem k68_16 : lkp pt68 16 = iP 17 (fIld 2) := rfl
theorem k68_17 : lkp pt68 17 = iP 18 (fIld 3) := rfl
theorem k68_18 : lkp pt68 18 = iP 19 (f2I (fun x y => x >>> (y &&& 31))) := rfl
theorem k68_19 : lkp pt68 19 = iP 20 (fK (.inl 1)) := rfl
theorem k68_20 : lkp pt68 20 = iP 21 (f2I (fun x y => x &&& y)) := rfl
theorem k68_21 : lkp pt68 21 = iB 24 36 (b1 (fun x => decide (x = 0))) := rfl
theorem k68_24 : lkp pt68 24 = iP 25 (fIld 2) := rfl
theorem k68_25 : lkp pt68 25 = iP 26 (fAld 0) := rfl
theorem k68_26 : lkp pt68 26 = iRR 29 (gtR 43) := rfl
theorem k68_29 : lkp pt68 29 = iP 30 (fIld 3) := rfl
theorem k68_30 : lkp pt68 30 = iRR 31 qAR := rfl
theorem k68_31 : lkp pt68 31 = iRI 34 (gtI 26) := rfl
theorem k68_34 : lkp pt68 34 = iP 35 (f2I (fun x y => x ||| y)) := rfl
theorem k68_35 : lkp pt68 35 = iP 36 (fIst 2) := rfl
theorem k68_36 : lkp pt68 36 = iP 39 (fInc 3 (-1)) := rfl
theorem k68_39 : lkp pt68 39 = iP 12 fGo := rfl
theorem k68_42 : lkp pt68 42 = iP 43 (fIld 2) := rfl
theorem k68_43 : lkp pt68 43 = iRet rI := rfl
theorem b68_0 {G : AG} (hG : FIX G) (x0 : Nat) (x1 : Nat) (H : Hp) : G 68 0 [some (.inr (.inr x0)), some (.inr (.inr x1)), none, none] [] H = ((hgI H x1 21).bind fun i1 => (hgI H x1 21).bind fun i2 => G 68 12 [some (.inr (.inr x0)), some (.inr (.inr x1)), some (.inl (1 <<< (i1 &&& 31))), some (.inl i2)] [] H) := by
  refine Eq.trans (e1 hG PT_68 k68_0 _ _ _) ?_
  show G 68 1 [some (.inr (.inr x0)), some (.inr (.inr x1)), none, none] [.inl 1] H = _
  refine Eq.trans (e1 hG PT_68 k68_1 _ _ _) ?_
  show G 68 2 [some (.inr (.inr x0)), some (.inr (.inr x1)), none, none] [.inr (.inr x1), .inl 1] H = _
  refine Eq.trans (e1 hG PT_68 k68_2 _ _ _) ?_
  refine bdc fun i1 => ?_
  show G 68 5 [some (.inr (.inr x0)), some (.inr (.inr x1)), none, none] [.inl i1, .inl 1] H = _
  refine Eq.trans (e1 hG PT_68 k68_5 _ _ _) ?_
  show G 68 6 [some (.inr (.inr x0)), some (.inr (.inr x1)), none, none] [.inl (1 <<< (i1 &&& 31))] H = _
  refine Eq.trans (e1 hG PT_68 k68_6 _ _ _) ?_
  show G 68 7 [some (.inr (.inr x0)), some (.inr (.inr x1)), some (.inl (1 <<< (i1 &&& 31))), none] [] H = _
  refine Eq.trans (e1 hG PT_68 k68_7 _ _ _) ?_
  show G 68 8 [some (.inr (.inr x0)), some (.inr (.inr x1)), some (.inl (1 <<< (i1 &&& 31))), none] [.inr (.inr x1)] H = _
  refine Eq.trans (e1 hG PT_68 k68_8 _ _ _) ?_
  refine bdc fun i2 => ?_
  show G 68 11 [some (.inr (.inr x0)), some (.inr (.inr x1)), some (.inl (1 <<< (i1 &&& 31))), none] [.inl i2] H = _
  refine Eq.trans (e1 hG PT_68 k68_11 _ _ _) ?_
  rfl
theorem b68_12 {G : AG} (hG : FIX G) (x0 : Nat) (x1 : Nat) (x2 : Int32) (x3 : Int32) (H : Hp) : G 68 12 [some (.inr (.inr x0)), some (.inr (.inr x1)), some (.inl x2), some (.inl x3)] [] H = (bif decide ((x3 : Int32) < 0) then some (some (.inl x2), H) else bif decide ((((x2 >>> (x3 &&& 31)) &&& 1) : Int32) = 0) then G 68 36 [some (.inr (.inr x0)), some (.inr (.inr x1)), some (.inl x2), some (.inl x3)] [] H else (hgR H x0 43).bind fun r1 => (hAR H r1 x3).bind fun r2 => (hgI H r2 26).bind fun i3 => G 68 36 [some (.inr (.inr x0)), some (.inr (.inr x1)), some (.inl (x2 ||| i3)), some (.inl x3)] [] H) := by
  refine Eq.trans (e1 hG PT_68 k68_12 _ _ _) ?_
  show G 68 13 [some (.inr (.inr x0)), some (.inr (.inr x1)), some (.inl x2), some (.inl x3)] [.inl x3] H = _
  refine Eq.trans (e1 hG PT_68 k68_13 _ _ _) ?_
  refine bfc ?_ ?_
  · show G 68 42 [some (.inr (.inr x0)), some (.inr (.inr x1)), some (.inl x2), some (.inl x3)] [] H = _
    refine Eq.trans (e1 hG PT_68 k68_42 _ _ _) ?_
    show G 68 43 [some (.inr (.inr x0)), some (.inr (.inr x1)), some (.inl x2), some (.inl x3)] [.inl x2] H = _
    exact e1 hG PT_68 k68_43 _ _ _
  · show G 68 16 [some (.inr (.inr x0)), some (.inr (.inr x1)), some (.inl x2), some (.inl x3)] [] H = _
    refine Eq.trans (e1 hG PT_68 k68_16 _ _ _) ?_
    show G 68 17 [some (.inr (.inr x0)), some (.inr (.inr x1)), some (.inl x2), some (.inl x3)] [.inl x2] H = _
    refine Eq.trans (e1 hG PT_68 k68_17 _ _ _) ?_
    show G 68 18 [some (.inr (.inr x0)), some (.inr (.inr x1)), some (.inl x2), some (.inl x3)] [.inl x3, .inl x2] H = _
    refine Eq.trans (e1 hG PT_68 k68_18 _ _ _) ?_
    show G 68 19 [some (.inr (.inr x0)), some (.inr (.inr x1)), some (.inl x2), some (.inl x3)] [.inl (x2 >>> (x3 &&& 31))] H = _
    refine Eq.trans (e1 hG PT_68 k68_19 _ _ _) ?_
    show G 68 20 [some (.inr (.inr x0)), some (.inr (.inr x1)), some (.inl x2), some (.inl x3)] [.inl 1, .inl (x2 >>> (x3 &&& 31))] H = _
    refine Eq.trans (e1 hG PT_68 k68_20 _ _ _) ?_
    show G 68 21 [some (.inr (.inr x0)), some (.inr (.inr x1)), some (.inl x2), some (.inl x3)] [.inl ((x2 >>> (x3 &&& 31)) &&& 1)] H = _
    refine Eq.trans (e1 hG PT_68 k68_21 _ _ _) ?_
    refine bfc ?_ ?_
    · rfl
    · show G 68 24 [some (.inr (.inr x0)), some (.inr (.inr x1)), some (.inl x2), some (.inl x3)] [] H = _
      refine Eq.trans (e1 hG PT_68 k68_24 _ _ _) ?_
      show G 68 25 [some (.inr (.inr x0)), some (.inr (.inr x1)), some (.inl x2), some (.inl x3)] [.inl x2] H = _
      refine Eq.trans (e1 hG PT_68 k68_25 _ _ _) ?_
      show G 68 26 [some (.inr (.inr x0)), some (.inr (.inr x1)), some (.inl x2), some (.inl x3)] [.inr (.inr x0), .inl x2] H = _
      refine Eq.trans (e1 hG PT_68 k68_26 _ _ _) ?_
      refine bdc fun r1 => ?_
      show G 68 29 [some (.inr (.inr x0)), some (.inr (.inr x1)), some (.inl x2), some (.inl x3)] [.inr (.inr r1), .inl x2] H = _
      refine Eq.trans (e1 hG PT_68 k68_29 _ _ _) ?_
      show G 68 30 [some (.inr (.inr x0)), some (.inr (.inr x1)), some (.inl x2), some (.inl x3)] [.inl x3, .inr (.inr r1), .inl x2] H = _
      refine Eq.trans (e1 hG PT_68 k68_30 _ _ _) ?_
      refine bdc fun r2 => ?_
      show G 68 31 [some (.inr (.inr x0)), some (.inr (.inr x1)), some (.inl x2), some (.inl x3)] [.inr (.inr r2), .inl x2] H = _
      refine Eq.trans (e1 hG PT_68 k68_31 _ _ _) ?_
      refine bdc fun i3 => ?_
      show G 68 34 [some (.inr (.inr x0)), some (.inr (.inr x1)), some (.inl x2), some (.inl x3)] [.inl i3, .inl x2] H = _
      refine Eq.trans (e1 hG PT_68 k68_34 _ _ _) ?_
      show G 68 35 [some (.inr (.inr x0)), some (.inr (.inr x1)), some (.inl x2), some (.inl x3)] [.inl (x2 ||| i3)] H = _
      refine Eq.trans (e1 hG PT_68 k68_35 _ _ _) ?_
      rfl
theorem b68_36 {G : AG} (hG : FIX G) (x0 : Nat) (x1 : Nat) (x2 : Int32) (x3 : Int32) (H : Hp) : G 68 36 [some (.inr (.inr x0)), some (.inr (.inr x1)), some (.inl x2), some (.inl x3)] [] H = (G 68 12 [some (.inr (.inr x0)), some (.inr (.inr x1)), some (.inl x2), some (.inl (x3 + (-1)))] [] H) := by
  refine Eq.trans (e1 hG PT_68 k68_36 _ _ _) ?_
  show G 68 39 [some (.inr (.inr x0)), some (.inr (.inr x1)), some (.inl x2), some (.inl (x3 + (-1)))] [] H = _
  refine Eq.trans (e1 hG PT_68 k68_39 _ _ _) ?_
  rfl
-- StepsAhead.areWhole(I)Z
theorem PT_69 : PT 69 = pt69 := rfl
theorem k69_0 : lkp pt69 0 = iP 1 (fK (.inl 0)) := rfl
theorem k69_1 : lkp pt69 1 = iP 2 (fIst 2) := rfl
theorem k69_2 : lkp pt69 2 = iP 3 (fIld 2) := rfl
theorem k69_3 : lkp pt69 3 = iP 5 (fK (.inl 8)) := rfl
theorem k69_5 : lkp pt69 5 = iB 8 36 (b2 (fun x y => decide (y ≤ x))) := rfl
theorem k69_8 : lkp pt69 8 = iP 9 (fIld 1) := rfl
theorem k69_9 : lkp pt69 9 = iP 10 (fIld 2) := rfl
theorem k69_10 : lkp pt69 10 = iP 11 (f2I (fun x y => x >>> (y &&& 31))) := rfl
theorem k69_11 : lkp pt69 11 = iP 12 (fK (.inl 1)) := rfl
theorem k69_12 : lkp pt69 12 = iP 13 (f2I (fun x y => x &&& y)) := rfl
theorem k69_13 : lkp pt69 13 = iB 16 30 (b1 (fun x => decide (x = 0))) := rfl
theorem k69_16 : lkp pt69 16 = iP 17 (fAld 0) := rfl
theorem k69_17 : lkp pt69 17 = iRR 20 (gtR 43) := rfl
theorem k69_20 : lkp pt69 20 = iP 21 (fIld 2) := rfl
theorem k69_21 : lkp pt69 21 = iRR 22 qAR := rfl
theorem k69_22 : lkp pt69 22 = iCK 25 7 70 1 1 1 := rfl
theorem k69_25 : lkp pt69 25 = iB 28 30 (b1 (fun x => decide (x ≠ 0))) := rfl
theorem k69_28 : lkp pt69 28 = iP 29 (fK (.inl 0)) := rfl
theorem k69_29 : lkp pt69 29 = iRet rZ := rfl
theorem k69_30 : lkp pt69 30 = iP 33 (fInc 2 1) := rfl
theorem k69_33 : lkp pt69 33 = iP 2 fGo := rfl
theorem k69_36 : lkp pt69 36 = iP 37 (fK (.inl 1)) := rfl
theorem k69_37 : lkp pt69 37 = iRet rZ := rfl
theorem b69_0 {G : AG} (hG : FIX G) (x0 : Nat) (x1 : Int32) (H : Hp) : G 69 0 [some (.inr (.inr x0)), some (.inl x1), none] [] H = (G 69 2 [some (.inr (.inr x0)), some (.inl x1), some (.inl 0)] [] H) := by
  refine Eq.trans (e1 hG PT_69 k69_0 _ _ _) ?_
  show G 69 1 [some (.inr (.inr x0)), some (.inl x1), none] [.inl 0] H = _
  refine Eq.trans (e1 hG PT_69 k69_1 _ _ _) ?_
  rfl
theorem b69_2 {G : AG} (hG : FIX G) (x0 : Nat) (x1 : Int32) (x2 : Int32) (H : Hp) : G 69 2 [some (.inr (.inr x0)), some (.inl x1), some (.inl x2)] [] H = (bif decide ((8 : Int32) ≤ (x2 : Int32)) then retZ 1 H else bif decide ((((x1 >>> (x2 &&& 31)) &&& 1) : Int32) = 0) then G 69 30 [some (.inr (.inr x0)), some (.inl x1), some (.inl x2)] [] H else (hgR H x0 43).bind fun r1 => (hAR H r1 x2).bind fun r2 => bif Nat.beq (H.1 r2).1 7 then (G 70 0 [some (.inr (.inr r2))] [] H).bind fun u3 => (asI u3.1).bind fun i4 => bif decide ((i4 : Int32) ≠ 0) then G 69 30 [some (.inr (.inr x0)), some (.inl x1), some (.inl x2)] [] u3.2 else retZ 0 u3.2 else none) := by
  refine Eq.trans (e1 hG PT_69 k69_2 _ _ _) ?_
  show G 69 3 [some (.inr (.inr x0)), some (.inl x1), some (.inl x2)] [.inl x2] H = _
  refine Eq.trans (e1 hG PT_69 k69_3 _ _ _) ?_
  show G 69 5 [some (.inr (.inr x0)), some (.inl x1), some (.inl x2)] [.inl 8, .inl x2] H = _
  refine Eq.trans (e1 hG PT_69 k69_5 _ _ _) ?_
  refine bfc ?_ ?_
  · show G 69 36 [some (.inr (.inr x0)), some (.inl x1), some (.inl x2)] [] H = _
    refine Eq.trans (e1 hG PT_69 k69_36 _ _ _) ?_
    show G 69 37 [some (.inr (.inr x0)), some (.inl x1), some (.inl x2)] [.inl 1] H = _
    exact e1 hG PT_69 k69_37 _ _ _
  · show G 69 8 [some (.inr (.inr x0)), some (.inl x1), some (.inl x2)] [] H = _
    refine Eq.trans (e1 hG PT_69 k69_8 _ _ _) ?_
    show G 69 9 [some (.inr (.inr x0)), some (.inl x1), some (.inl x2)] [.inl x1] H = _
    refine Eq.trans (e1 hG PT_69 k69_9 _ _ _) ?_
    show G 69 10 [some (.inr (.inr x0)), some (.inl x1), some (.inl x2)] [.inl x2, .inl x1] H = _
    refine Eq.trans (e1 hG PT_69 k69_10 _ _ _) ?_
    show G 69 11 [some (.inr (.inr x0)), some (.inl x1), some (.inl x2)] [.inl (x1 >>> (x2 &&& 31))] H = _
    refine Eq.trans (e1 hG PT_69 k69_11 _ _ _) ?_
    show G 69 12 [some (.inr (.inr x0)), some (.inl x1), some (.inl x2)] [.inl 1, .inl (x1 >>> (x2 &&& 31))] H = _
    refine Eq.trans (e1 hG PT_69 k69_12 _ _ _) ?_
    show G 69 13 [some (.inr (.inr x0)), some (.inl x1), some (.inl x2)] [.inl ((x1 >>> (x2 &&& 31)) &&& 1)] H = _
    refine Eq.trans (e1 hG PT_69 k69_13 _ _ _) ?_
    refine bfc ?_ ?_
    · rfl
    · show G 69 16 [some (.inr (.inr x0)), some (.inl x1), some (.inl x2)] [] H = _
      refine Eq.trans (e1 hG PT_69 k69_16 _ _ _) ?_
      show G 69 17 [some (.inr (.inr x0)), some (.inl x1), some (.inl x2)] [.inr (.inr x0)] H = _
      refine Eq.trans (e1 hG PT_69 k69_17 _ _ _) ?_
      refine bdc fun r1 => ?_
      show G 69 20 [some (.inr (.inr x0)), some (.inl x1), some (.inl x2)] [.inr (.inr r1)] H = _
      refine Eq.trans (e1 hG PT_69 k69_20 _ _ _) ?_
      show G 69 21 [some (.inr (.inr x0)), some (.inl x1), some (.inl x2)] [.inl x2, .inr (.inr r1)] H = _
      refine Eq.trans (e1 hG PT_69 k69_21 _ _ _) ?_
      refine bdc fun r2 => ?_
      show G 69 22 [some (.inr (.inr x0)), some (.inl x1), some (.inl x2)] [.inr (.inr r2)] H = _
      refine Eq.trans (e1 hG PT_69 k69_22 _ _ _) ?_
      refine bfc ?_ ?_
      · refine bdc fun u3 => ?_
        refine bdc fun i4 => ?_
        show G 69 25 [some (.inr (.inr x0)), some (.inl x1), some (.inl x2)] [.inl i4] u3.2 = _
        refine Eq.trans (e1 hG PT_69 k69_25 _ _ _) ?_
        refine bfc ?_ ?_
        · rfl
        · show G 69 28 [some (.inr (.inr x0)), some (.inl x1), some (.inl x2)] [] u3.2 = _
          refine Eq.trans (e1 hG PT_69 k69_28 _ _ _) ?_
          show G 69 29 [some (.inr (.inr x0)), some (.inl x1), some (.inl x2)] [.inl 0] u3.2 = _
          exact e1 hG PT_69 k69_29 _ _ _
      · rfl
theorem b69_30 {G : AG} (hG : FIX G) (x0 : Nat) (x1 : Int32) (x2 : Int32) (H : Hp) : G 69 30 [some (.inr (.inr x0)), some (.inl x1), some (.inl x2)] [] H = (G 69 2 [some (.inr (.inr x0)), some (.inl x1), some (.inl (x2 + 1))] [] H) := by
  refine Eq.trans (e1 hG PT_69 k69_30 _ _ _) ?_
  show G 69 33 [some (.inr (.inr x0)), some (.inl x1), some (.inl (x2 + 1))] [] H = _
  refine Eq.trans (e1 hG PT_69 k69_33 _ _ _) ?_
  rfl
-- StepsAhead$Routine.isWhole()Z
theorem PT_70 : PT 70 = pt70 := rfl
theorem k70_0 : lkp pt70 0 = iP 1 (fAld 0) := rfl
theorem k70_1 : lkp pt70 1 = iRI 4 (gtI 25) := rfl
theorem k70_4 : lkp pt70 4 = iB 7 11 (b1 (fun x => decide (x ≠ 0))) := rfl
theorem k70_7 : lkp pt70 7 = iP 8 (fK (.inl 1)) := rfl
theorem k70_8 : lkp pt70 8 = iP 12 fGo := rfl
theorem k70_11 : lkp pt70 11 = iP 12 (fK (.inl 0)) := rfl
theorem k70_12 : lkp pt70 12 = iRet rZ := rfl
theorem b70_0 {G : AG} (hG : FIX G) (x0 : Nat) (H : Hp) : G 70 0 [some (.inr (.inr x0))] [] H = ((hgI H x0 25).bind fun i1 => bif decide ((i1 : Int32) ≠ 0) then G 70 12 [some (.inr (.inr x0))] [.inl 0] H else G 70 12 [some (.inr (.inr x0))] [.inl 1] H) := by
  refine Eq.trans (e1 hG PT_70 k70_0 _ _ _) ?_
  show G 70 1 [some (.inr (.inr x0))] [.inr (.inr x0)] H = _
  refine Eq.trans (e1 hG PT_70 k70_1 _ _ _) ?_
  refine bdc fun i1 => ?_
  show G 70 4 [some (.inr (.inr x0))] [.inl i1] H = _
  refine Eq.trans (e1 hG PT_70 k70_4 _ _ _) ?_
  refine bfc ?_ ?_
  · show G 70 11 [some (.inr (.inr x0))] [] H = _
    refine Eq.trans (e1 hG PT_70 k70_11 _ _ _) ?_
    rfl
  · show G 70 7 [some (.inr (.inr x0))] [] H = _
    refine Eq.trans (e1 hG PT_70 k70_7 _ _ _) ?_
    show G 70 8 [some (.inr (.inr x0))] [.inl 1] H = _
    refine Eq.trans (e1 hG PT_70 k70_8 _ _ _) ?_
    rfl
theorem b70_12 {G : AG} (hG : FIX G) (x0 : Nat) (s0 : Int32) (H : Hp) : G 70 12 [some (.inr (.inr x0))] [.inl s0] H = (retZ s0 H) := by
  exact e1 hG PT_70 k70_12 _ _ _
-- StepsAhead$Reckoner.reckon(LStepsAhead$Routine;I)V
theorem PT_71 : PT 71 = pt71 := rfl
theorem k71_0 : lkp pt71 0 = iP 1 (fAld 0) := rfl
theorem k71_1 : lkp pt71 1 = iP 2 (fIld 2) := rfl
theorem k71_2 : lkp pt71 2 = iW 5 (ptI 19) := rfl
theorem k71_5 : lkp pt71 5 = iP 6 (fAld 0) := rfl
theorem k71_6 : lkp pt71 6 = iP 7 (fK (.inl 0)) := rfl
theorem k71_7 : lkp pt71 7 = iW 10 (ptZ 20) := rfl
theorem k71_10 : lkp pt71 10 = iP 11 (fAld 0) := rfl
theorem k71_11 : lkp pt71 11 = iP 12 (fK (.inl (-1))) := rfl
theorem k71_12 : lkp pt71 12 = iW 15 (ptI 16) := rfl
theorem k71_15 : lkp pt71 15 = iP 16 (fAld 0) := rfl
theorem k71_16 : lkp pt71 16 = iCK 19 6 72 1 1 0 := rfl
theorem k71_19 : lkp pt71 19 = iP 20 (fK (.inl 0)) := rfl
theorem k71_20 : lkp pt71 20 = iP 21 (fIst 3) := rfl
theorem k71_21 : lkp pt71 21 = iP 22 (fIld 3) := rfl
theorem k71_22 : lkp pt71 22 = iP 23 (fAld 1) := rfl
theorem k71_23 : lkp pt71 23 = iRI 26 (gtI 23) := rfl
theorem k71_26 : lkp pt71 26 = iB 29 181 (b2 (fun x y => decide (y ≤ x))) := rfl
theorem k71_29 : lkp pt71 29 = iP 30 (fAld 0) := rfl
theorem k71_30 : lkp pt71 30 = iRI 33 (gtI 20) := rfl
theorem k71_33 : lkp pt71 33 = iB 36 181 (b1 (fun x => decide (x ≠ 0))) := rfl
theorem k71_36 : lkp pt71 36 = iP 37 (fAld 1) := rfl
theorem k71_37 : lkp pt71 37 = iP 38 (fIld 3) := rfl
theorem k71_38 : lkp pt71 38 = iCK 41 7 18 2 2 3 := rfl
theorem k71_41 : lkp pt71 41 = iP 43 (fAst 4) := rfl
theorem k71_43 : lkp pt71 43 = iP 45 (fAld 4) := rfl
theorem k71_45 : lkp pt71 45 = iRI 48 (qInst [10] [1, 2, 3, 4]) := rfl
theorem k71_48 : lkp pt71 48 = iB 51 85 (b1 (fun x => decide (x = 0))) := rfl
theorem k71_51 : lkp pt71 51 = iP 53 (fAld 4) := rfl
theorem k71_53 : lkp pt71 53 = iRR 56 (qCast [10]) := rfl
theorem k71_56 : lkp pt71 56 = iP 58 (fAst 5) := rfl
theorem k71_58 : lkp pt71 58 = iP 59 (fAld 0) := rfl
theorem k71_59 : lkp pt71 59 = iP 60 (fAld 0) := rfl
theorem k71_60 : lkp pt71 60 = iRR 63 (gtR 15) := rfl
theorem k71_63 : lkp pt71 63 = iP 64 (fAld 0) := rfl
theorem k71_64 : lkp pt71 64 = iRI 67 (gtI 16) := rfl
theorem k71_67 : lkp pt71 67 = iRR 68 qAR := rfl
theorem k71_68 : lkp pt71 68 = iP 69 (fK (.inl 0)) := rfl
theorem k71_69 : lkp pt71 69 = iP 71 (fAld 5) := rfl
theorem k71_71 : lkp pt71 71 = iRI 74 (gtI 42) := rfl
theorem k71_74 : lkp pt71 74 = iP 75 fI2l := rfl
theorem k71_75 : lkp pt71 75 = iP 78 (fK (.inr (.inl 8640))) := rfl
theorem k71_78 : lkp pt71 78 = iP 79 (f2J (fun x y => x * y)) := rfl
theorem k71_79 : lkp pt71 79 = iCK 82 6 74 5 4 0 := rfl
theorem k71_82 : lkp pt71 82 = iP 175 fGo := rfl
theorem k71_85 : lkp pt71 85 = iP 87 (fAld 4) := rfl
theorem k71_87 : lkp pt71 87 = iRI 90 (qInst [1] [2, 3, 4, 10]) := rfl
theorem k71_90 : lkp pt71 90 = iB 93 109 (b1 (fun x => decide (x = 0))) := rfl
theorem k71_93 : lkp pt71 93 = iP 95 (fAld 4) := rfl
theorem k71_95 : lkp pt71 95 = iRR 98 (qCast [1]) := rfl
theorem k71_98 : lkp pt71 98 = iP 100 (fAst 6) := rfl
theorem k71_100 : lkp pt71 100 = iP 101 (fAld 0) := rfl
theorem k71_101 : lkp pt71 101 = iP 103 (fAld 6) := rfl
theorem k71_103 : lkp pt71 103 = iCK 106 6 75 6 2 0 := rfl
theorem k71_106 : lkp pt71 106 = iP 175 fGo := rfl
theorem k71_109 : lkp pt71 109 = iP 111 (fAld 4) := rfl
theorem k71_111 : lkp pt71 111 = iB 114 131 bN := rfl
theorem k71_114 : lkp pt71 114 = iP 116 (fAld 4) := rfl
theorem k71_116 : lkp pt71 116 = iRI 119 (gtI 1) := rfl
theorem k71_119 : lkp pt71 119 = iP 121 (fK (.inl 8)) := rfl
theorem k71_121 : lkp pt71 121 = iB 124 131 (b2 (fun x y => decide (x ≠ y))) := rfl
theorem k71_124 : lkp pt71 124 = iP 125 (fAld 0) := rfl
theorem k71_125 : lkp pt71 125 = iCK 128 6 83 4 1 0 := rfl
theorem k71_128 : lkp pt71 128 = iP 175 fGo := rfl
theorem k71_131 : lkp pt71 131 = iP 133 (fAld 4) := rfl
theorem k71_133 : lkp pt71 133 = iB 136 171 bN := rfl
theorem k71_136 : lkp pt71 136 = iP 137 (fAld 1) := rfl
theorem k71_137 : lkp pt71 137 = iP 139 (fAld 4) := rfl
theorem k71_139 : lkp pt71 139 = iRI 142 (gtI 4) := rfl
theorem k71_142 : lkp pt71 142 = iCK 145 7 18 2 2 3 := rfl
theorem k71_145 : lkp pt71 145 = iP 147 (fAst 8) := rfl
theorem k71_147 : lkp pt71 147 = iP 149 (fAld 8) := rfl
theorem k71_149 : lkp pt71 149 = iRI 152 (qInst [3] [1, 2, 4, 10]) := rfl
theorem k71_152 : lkp pt71 152 = iB 155 171 (b1 (fun x => decide (x = 0))) := rfl
theorem k71_155 : lkp pt71 155 = iP 157 (fAld 8) := rfl
theorem k71_157 : lkp pt71 157 = iRR 160 (qCast [3]) := rfl
theorem k71_160 : lkp pt71 160 = iP 162 (fAst 7) := rfl
theorem k71_162 : lkp pt71 162 = iP 163 (fAld 0) := rfl
theorem k71_163 : lkp pt71 163 = iP 165 (fAld 7) := rfl
theorem k71_165 : lkp pt71 165 = iCK 168 6 86 4 2 0 := rfl
theorem k71_168 : lkp pt71 168 = iP 175 fGo := rfl
theorem k71_171 : lkp pt71 171 = iP 172 (fAld 0) := rfl
theorem k71_172 : lkp pt71 172 = iCK 175 6 72 1 1 0 := rfl
theorem k71_175 : lkp pt71 175 = iP 178 (fInc 3 1) := rfl
theorem k71_178 : lkp pt71 178 = iP 21 fGo := rfl
theorem k71_181 : lkp pt71 181 = iP 182 (fAld 1) := rfl
theorem k71_182 : lkp pt71 182 = iRR 185 (gtR 28) := rfl
theorem k71_185 : lkp pt71 185 = iP 186 (fAld 0) := rfl
theorem k71_186 : lkp pt71 186 = iRI 189 (gtI 19) := rfl
theorem k71_189 : lkp pt71 189 = iP 190 (fAld 0) := rfl
theorem k71_190 : lkp pt71 190 = iRI 193 (gtI 20) := rfl
theorem k71_193 : lkp pt71 193 = iB 196 201 (b1 (fun x => decide (x = 0))) := rfl
theorem k71_196 : lkp pt71 196 = iP 198 (fK (.inl (-1000003))) := rfl
theorem k71_198 : lkp pt71 198 = iP 202 fGo := rfl
theorem k71_201 : lkp pt71 201 = iP 202 (fK (.inl 1)) := rfl
theorem k71_202 : lkp pt71 202 = iW 203 wAI := rfl
theorem k71_203 : lkp pt71 203 = iP 204 (fAld 0) := rfl
theorem k71_204 : lkp pt71 204 = iRI 207 (gtI 20) := rfl
theorem k71_207 : lkp pt71 207 = iB 210 223 (b1 (fun x => decide (x ≠ 0))) := rfl
theorem k71_210 : lkp pt71 210 = iP 211 (fAld 0) := rfl
theorem k71_211 : lkp pt71 211 = iP 212 (fAld 1) := rfl
theorem k71_212 : lkp pt71 212 = iRR 215 (gtR 27) := rfl
theorem k71_215 : lkp pt71 215 = iP 216 (fAld 0) := rfl
theorem k71_216 : lkp pt71 216 = iRI 219 (gtI 19) := rfl
theorem k71_219 : lkp pt71 219 = iRR 220 qAR := rfl
theorem k71_220 : lkp pt71 220 = iCK 223 6 95 6 2 0 := rfl
theorem k71_223 : lkp pt71 223 = iRet rV := rfl
theorem b71_0 {G : AG} (hG : FIX G) (x0 : Nat) (x1 : Nat) (x2 : Int32) (H : Hp) : G 71 0 [some (.inr (.inr x0)), some (.inr (.inr x1)), some (.inl x2), none, none, none, none, none, none] [] H = ((hpI H x0 19 x2).bind fun H1 => (hpZ H1 x0 20 0).bind fun H2 => (hpI H2 x0 16 ((-1))).bind fun H3 => bif Nat.beq (H3.1 x0).1 6 then (G 72 0 [some (.inr (.inr x0))] [] H3).bind fun u4 => (asV u4.1).bind fun _ => G 71 21 [some (.inr (.inr x0)), some (.inr (.inr x1)), some (.inl x2), some (.inl 0), none, none, none, none, none] [] u4.2 else none) := by
  refine Eq.trans (e1 hG PT_71 k71_0 _ _ _) ?_
  show G 71 1 [some (.inr (.inr x0)), some (.inr (.inr x1)), some (.inl x2), none, none, none, none, none, none] [.inr (.inr x0)] H = _
  refine Eq.trans (e1 hG PT_71 k71_1 _ _ _) ?_
  show G 71 2 [some (.inr (.inr x0)), some (.inr (.inr x1)), some (.inl x2), none, none, none, none, none, none] [.inl x2, .inr (.inr x0)] H = _
  refine Eq.trans (e1 hG PT_71 k71_2 _ _ _) ?_
  refine bdc fun H1 => ?_
  show G 71 5 [some (.inr (.inr x0)), some (.inr (.inr x1)), some (.inl x2), none, none, none, none, none, none] [] H1 = _
  refine Eq.trans (e1 hG PT_71 k71_5 _ _ _) ?_
  show G 71 6 [some (.inr (.inr x0)), some (.inr (.inr x1)), some (.inl x2), none, none, none, none, none, none] [.inr (.inr x0)] H1 = _
  refine Eq.trans (e1 hG PT_71 k71_6 _ _ _) ?_
  show G 71 7 [some (.inr (.inr x0)), some (.inr (.inr x1)), some (.inl x2), none, none, none, none, none, none] [.inl 0, .inr (.inr x0)] H1 = _
  refine Eq.trans (e1 hG PT_71 k71_7 _ _ _) ?_
  refine bdc fun H2 => ?_
  show G 71 10 [some (.inr (.inr x0)), some (.inr (.inr x1)), some (.inl x2), none, none, none, none, none, none] [] H2 = _
  refine Eq.trans (e1 hG PT_71 k71_10 _ _ _) ?_
  show G 71 11 [some (.inr (.inr x0)), some (.inr (.inr x1)), some (.inl x2), none, none, none, none, none, none] [.inr (.inr x0)] H2 = _
  refine Eq.trans (e1 hG PT_71 k71_11 _ _ _) ?_
  show G 71 12 [some (.inr (.inr x0)), some (.inr (.inr x1)), some (.inl x2), none, none, none, none, none, none] [.inl (-1), .inr (.inr x0)] H2 = _
  refine Eq.trans (e1 hG PT_71 k71_12 _ _ _) ?_
  refine bdc fun H3 => ?_
  show G 71 15 [some (.inr (.inr x0)), some (.inr (.inr x1)), some (.inl x2), none, none, none, none, none, none] [] H3 = _
  refine Eq.trans (e1 hG PT_71 k71_15 _ _ _) ?_
  show G 71 16 [some (.inr (.inr x0)), some (.inr (.inr x1)), some (.inl x2), none, none, none, none, none, none] [.inr (.inr x0)] H3 = _
  refine Eq.trans (e1 hG PT_71 k71_16 _ _ _) ?_
  refine bfc ?_ ?_
  · refine bdc fun u4 => ?_
    refine bdc fun _ => ?_
    show G 71 19 [some (.inr (.inr x0)), some (.inr (.inr x1)), some (.inl x2), none, none, none, none, none, none] [] u4.2 = _
    refine Eq.trans (e1 hG PT_71 k71_19 _ _ _) ?_
    show G 71 20 [some (.inr (.inr x0)), some (.inr (.inr x1)), some (.inl x2), none, none, none, none, none, none] [.inl 0] u4.2 = _
    refine Eq.trans (e1 hG PT_71 k71_20 _ _ _) ?_
    rfl
  · rfl
theorem b71_21_n {G : AG} (hG : FIX G) (x0 : Nat) (x1 : Nat) (x2 : Int32) (x3 : Int32) (o4 : Option AV) (o6 : Option AV) (o7 : Option AV) (o8 : Option AV) (H : Hp) : G 71 21 [some (.inr (.inr x0)), some (.inr (.inr x1)), some (.inl x2), some (.inl x3), o4, none, o6, o7, o8] [] H = ((hgI H x1 23).bind fun i1 => bif decide ((i1 : Int32) ≤ (x3 : Int32)) then G 71 181 [some (.inr (.inr x0)), some (.inr (.inr x1)), some (.inl x2), some (.inl x3), o4, none, o6, o7, o8] [] H else (hgI H x0 20).bind fun i2 => bif decide ((i2 : Int32) ≠ 0) then G 71 181 [some (.inr (.inr x0)), some (.inr (.inr x1)), some (.inl x2), some (.inl x3), o4, none, o6, o7, o8] [] H else bif Nat.beq (H.1 x1).1 7 then (G 18 0 [some (.inr (.inr x1)), some (.inl x3)] [] H).bind fun u3 => (asR u3.1).bind fun r4 => ((bif Nat.beq r4 0 then some (0 : Int32) else bif [10].any (Nat.beq (u3.2.1 r4).1) then some 1 else bif [1, 2, 3, 4].any (Nat.beq (u3.2.1 r4).1) then some 0 else none)).bind fun i5 => bif decide ((i5 : Int32) = 0) then ((bif Nat.beq r4 0 then some (0 : Int32) else bif [1].any (Nat.beq (u3.2.1 r4).1) then some 1 else bif [2, 3, 4, 10].any (Nat.beq (u3.2.1 r4).1) then some 0 else none)).bind fun i6 => bif decide ((i6 : Int32) = 0) then bif Nat.beq r4 0 then G 71 131 [some (.inr (.inr x0)), some (.inr (.inr x1)), some (.inl x2), some (.inl x3), some (.inr (.inr r4)), none, o6, o7, o8] [] u3.2 else (hgI u3.2 r4 1).bind fun i7 => bif decide ((i7 : Int32) ≠ (8 : Int32)) then G 71 131 [some (.inr (.inr x0)), some (.inr (.inr x1)), some (.inl x2), some (.inl x3), some (.inr (.inr r4)), none, o6, o7, o8] [] u3.2 else bif Nat.beq (u3.2.1 x0).1 6 then (G 83 0 [some (.inr (.inr x0)), none, none, none] [] u3.2).bind fun u8 => (asV u8.1).bind fun _ => G 71 175 [some (.inr (.inr x0)), some (.inr (.inr x1)), some (.inl x2), some (.inl x3), some (.inr (.inr r4)), none, o6, o7, o8] [] u8.2 else none else ((bif Nat.beq r4 0 || [1].any (Nat.beq (u3.2.1 r4).1) then some r4 else none)).bind fun r9 => bif Nat.beq (u3.2.1 x0).1 6 then (G 75 0 [some (.inr (.inr x0)), some (.inr (.inr r9)), none, none, none, none] [] u3.2).bind fun u10 => (asV u10.1).bind fun _ => G 71 175 [some (.inr (.inr x0)), some (.inr (.inr x1)), some (.inl x2), some (.inl x3), some (.inr (.inr r4)), none, some (.inr (.inr r9)), o7, o8] [] u10.2 else none else ((bif Nat.beq r4 0 || [10].any (Nat.beq (u3.2.1 r4).1) then some r4 else none)).bind fun r11 => (hgR u3.2 x0 15).bind fun r12 => (hgI u3.2 x0 16).bind fun i13 => (hAR u3.2 r12 i13).bind fun r14 => (hgI u3.2 r11 42).bind fun i15 => bif Nat.beq (u3.2.1 x0).1 6 then (G 74 0 [some (.inr (.inr x0)), some (.inr (.inr r14)), some (.inl 0), some (.inr (.inl ((i15.toInt64 * 8640)))), none] [] u3.2).bind fun u16 => (asV u16.1).bind fun _ => G 71 175 [some (.inr (.inr x0)), some (.inr (.inr x1)), some (.inl x2), some (.inl x3), some (.inr (.inr r4)), some (.inr (.inr r11)), o6, o7, o8] [] u16.2 else none else none) := by
  refine Eq.trans (e1 hG PT_71 k71_21 _ _ _) ?_
  show G 71 22 [some (.inr (.inr x0)), some (.inr (.inr x1)), some (.inl x2), some (.inl x3), o4, none, o6, o7, o8] [.inl x3] H = _
  refine Eq.trans (e1 hG PT_71 k71_22 _ _ _) ?_
  show G 71 23 [some (.inr (.inr x0)), some (.inr (.inr x1)), some (.inl x2), some (.inl x3), o4, none, o6, o7, o8] [.inr (.inr x1), .inl x3] H = _
  refine Eq.trans (e1 hG PT_71 k71_23 _ _ _) ?_
  refine bdc fun i1 => ?_
  show G 71 26 [some (.inr (.inr x0)), some (.inr (.inr x1)), some (.inl x2), some (.inl x3), o4, none, o6, o7, o8] [.inl i1, .inl x3] H = _
  refine Eq.trans (e1 hG PT_71 k71_26 _ _ _) ?_
  refine bfc ?_ ?_
  · rfl
  · show G 71 29 [some (.inr (.inr x0)), some (.inr (.inr x1)), some (.inl x2), some (.inl x3), o4, none, o6, o7, o8] [] H = _
    refine Eq.trans (e1 hG PT_71 k71_29 _ _ _) ?_
    show G 71 30 [some (.inr (.inr x0)), some (.inr (.inr x1)), some (.inl x2), some (.inl x3), o4, none, o6, o7, o8] [.inr (.inr x0)] H = _
    refine Eq.trans (e1 hG PT_71 k71_30 _ _ _) ?_
    refine bdc fun i2 => ?_
    show G 71 33 [some (.inr (.inr x0)), some (.inr (.inr x1)), some (.inl x2), some (.inl x3), o4, none, o6, o7, o8] [.inl i2] H = _
    refine Eq.trans (e1 hG PT_71 k71_33 _ _ _) ?_
    refine bfc ?_ ?_
    · rfl
    · show G 71 36 [some (.inr (.inr x0)), some (.inr (.inr x1)), some (.inl x2), some (.inl x3), o4, none, o6, o7, o8] [] H = _
      refine Eq.trans (e1 hG PT_71 k71_36 _ _ _) ?_
      show G 71 37 [some (.inr (.inr x0)), some (.inr (.inr x1)), some (.inl x2), some (.inl x3), o4, none, o6, o7, o8] [.inr (.inr x1)] H = _
      refine Eq.trans (e1 hG PT_71 k71_37 _ _ _) ?_
      show G 71 38 [some (.inr (.inr x0)), some (.inr (.inr x1)), some (.inl x2), some (.inl x3), o4, none, o6, o7, o8] [.inl x3, .inr (.inr x1)] H = _
      refine Eq.trans (e1 hG PT_71 k71_38 _ _ _) ?_
      refine bfc ?_ ?_
      · refine bdc fun u3 => ?_
        refine bdc fun r4 => ?_
        show G 71 41 [some (.inr (.inr x0)), some (.inr (.inr x1)), some (.inl x2), some (.inl x3), o4, none, o6, o7, o8] [.inr (.inr r4)] u3.2 = _
        refine Eq.trans (e1 hG PT_71 k71_41 _ _ _) ?_
        show G 71 43 [some (.inr (.inr x0)), some (.inr (.inr x1)), some (.inl x2), some (.inl x3), some (.inr (.inr r4)), none, o6, o7, o8] [] u3.2 = _
        refine Eq.trans (e1 hG PT_71 k71_43 _ _ _) ?_
        show G 71 45 [some (.inr (.inr x0)), some (.inr (.inr x1)), some (.inl x2), some (.inl x3), some (.inr (.inr r4)), none, o6, o7, o8] [.inr (.inr r4)] u3.2 = _
        refine Eq.trans (e1 hG PT_71 k71_45 _ _ _) ?_
        refine bdc fun i5 => ?_
        show G 71 48 [some (.inr (.inr x0)), some (.inr (.inr x1)), some (.inl x2), some (.inl x3), some (.inr (.inr r4)), none, o6, o7, o8] [.inl i5] u3.2 = _
        refine Eq.trans (e1 hG PT_71 k71_48 _ _ _) ?_
        refine bfc ?_ ?_
        · show G 71 85 [some (.inr (.inr x0)), some (.inr (.inr x1)), some (.inl x2), some (.inl x3), some (.inr (.inr r4)), none, o6, o7, o8] [] u3.2 = _
          refine Eq.trans (e1 hG PT_71 k71_85 _ _ _) ?_
          show G 71 87 [some (.inr (.inr x0)), some (.inr (.inr x1)), some (.inl x2), some (.inl x3), some (.inr (.inr r4)), none, o6, o7, o8] [.inr (.inr r4)] u3.2 = _
          refine Eq.trans (e1 hG PT_71 k71_87 _ _ _) ?_
          refine bdc fun i6 => ?_
          show G 71 90 [some (.inr (.inr x0)), some (.inr (.inr x1)), some (.inl x2), some (.inl x3), some (.inr (.inr r4)), none, o6, o7, o8] [.inl i6] u3.2 = _
          refine Eq.trans (e1 hG PT_71 k71_90 _ _ _) ?_
          refine bfc ?_ ?_
          · show G 71 109 [some (.inr (.inr x0)), some (.inr (.inr x1)), some (.inl x2), some (.inl x3), some (.inr (.inr r4)), none, o6, o7, o8] [] u3.2 = _
            refine Eq.trans (e1 hG PT_71 k71_109 _ _ _) ?_
            show G 71 111 [some (.inr (.inr x0)), some (.inr (.inr x1)), some (.inl x2), some (.inl x3), some (.inr (.inr r4)), none, o6, o7, o8] [.inr (.inr r4)] u3.2 = _
            refine Eq.trans (e1 hG PT_71 k71_111 _ _ _) ?_
            refine bfc ?_ ?_
            · rfl
            · show G 71 114 [some (.inr (.inr x0)), some (.inr (.inr x1)), some (.inl x2), some (.inl x3), some (.inr (.inr r4)), none, o6, o7, o8] [] u3.2 = _
              refine Eq.trans (e1 hG PT_71 k71_114 _ _ _) ?_
              show G 71 116 [some (.inr (.inr x0)), some (.inr (.inr x1)), some (.inl x2), some (.inl x3), some (.inr (.inr r4)), none, o6, o7, o8] [.inr (.inr r4)] u3.2 = _
              refine Eq.trans (e1 hG PT_71 k71_116 _ _ _) ?_
              refine bdc fun i7 => ?_
              show G 71 119 [some (.inr (.inr x0)), some (.inr (.inr x1)), some (.inl x2), some (.inl x3), some (.inr (.inr r4)), none, o6, o7, o8] [.inl i7] u3.2 = _
              refine Eq.trans (e1 hG PT_71 k71_119 _ _ _) ?_
              show G 71 121 [some (.inr (.inr x0)), some (.inr (.inr x1)), some (.inl x2), some (.inl x3), some (.inr (.inr r4)), none, o6, o7, o8] [.inl 8, .inl i7] u3.2 = _
              refine Eq.trans (e1 hG PT_71 k71_121 _ _ _) ?_
              refine bfc ?_ ?_
              · rfl
              · show G 71 124 [some (.inr (.inr x0)), some (.inr (.inr x1)), some (.inl x2), some (.inl x3), some (.inr (.inr r4)), none, o6, o7, o8] [] u3.2 = _
                refine Eq.trans (e1 hG PT_71 k71_124 _ _ _) ?_
                show G 71 125 [some (.inr (.inr x0)), some (.inr (.inr x1)), some (.inl x2), some (.inl x3), some (.inr (.inr r4)), none, o6, o7, o8] [.inr (.inr x0)] u3.2 = _
                refine Eq.trans (e1 hG PT_71 k71_125 _ _ _) ?_
                refine bfc ?_ ?_
                · refine bdc fun u8 => ?_
                  refine bdc fun _ => ?_
                  show G 71 128 [some (.inr (.inr x0)), some (.inr (.inr x1)), some (.inl x2), some (.inl x3), some (.inr (.inr r4)), none, o6, o7, o8] [] u8.2 = _
                  refine Eq.trans (e1 hG PT_71 k71_128 _ _ _) ?_
                  rfl
                · rfl
          · show G 71 93 [some (.inr (.inr x0)), some (.inr (.inr x1)), some (.inl x2), some (.inl x3), some (.inr (.inr r4)), none, o6, o7, o8] [] u3.2 = _
            refine Eq.trans (e1 hG PT_71 k71_93 _ _ _) ?_
            show G 71 95 [some (.inr (.inr x0)), some (.inr (.inr x1)), some (.inl x2), some (.inl x3), some (.inr (.inr r4)), none, o6, o7, o8] [.inr (.inr r4)] u3.2 = _
            refine Eq.trans (e1 hG PT_71 k71_95 _ _ _) ?_
            refine bdc fun r9 => ?_
            show G 71 98 [some (.inr (.inr x0)), some (.inr (.inr x1)), some (.inl x2), some (.inl x3), some (.inr (.inr r4)), none, o6, o7, o8] [.inr (.inr r9)] u3.2 = _
            refine Eq.trans (e1 hG PT_71 k71_98 _ _ _) ?_
            show G 71 100 [some (.inr (.inr x0)), some (.inr (.inr x1)), some (.inl x2), some (.inl x3), some (.inr (.inr r4)), none, some (.inr (.inr r9)), o7, o8] [] u3.2 = _
            refine Eq.trans (e1 hG PT_71 k71_100 _ _ _) ?_
            show G 71 101 [some (.inr (.inr x0)), some (.inr (.inr x1)), some (.inl x2), some (.inl x3), some (.inr (.inr r4)), none, some (.inr (.inr r9)), o7, o8] [.inr (.inr x0)] u3.2 = _
            refine Eq.trans (e1 hG PT_71 k71_101 _ _ _) ?_
            show G 71 103 [some (.inr (.inr x0)), some (.inr (.inr x1)), some (.inl x2), some (.inl x3), some (.inr (.inr r4)), none, some (.inr (.inr r9)), o7, o8] [.inr (.inr r9), .inr (.inr x0)] u3.2 = _
            refine Eq.trans (e1 hG PT_71 k71_103 _ _ _) ?_
            refine bfc ?_ ?_
            · refine bdc fun u10 => ?_
              refine bdc fun _ => ?_
              show G 71 106 [some (.inr (.inr x0)), some (.inr (.inr x1)), some (.inl x2), some (.inl x3), some (.inr (.inr r4)), none, some (.inr (.inr r9)), o7, o8] [] u10.2 = _
              refine Eq.trans (e1 hG PT_71 k71_106 _ _ _) ?_
              rfl
            · rfl
        · show G 71 51 [some (.inr (.inr x0)), some (.inr (.inr x1)), some (.inl x2), some (.inl x3), some (.inr (.inr r4)), none, o6, o7, o8] [] u3.2 = _
          refine Eq.trans (e1 hG PT_71 k71_51 _ _ _) ?_
          show G 71 53 [some (.inr (.inr x0)), some (.inr (.inr x1)), some (.inl x2), some (.inl x3), some (.inr (.inr r4)), none, o6, o7, o8] [.inr (.inr r4)] u3.2 = _
          refine Eq.trans (e1 hG PT_71 k71_53 _ _ _) ?_
          refine bdc fun r11 => ?_
          show G 71 56 [some (.inr (.inr x0)), some (.inr (.inr x1)), some (.inl x2), some (.inl x3), some (.inr (.inr r4)), none, o6, o7, o8] [.inr (.inr r11)] u3.2 = _
          refine Eq.trans (e1 hG PT_71 k71_56 _ _ _) ?_
          show G 71 58 [some (.inr (.inr x0)), some (.inr (.inr x1)), some (.inl x2), some (.inl x3), some (.inr (.inr r4)), some (.inr (.inr r11)), o6, o7, o8] [] u3.2 = _
          refine Eq.trans (e1 hG PT_71 k71_58 _ _ _) ?_
          show G 71 59 [some (.inr (.inr x0)), some (.inr (.inr x1)), some (.inl x2), some (.inl x3), some (.inr (.inr r4)), some (.inr (.inr r11)), o6, o7, o8] [.inr (.inr x0)] u3.2 = _
          refine Eq.trans (e1 hG PT_71 k71_59 _ _ _) ?_
          show G 71 60 [some (.inr (.inr x0)), some (.inr (.inr x1)), some (.inl x2), some (.inl x3), some (.inr (.inr r4)), some (.inr (.inr r11)), o6, o7, o8] [.inr (.inr x0), .inr (.inr x0)] u3.2 = _
          refine Eq.trans (e1 hG PT_71 k71_60 _ _ _) ?_
          refine bdc fun r12 => ?_
          show G 71 63 [some (.inr (.inr x0)), some (.inr (.inr x1)), some (.inl x2), some (.inl x3), some (.inr (.inr r4)), some (.inr (.inr r11)), o6, o7, o8] [.inr (.inr r12), .inr (.inr x0)] u3.2 = _
          refine Eq.trans (e1 hG PT_71 k71_63 _ _ _) ?_
          show G 71 64 [some (.inr (.inr x0)), some (.inr (.inr x1)), some (.inl x2), some (.inl x3), some (.inr (.inr r4)), some (.inr (.inr r11)), o6, o7, o8] [.inr (.inr x0), .inr (.inr r12), .inr (.inr x0)] u3.2 = _
          refine Eq.trans (e1 hG PT_71 k71_64 _ _ _) ?_
          refine bdc fun i13 => ?_
          show G 71 67 [some (.inr (.inr x0)), some (.inr (.inr x1)), some (.inl x2), some (.inl x3), some (.inr (.inr r4)), some (.inr (.inr r11)), o6, o7, o8] [.inl i13, .inr (.inr r12), .inr (.inr x0)] u3.2 = _
          refine Eq.trans (e1 hG PT_71 k71_67 _ _ _) ?_
          refine bdc fun r14 => ?_
          show G 71 68 [some (.inr (.inr x0)), some (.inr (.inr x1)), some (.inl x2), some (.inl x3), some (.inr (.inr r4)), some (.inr (.inr r11)), o6, o7, o8] [.inr (.inr r14), .inr (.inr x0)] u3.2 = _
          refine Eq.trans (e1 hG PT_71 k71_68 _ _ _) ?_
          show G 71 69 [some (.inr (.inr x0)), some (.inr (.inr x1)), some (.inl x2), some (.inl x3), some (.inr (.inr r4)), some (.inr (.inr r11)), o6, o7, o8] [.inl 0, .inr (.inr r14), .inr (.inr x0)] u3.2 = _
          refine Eq.trans (e1 hG PT_71 k71_69 _ _ _) ?_
          show G 71 71 [some (.inr (.inr x0)), some (.inr (.inr x1)), some (.inl x2), some (.inl x3), some (.inr (.inr r4)), some (.inr (.inr r11)), o6, o7, o8] [.inr (.inr r11), .inl 0, .inr (.inr r14), .inr (.inr x0)] u3.2 = _
          refine Eq.trans (e1 hG PT_71 k71_71 _ _ _) ?_
          refine bdc fun i15 => ?_
          show G 71 74 [some (.inr (.inr x0)), some (.inr (.inr x1)), some (.inl x2), some (.inl x3), some (.inr (.inr r4)), some (.inr (.inr r11)), o6, o7, o8] [.inl i15, .inl 0, .inr (.inr r14), .inr (.inr x0)] u3.2 = _
          refine Eq.trans (e1 hG PT_71 k71_74 _ _ _) ?_
          show G 71 75 [some (.inr (.inr x0)), some (.inr (.inr x1)), some (.inl x2), some (.inl x3), some (.inr (.inr r4)), some (.inr (.inr r11)), o6, o7, o8] [.inr (.inl i15.toInt64), .inl 0, .inr (.inr r14), .inr (.inr x0)] u3.2 = _
          refine Eq.trans (e1 hG PT_71 k71_75 _ _ _) ?_
          show G 71 78 [some (.inr (.inr x0)), some (.inr (.inr x1)), some (.inl x2), some (.inl x3), some (.inr (.inr r4)), some (.inr (.inr r11)), o6, o7, o8] [.inr (.inl 8640), .inr (.inl i15.toInt64), .inl 0, .inr (.inr r14), .inr (.inr x0)] u3.2 = _
          refine Eq.trans (e1 hG PT_71 k71_78 _ _ _) ?_
          show G 71 79 [some (.inr (.inr x0)), some (.inr (.inr x1)), some (.inl x2), some (.inl x3), some (.inr (.inr r4)), some (.inr (.inr r11)), o6, o7, o8] [.inr (.inl (i15.toInt64 * 8640)), .inl 0, .inr (.inr r14), .inr (.inr x0)] u3.2 = _
          refine Eq.trans (e1 hG PT_71 k71_79 _ _ _) ?_
          refine bfc ?_ ?_
          · refine bdc fun u16 => ?_
            refine bdc fun _ => ?_
            show G 71 82 [some (.inr (.inr x0)), some (.inr (.inr x1)), some (.inl x2), some (.inl x3), some (.inr (.inr r4)), some (.inr (.inr r11)), o6, o7, o8] [] u16.2 = _
            refine Eq.trans (e1 hG PT_71 k71_82 _ _ _) ?_
            rfl
          · rfl
      · rfl
theorem b71_21_R {G : AG} (hG : FIX G) (x0 : Nat) (x1 : Nat) (x2 : Int32) (x3 : Int32) (o4 : Option AV) (o6 : Option AV) (o7 : Option AV) (o8 : Option AV) (x5 : Nat) (H : Hp) : G 71 21 [some (.inr (.inr x0)), some (.inr (.inr x1)), some (.inl x2), some (.inl x3), o4, some (.inr (.inr x5)), o6, o7, o8] [] H = ((hgI H x1 23).bind fun i1 => bif decide ((i1 : Int32) ≤ (x3 : Int32)) then G 71 181 [some (.inr (.inr x0)), some (.inr (.inr x1)), some (.inl x2), some (.inl x3), o4, some (.inr (.inr x5)), o6, o7, o8] [] H else (hgI H x0 20).bind fun i2 => bif decide ((i2 : Int32) ≠ 0) then G 71 181 [some (.inr (.inr x0)), some (.inr (.inr x1)), some (.inl x2), some (.inl x3), o4, some (.inr (.inr x5)), o6, o7, o8] [] H else bif Nat.beq (H.1 x1).1 7 then (G 18 0 [some (.inr (.inr x1)), some (.inl x3)] [] H).bind fun u3 => (asR u3.1).bind fun r4 => ((bif Nat.beq r4 0 then some (0 : Int32) else bif [10].any (Nat.beq (u3.2.1 r4).1) then some 1 else bif [1, 2, 3, 4].any (Nat.beq (u3.2.1 r4).1) then some 0 else none)).bind fun i5 => bif decide ((i5 : Int32) = 0) then ((bif Nat.beq r4 0 then some (0 : Int32) else bif [1].any (Nat.beq (u3.2.1 r4).1) then some 1 else bif [2, 3, 4, 10].any (Nat.beq (u3.2.1 r4).1) then some 0 else none)).bind fun i6 => bif decide ((i6 : Int32) = 0) then bif Nat.beq r4 0 then G 71 131 [some (.inr (.inr x0)), some (.inr (.inr x1)), some (.inl x2), some (.inl x3), some (.inr (.inr r4)), some (.inr (.inr x5)), o6, o7, o8] [] u3.2 else (hgI u3.2 r4 1).bind fun i7 => bif decide ((i7 : Int32) ≠ (8 : Int32)) then G 71 131 [some (.inr (.inr x0)), some (.inr (.inr x1)), some (.inl x2), some (.inl x3), some (.inr (.inr r4)), some (.inr (.inr x5)), o6, o7, o8] [] u3.2 else bif Nat.beq (u3.2.1 x0).1 6 then (G 83 0 [some (.inr (.inr x0)), none, none, none] [] u3.2).bind fun u8 => (asV u8.1).bind fun _ => G 71 175 [some (.inr (.inr x0)), some (.inr (.inr x1)), some (.inl x2), some (.inl x3), some (.inr (.inr r4)), some (.inr (.inr x5)), o6, o7, o8] [] u8.2 else none else ((bif Nat.beq r4 0 || [1].any (Nat.beq (u3.2.1 r4).1) then some r4 else none)).bind fun r9 => bif Nat.beq (u3.2.1 x0).1 6 then (G 75 0 [some (.inr (.inr x0)), some (.inr (.inr r9)), none, none, none, none] [] u3.2).bind fun u10 => (asV u10.1).bind fun _ => G 71 175 [some (.inr (.inr x0)), some (.inr (.inr x1)), some (.inl x2), some (.inl x3), some (.inr (.inr r4)), some (.inr (.inr x5)), some (.inr (.inr r9)), o7, o8] [] u10.2 else none else ((bif Nat.beq r4 0 || [10].any (Nat.beq (u3.2.1 r4).1) then some r4 else none)).bind fun r11 => (hgR u3.2 x0 15).bind fun r12 => (hgI u3.2 x0 16).bind fun i13 => (hAR u3.2 r12 i13).bind fun r14 => (hgI u3.2 r11 42).bind fun i15 => bif Nat.beq (u3.2.1 x0).1 6 then (G 74 0 [some (.inr (.inr x0)), some (.inr (.inr r14)), some (.inl 0), some (.inr (.inl ((i15.toInt64 * 8640)))), none] [] u3.2).bind fun u16 => (asV u16.1).bind fun _ => G 71 175 [some (.inr (.inr x0)), some (.inr (.inr x1)), some (.inl x2), some (.inl x3), some (.inr (.inr r4)), some (.inr (.inr r11)), o6, o7, o8] [] u16.2 else none else none) := by
  refine Eq.trans (e1 hG PT_71 k71_21 _ _ _) ?_
  show G 71 22 [some (.inr (.inr x0)), some (.inr (.inr x1)), some (.inl x2), some (.inl x3), o4, some (.inr (.inr x5)), o6, o7, o8] [.inl x3] H = _
  refine Eq.trans (e1 hG PT_71 k71_22 _ _ _) ?_
  show G 71 23 [some (.inr (.inr x0)), some (.inr (.inr x1)), some (.inl x2), some (.inl x3), o4, some (.inr (.inr x5)), o6, o7, o8] [.inr (.inr x1), .inl x3] H = _
  refine Eq.trans (e1 hG PT_71 k71_23 _ _ _) ?_
  refine bdc fun i1 => ?_
  show G 71 26 [some (.inr (.inr x0)), some (.inr (.inr x1)), some (.inl x2), some (.inl x3), o4, some (.inr (.inr x5)), o6, o7, o8] [.inl i1, .inl x3] H = _
  refine Eq.trans (e1 hG PT_71 k71_26 _ _ _) ?_
  refine bfc ?_ ?_
  · rfl
  · show G 71 29 [some (.inr (.inr x0)), some (.inr (.inr x1)), some (.inl x2), some (.inl x3), o4, some (.inr (.inr x5)), o6, o7, o8] [] H = _
    refine Eq.trans (e1 hG PT_71 k71_29 _ _ _) ?_
    show G 71 30 [some (.inr (.inr x0)), some (.inr (.inr x1)), some (.inl x2), some (.inl x3), o4, some (.inr (.inr x5)), o6, o7, o8] [.inr (.inr x0)] H = _
    refine Eq.trans (e1 hG PT_71 k71_30 _ _ _) ?_
    refine bdc fun i2 => ?_
    show G 71 33 [some (.inr (.inr x0)), some (.inr (.inr x1)), some (.inl x2), some (.inl x3), o4, some (.inr (.inr x5)), o6, o7, o8] [.inl i2] H = _
    refine Eq.trans (e1 hG PT_71 k71_33 _ _ _) ?_
    refine bfc ?_ ?_
    · rfl
    · show G 71 36 [some (.inr (.inr x0)), some (.inr (.inr x1)), some (.inl x2), some (.inl x3), o4, some (.inr (.inr x5)), o6, o7, o8] [] H = _
      refine Eq.trans (e1 hG PT_71 k71_36 _ _ _) ?_
      show G 71 37 [some (.inr (.inr x0)), some (.inr (.inr x1)), some (.inl x2), some (.inl x3), o4, some (.inr (.inr x5)), o6, o7, o8] [.inr (.inr x1)] H = _
      refine Eq.trans (e1 hG PT_71 k71_37 _ _ _) ?_
      show G 71 38 [some (.inr (.inr x0)), some (.inr (.inr x1)), some (.inl x2), some (.inl x3), o4, some (.inr (.inr x5)), o6, o7, o8] [.inl x3, .inr (.inr x1)] H = _
      refine Eq.trans (e1 hG PT_71 k71_38 _ _ _) ?_
      refine bfc ?_ ?_
      · refine bdc fun u3 => ?_
        refine bdc fun r4 => ?_
        show G 71 41 [some (.inr (.inr x0)), some (.inr (.inr x1)), some (.inl x2), some (.inl x3), o4, some (.inr (.inr x5)), o6, o7, o8] [.inr (.inr r4)] u3.2 = _
        refine Eq.trans (e1 hG PT_71 k71_41 _ _ _) ?_
        show G 71 43 [some (.inr (.inr x0)), some (.inr (.inr x1)), some (.inl x2), some (.inl x3), some (.inr (.inr r4)), some (.inr (.inr x5)), o6, o7, o8] [] u3.2 = _
        refine Eq.trans (e1 hG PT_71 k71_43 _ _ _) ?_
        show G 71 45 [some (.inr (.inr x0)), some (.inr (.inr x1)), some (.inl x2), some (.inl x3), some (.inr (.inr r4)), some (.inr (.inr x5)), o6, o7, o8] [.inr (.inr r4)] u3.2 = _
        refine Eq.trans (e1 hG PT_71 k71_45 _ _ _) ?_
        refine bdc fun i5 => ?_
        show G 71 48 [some (.inr (.inr x0)), some (.inr (.inr x1)), some (.inl x2), some (.inl x3), some (.inr (.inr r4)), some (.inr (.inr x5)), o6, o7, o8] [.inl i5] u3.2 = _
        refine Eq.trans (e1 hG PT_71 k71_48 _ _ _) ?_
        refine bfc ?_ ?_
        · show G 71 85 [some (.inr (.inr x0)), some (.inr (.inr x1)), some (.inl x2), some (.inl x3), some (.inr (.inr r4)), some (.inr (.inr x5)), o6, o7, o8] [] u3.2 = _
          refine Eq.trans (e1 hG PT_71 k71_85 _ _ _) ?_
          show G 71 87 [some (.inr (.inr x0)), some (.inr (.inr x1)), some (.inl x2), some (.inl x3), some (.inr (.inr r4)), some (.inr (.inr x5)), o6, o7, o8] [.inr (.inr r4)] u3.2 = _
          refine Eq.trans (e1 hG PT_71 k71_87 _ _ _) ?_
          refine bdc fun i6 => ?_
          show G 71 90 [some (.inr (.inr x0)), some (.inr (.inr x1)), some (.inl x2), some (.inl x3), some (.inr (.inr r4)), some (.inr (.inr x5)), o6, o7, o8] [.inl i6] u3.2 = _
          refine Eq.trans (e1 hG PT_71 k71_90 _ _ _) ?_
          refine bfc ?_ ?_
          · show G 71 109 [some (.inr (.inr x0)), some (.inr (.inr x1)), some (.inl x2), some (.inl x3), some (.inr (.inr r4)), some (.inr (.inr x5)), o6, o7, o8] [] u3.2 = _
            refine Eq.trans (e1 hG PT_71 k71_109 _ _ _) ?_
            show G 71 111 [some (.inr (.inr x0)), some (.inr (.inr x1)), some (.inl x2), some (.inl x3), some (.inr (.inr r4)), some (.inr (.inr x5)), o6, o7, o8] [.inr (.inr r4)] u3.2 = _
            refine Eq.trans (e1 hG PT_71 k71_111 _ _ _) ?_
            refine bfc ?_ ?_
            · rfl
            · show G 71 114 [some (.inr (.inr x0)), some (.inr (.inr x1)), some (.inl x2), some (.inl x3), some (.inr (.inr r4)), some (.inr (.inr x5)), o6, o7, o8] [] u3.2 = _
              refine Eq.trans (e1 hG PT_71 k71_114 _ _ _) ?_
              show G 71 116 [some (.inr (.inr x0)), some (.inr (.inr x1)), some (.inl x2), some (.inl x3), some (.inr (.inr r4)), some (.inr (.inr x5)), o6, o7, o8] [.inr (.inr r4)] u3.2 = _
              refine Eq.trans (e1 hG PT_71 k71_116 _ _ _) ?_
              refine bdc fun i7 => ?_
              show G 71 119 [some (.inr (.inr x0)), some (.inr (.inr x1)), some (.inl x2), some (.inl x3), some (.inr (.inr r4)), some (.inr (.inr x5)), o6, o7, o8] [.inl i7] u3.2 = _
              refine Eq.trans (e1 hG PT_71 k71_119 _ _ _) ?_
              show G 71 121 [some (.inr (.inr x0)), some (.inr (.inr x1)), some (.inl x2), some (.inl x3), some (.inr (.inr r4)), some (.inr (.inr x5)), o6, o7, o8] [.inl 8, .inl i7] u3.2 = _
              refine Eq.trans (e1 hG PT_71 k71_121 _ _ _) ?_
              refine bfc ?_ ?_
              · rfl
              · show G 71 124 [some (.inr (.inr x0)), some (.inr (.inr x1)), some (.inl x2), some (.inl x3), some (.inr (.inr r4)), some (.inr (.inr x5)), o6, o7, o8] [] u3.2 = _
                refine Eq.trans (e1 hG PT_71 k71_124 _ _ _) ?_
                show G 71 125 [some (.inr (.inr x0)), some (.inr (.inr x1)), some (.inl x2), some (.inl x3), some (.inr (.inr r4)), some (.inr (.inr x5)), o6, o7, o8] [.inr (.inr x0)] u3.2 = _
                refine Eq.trans (e1 hG PT_71 k71_125 _ _ _) ?_
                refine bfc ?_ ?_
                · refine bdc fun u8 => ?_
                  refine bdc fun _ => ?_
                  show G 71 128 [some (.inr (.inr x0)), some (.inr (.inr x1)), some (.inl x2), some (.inl x3), some (.inr (.inr r4)), some (.inr (.inr x5)), o6, o7, o8] [] u8.2 = _
                  refine Eq.trans (e1 hG PT_71 k71_128 _ _ _) ?_
                  rfl
                · rfl
          · show G 71 93 [some (.inr (.inr x0)), some (.inr (.inr x1)), some (.inl x2), some (.inl x3), some (.inr (.inr r4)), some (.inr (.inr x5)), o6, o7, o8] [] u3.2 = _
            refine Eq.trans (e1 hG PT_71 k71_93 _ _ _) ?_
            show G 71 95 [some (.inr (.inr x0)), some (.inr (.inr x1)), some (.inl x2), some (.inl x3), some (.inr (.inr r4)), some (.inr (.inr x5)), o6, o7, o8] [.inr (.inr r4)] u3.2 = _
            refine Eq.trans (e1 hG PT_71 k71_95 _ _ _) ?_
            refine bdc fun r9 => ?_
            show G 71 98 [some (.inr (.inr x0)), some (.inr (.inr x1)), some (.inl x2), some (.inl x3), some (.inr (.inr r4)), some (.inr (.inr x5)), o6, o7, o8] [.inr (.inr r9)] u3.2 = _
            refine Eq.trans (e1 hG PT_71 k71_98 _ _ _) ?_
            show G 71 100 [some (.inr (.inr x0)), some (.inr (.inr x1)), some (.inl x2), some (.inl x3), some (.inr (.inr r4)), some (.inr (.inr x5)), some (.inr (.inr r9)), o7, o8] [] u3.2 = _
            refine Eq.trans (e1 hG PT_71 k71_100 _ _ _) ?_
            show G 71 101 [some (.inr (.inr x0)), some (.inr (.inr x1)), some (.inl x2), some (.inl x3), some (.inr (.inr r4)), some (.inr (.inr x5)), some (.inr (.inr r9)), o7, o8] [.inr (.inr x0)] u3.2 = _
            refine Eq.trans (e1 hG PT_71 k71_101 _ _ _) ?_
            show G 71 103 [some (.inr (.inr x0)), some (.inr (.inr x1)), some (.inl x2), some (.inl x3), some (.inr (.inr r4)), some (.inr (.inr x5)), some (.inr (.inr r9)), o7, o8] [.inr (.inr r9), .inr (.inr x0)] u3.2 = _
            refine Eq.trans (e1 hG PT_71 k71_103 _ _ _) ?_
            refine bfc ?_ ?_
            · refine bdc fun u10 => ?_
              refine bdc fun _ => ?_
              show G 71 106 [some (.inr (.inr x0)), some (.inr (.inr x1)), some (.inl x2), some (.inl x3), some (.inr (.inr r4)), some (.inr (.inr x5)), some (.inr (.inr r9)), o7, o8] [] u10.2 = _
              refine Eq.trans (e1 hG PT_71 k71_106 _ _ _) ?_
              rfl
            · rfl
        · show G 71 51 [some (.inr (.inr x0)), some (.inr (.inr x1)), some (.inl x2), some (.inl x3), some (.inr (.inr r4)), some (.inr (.inr x5)), o6, o7, o8] [] u3.2 = _
          refine Eq.trans (e1 hG PT_71 k71_51 _ _ _) ?_
          show G 71 53 [some (.inr (.inr x0)), some (.inr (.inr x1)), some (.inl x2), some (.inl x3), some (.inr (.inr r4)), some (.inr (.inr x5)), o6, o7, o8] [.inr (.inr r4)] u3.2 = _
          refine Eq.trans (e1 hG PT_71 k71_53 _ _ _) ?_
          refine bdc fun r11 => ?_
          show G 71 56 [some (.inr (.inr x0)), some (.inr (.inr x1)), some (.inl x2), some (.inl x3), some (.inr (.inr r4)), some (.inr (.inr x5)), o6, o7, o8] [.inr (.inr r11)] u3.2 = _
          refine Eq.trans (e1 hG PT_71 k71_56 _ _ _) ?_
          show G 71 58 [some (.inr (.inr x0)), some (.inr (.inr x1)), some (.inl x2), some (.inl x3), some (.inr (.inr r4)), some (.inr (.inr r11)), o6, o7, o8] [] u3.2 = _
          refine Eq.trans (e1 hG PT_71 k71_58 _ _ _) ?_
          show G 71 59 [some (.inr (.inr x0)), some (.inr (.inr x1)), some (.inl x2), some (.inl x3), some (.inr (.inr r4)), some (.inr (.inr r11)), o6, o7, o8] [.inr (.inr x0)] u3.2 = _
          refine Eq.trans (e1 hG PT_71 k71_59 _ _ _) ?_
          show G 71 60 [some (.inr (.inr x0)), some (.inr (.inr x1)), some (.inl x2), some (.inl x3), some (.inr (.inr r4)), some (.inr (.inr r11)), o6, o7, o8] [.inr (.inr x0), .inr (.inr x0)] u3.2 = _
          refine Eq.trans (e1 hG PT_71 k71_60 _ _ _) ?_
          refine bdc fun r12 => ?_
          show G 71 63 [some (.inr (.inr x0)), some (.inr (.inr x1)), some (.inl x2), some (.inl x3), some (.inr (.inr r4)), some (.inr (.inr r11)), o6, o7, o8] [.inr (.inr r12), .inr (.inr x0)] u3.2 = _
          refine Eq.trans (e1 hG PT_71 k71_63 _ _ _) ?_
          show G 71 64 [some (.inr (.inr x0)), some (.inr (.inr x1)), some (.inl x2), some (.inl x3), some (.inr (.inr r4)), some (.inr (.inr r11)), o6, o7, o8] [.inr (.inr x0), .inr (.inr r12), .inr (.inr x0)] u3.2 = _
          refine Eq.trans (e1 hG PT_71 k71_64 _ _ _) ?_
          refine bdc fun i13 => ?_
          show G 71 67 [some (.inr (.inr x0)), some (.inr (.inr x1)), some (.inl x2), some (.inl x3), some (.inr (.inr r4)), some (.inr (.inr r11)), o6, o7, o8] [.inl i13, .inr (.inr r12), .inr (.inr x0)] u3.2 = _
          refine Eq.trans (e1 hG PT_71 k71_67 _ _ _) ?_
          refine bdc fun r14 => ?_
          show G 71 68 [some (.inr (.inr x0)), some (.inr (.inr x1)), some (.inl x2), some (.inl x3), some (.inr (.inr r4)), some (.inr (.inr r11)), o6, o7, o8] [.inr (.inr r14), .inr (.inr x0)] u3.2 = _
          refine Eq.trans (e1 hG PT_71 k71_68 _ _ _) ?_
          show G 71 69 [some (.inr (.inr x0)), some (.inr (.inr x1)), some (.inl x2), some (.inl x3), some (.inr (.inr r4)), some (.inr (.inr r11)), o6, o7, o8] [.inl 0, .inr (.inr r14), .inr (.inr x0)] u3.2 = _
          refine Eq.trans (e1 hG PT_71 k71_69 _ _ _) ?_
          show G 71 71 [some (.inr (.inr x0)), some (.inr (.inr x1)), some (.inl x2), some (.inl x3), some (.inr (.inr r4)), some (.inr (.inr r11)), o6, o7, o8] [.inr (.inr r11), .inl 0, .inr (.inr r14), .inr (.inr x0)] u3.2 = _
          refine Eq.trans (e1 hG PT_71 k71_71 _ _ _) ?_
          refine bdc fun i15 => ?_
          show G 71 74 [some (.inr (.inr x0)), some (.inr (.inr x1)), some (.inl x2), some (.inl x3), some (.inr (.inr r4)), some (.inr (.inr r11)), o6, o7, o8] [.inl i15, .inl 0, .inr (.inr r14), .inr (.inr x0)] u3.2 = _
          refine Eq.trans (e1 hG PT_71 k71_74 _ _ _) ?_
          show G 71 75 [some (.inr (.inr x0)), some (.inr (.inr x1)), some (.inl x2), some (.inl x3), some (.inr (.inr r4)), some (.inr (.inr r11)), o6, o7, o8] [.inr (.inl i15.toInt64), .inl 0, .inr (.inr r14), .inr (.inr x0)] u3.2 = _
          refine Eq.trans (e1 hG PT_71 k71_75 _ _ _) ?_
          show G 71 78 [some (.inr (.inr x0)), some (.inr (.inr x1)), some (.inl x2), some (.inl x3), some (.inr (.inr r4)), some (.inr (.inr r11)), o6, o7, o8] [.inr (.inl 8640), .inr (.inl i15.toInt64), .inl 0, .inr (.inr r14), .inr (.inr x0)] u3.2 = _
          refine Eq.trans (e1 hG PT_71 k71_78 _ _ _) ?_
          show G 71 79 [some (.inr (.inr x0)), some (.inr (.inr x1)), some (.inl x2), some (.inl x3), some (.inr (.inr r4)), some (.inr (.inr r11)), o6, o7, o8] [.inr (.inl (i15.toInt64 * 8640)), .inl 0, .inr (.inr r14), .inr (.inr x0)] u3.2 = _
          refine Eq.trans (e1 hG PT_71 k71_79 _ _ _) ?_
          refine bfc ?_ ?_
          · refine bdc fun u16 => ?_
            refine bdc fun _ => ?_
            show G 71 82 [some (.inr (.inr x0)), some (.inr (.inr x1)), some (.inl x2), some (.inl x3), some (.inr (.inr r4)), some (.inr (.inr r11)), o6, o7, o8] [] u16.2 = _
            refine Eq.trans (e1 hG PT_71 k71_82 _ _ _) ?_
            rfl
          · rfl
      · rfl
theorem b71_131_nn {G : AG} (hG : FIX G) (x0 : Nat) (x1 : Nat) (x2 : Int32) (x3 : Int32) (x4 : Nat) (o5 : Option AV) (o8 : Option AV) (H : Hp) : G 71 131 [some (.inr (.inr x0)), some (.inr (.inr x1)), some (.inl x2), some (.inl x3), some (.inr (.inr x4)), o5, none, none, o8] [] H = (bif Nat.beq x4 0 then G 71 171 [some (.inr (.inr x0)), some (.inr (.inr x1)), some (.inl x2), some (.inl x3), some (.inr (.inr x4)), o5, none, none, o8] [] H else (hgI H x4 4).bind fun i1 => bif Nat.beq (H.1 x1).1 7 then (G 18 0 [some (.inr (.inr x1)), some (.inl i1)] [] H).bind fun u2 => (asR u2.1).bind fun r3 => ((bif Nat.beq r3 0 then some (0 : Int32) else bif [3].any (Nat.beq (u2.2.1 r3).1) then some 1 else bif [1, 2, 4, 10].any (Nat.beq (u2.2.1 r3).1) then some 0 else none)).bind fun i4 => bif decide ((i4 : Int32) = 0) then G 71 171 [some (.inr (.inr x0)), some (.inr (.inr x1)), some (.inl x2), some (.inl x3), some (.inr (.inr x4)), o5, none, none, some (.inr (.inr r3))] [] u2.2 else ((bif Nat.beq r3 0 || [3].any (Nat.beq (u2.2.1 r3).1) then some r3 else none)).bind fun r5 => bif Nat.beq (u2.2.1 x0).1 6 then (G 86 0 [some (.inr (.inr x0)), some (.inr (.inr r5)), none, none] [] u2.2).bind fun u6 => (asV u6.1).bind fun _ => G 71 175 [some (.inr (.inr x0)), some (.inr (.inr x1)), some (.inl x2), some (.inl x3), some (.inr (.inr x4)), o5, none, some (.inr (.inr r5)), some (.inr (.inr r3))] [] u6.2 else none else none) := by
  refine Eq.trans (e1 hG PT_71 k71_131 _ _ _) ?_
  show G 71 133 [some (.inr (.inr x0)), some (.inr (.inr x1)), some (.inl x2), some (.inl x3), some (.inr (.inr x4)), o5, none, none, o8] [.inr (.inr x4)] H = _
  refine Eq.trans (e1 hG PT_71 k71_133 _ _ _) ?_
  refine bfc ?_ ?_
  · rfl
  · show G 71 136 [some (.inr (.inr x0)), some (.inr (.inr x1)), some (.inl x2), some (.inl x3), some (.inr (.inr x4)), o5, none, none, o8] [] H = _
    refine Eq.trans (e1 hG PT_71 k71_136 _ _ _) ?_
    show G 71 137 [some (.inr (.inr x0)), some (.inr (.inr x1)), some (.inl x2), some (.inl x3), some (.inr (.inr x4)), o5, none, none, o8] [.inr (.inr x1)] H = _
    refine Eq.trans (e1 hG PT_71 k71_137 _ _ _) ?_
    show G 71 139 [some (.inr (.inr x0)), some (.inr (.inr x1)), some (.inl x2), some (.inl x3), some (.inr (.inr x4)), o5, none, none, o8] [.inr (.inr x4), .inr (.inr x1)] H = _
    refine Eq.trans (e1 hG PT_71 k71_139 _ _ _) ?_
    refine bdc fun i1 => ?_
    show G 71 142 [some (.inr (.inr x0)), some (.inr (.inr x1)), some (.inl x2), some (.inl x3), some (.inr (.inr x4)), o5, none, none, o8] [.inl i1, .inr (.inr x1)] H = _
    refine Eq.trans (e1 hG PT_71 k71_142 _ _ _) ?_
    refine bfc ?_ ?_
    · refine bdc fun u2 => ?_
      refine bdc fun r3 => ?_
      show G 71 145 [some (.inr (.inr x0)), some (.inr (.inr x1)), some (.inl x2), some (.inl x3), some (.inr (.inr x4)), o5, none, none, o8] [.inr (.inr r3)] u2.2 = _
      refine Eq.trans (e1 hG PT_71 k71_145 _ _ _) ?_
      show G 71 147 [some (.inr (.inr x0)), some (.inr (.inr x1)), some (.inl x2), some (.inl x3), some (.inr (.inr x4)), o5, none, none, some (.inr (.inr r3))] [] u2.2 = _
      refine Eq.trans (e1 hG PT_71 k71_147 _ _ _) ?_
      show G 71 149 [some (.inr (.inr x0)), some (.inr (.inr x1)), some (.inl x2), some (.inl x3), some (.inr (.inr x4)), o5, none, none, some (.inr (.inr r3))] [.inr (.inr r3)] u2.2 = _
      refine Eq.trans (e1 hG PT_71 k71_149 _ _ _) ?_
      refine bdc fun i4 => ?_
      show G 71 152 [some (.inr (.inr x0)), some (.inr (.inr x1)), some (.inl x2), some (.inl x3), some (.inr (.inr x4)), o5, none, none, some (.inr (.inr r3))] [.inl i4] u2.2 = _
      refine Eq.trans (e1 hG PT_71 k71_152 _ _ _) ?_
      refine bfc ?_ ?_
      · rfl
      · show G 71 155 [some (.inr (.inr x0)), some (.inr (.inr x1)), some (.inl x2), some (.inl x3), some (.inr (.inr x4)), o5, none, none, some (.inr (.inr r3))] [] u2.2 = _
        refine Eq.trans (e1 hG PT_71 k71_155 _ _ _) ?_
        show G 71 157 [some (.inr (.inr x0)), some (.inr (.inr x1)), some (.inl x2), some (.inl x3), some (.inr (.inr x4)), o5, none, none, some (.inr (.inr r3))] [.inr (.inr r3)] u2.2 = _
        refine Eq.trans (e1 hG PT_71 k71_157 _ _ _) ?_
        refine bdc fun r5 => ?_
        show G 71 160 [some (.inr (.inr x0)), some (.inr (.inr x1)), some (.inl x2), some (.inl x3), some (.inr (.inr x4)), o5, none, none, some (.inr (.inr r3))] [.inr (.inr r5)] u2.2 = _
        refine Eq.trans (e1 hG PT_71 k71_160 _ _ _) ?_
        show G 71 162 [some (.inr (.inr x0)), some (.inr (.inr x1)), some (.inl x2), some (.inl x3), some (.inr (.inr x4)), o5, none, some (.inr (.inr r5)), some (.inr (.inr r3))] [] u2.2 = _
        refine Eq.trans (e1 hG PT_71 k71_162 _ _ _) ?_
        show G 71 163 [some (.inr (.inr x0)), some (.inr (.inr x1)), some (.inl x2), some (.inl x3), some (.inr (.inr x4)), o5, none, some (.inr (.inr r5)), some (.inr (.inr r3))] [.inr (.inr x0)] u2.2 = _
        refine Eq.trans (e1 hG PT_71 k71_163 _ _ _) ?_
        show G 71 165 [some (.inr (.inr x0)), some (.inr (.inr x1)), some (.inl x2), some (.inl x3), some (.inr (.inr x4)), o5, none, some (.inr (.inr r5)), some (.inr (.inr r3))] [.inr (.inr r5), .inr (.inr x0)] u2.2 = _
        refine Eq.trans (e1 hG PT_71 k71_165 _ _ _) ?_
        refine bfc ?_ ?_
        · refine bdc fun u6 => ?_
          refine bdc fun _ => ?_
          show G 71 168 [some (.inr (.inr x0)), some (.inr (.inr x1)), some (.inl x2), some (.inl x3), some (.inr (.inr x4)), o5, none, some (.inr (.inr r5)), some (.inr (.inr r3))] [] u6.2 = _
          refine Eq.trans (e1 hG PT_71 k71_168 _ _ _) ?_
          rfl
        · rfl
    · rfl
theorem b71_131_nR {G : AG} (hG : FIX G) (x0 : Nat) (x1 : Nat) (x2 : Int32) (x3 : Int32) (x4 : Nat) (o5 : Option AV) (o8 : Option AV) (x6 : Nat) (H : Hp) : G 71 131 [some (.inr (.inr x0)), some (.inr (.inr x1)), some (.inl x2), some (.inl x3), some (.inr (.inr x4)), o5, some (.inr (.inr x6)), none, o8] [] H = (bif Nat.beq x4 0 then G 71 171 [some (.inr (.inr x0)), some (.inr (.inr x1)), some (.inl x2), some (.inl x3), some (.inr (.inr x4)), o5, some (.inr (.inr x6)), none, o8] [] H else (hgI H x4 4).bind fun i1 => bif Nat.beq (H.1 x1).1 7 then (G 18 0 [some (.inr (.inr x1)), some (.inl i1)] [] H).bind fun u2 => (asR u2.1).bind fun r3 => ((bif Nat.beq r3 0 then some (0 : Int32) else bif [3].any (Nat.beq (u2.2.1 r3).1) then some 1 else bif [1, 2, 4, 10].any (Nat.beq (u2.2.1 r3).1) then some 0 else none)).bind fun i4 => bif decide ((i4 : Int32) = 0) then G 71 171 [some (.inr (.inr x0)), some (.inr (.inr x1)), some (.inl x2), some (.inl x3), some (.inr (.inr x4)), o5, some (.inr (.inr x6)), none, some (.inr (.inr r3))] [] u2.2 else ((bif Nat.beq r3 0 || [3].any (Nat.beq (u2.2.1 r3).1) then some r3 else none)).bind fun r5 => bif Nat.beq (u2.2.1 x0).1 6 then (G 86 0 [some (.inr (.inr x0)), some (.inr (.inr r5)), none, none] [] u2.2).bind fun u6 => (asV u6.1).bind fun _ => G 71 175 [some (.inr (.inr x0)), some (.inr (.inr x1)), some (.inl x2), some (.inl x3), some (.inr (.inr x4)), o5, some (.inr (.inr x6)), some (.inr (.inr r5)), some (.inr (.inr r3))] [] u6.2 else none else none) := by
  refine Eq.trans (e1 hG PT_71 k71_131 _ _ _) ?_
  show G 71 133 [some (.inr (.inr x0)), some (.inr (.inr x1)), some (.inl x2), some (.inl x3), some (.inr (.inr x4)), o5, some (.inr (.inr x6)), none, o8] [.inr (.inr x4)] H = _
  refine Eq.trans (e1 hG PT_71 k71_133 _ _ _) ?_
  refine bfc ?_ ?_
  · rfl
  · show G 71 136 [some (.inr (.inr x0)), some (.inr (.inr x1)), some (.inl x2), some (.inl x3), some (.inr (.inr x4)), o5, some (.inr (.inr x6)), none, o8] [] H = _
    refine Eq.trans (e1 hG PT_71 k71_136 _ _ _) ?_
    show G 71 137 [some (.inr (.inr x0)), some (.inr (.inr x1)), some (.inl x2), some (.inl x3), some (.inr (.inr x4)), o5, some (.inr (.inr x6)), none, o8] [.inr (.inr x1)] H = _
    refine Eq.trans (e1 hG PT_71 k71_137 _ _ _) ?_
    show G 71 139 [some (.inr (.inr x0)), some (.inr (.inr x1)), some (.inl x2), some (.inl x3), some (.inr (.inr x4)), o5, some (.inr (.inr x6)), none, o8] [.inr (.inr x4), .inr (.inr x1)] H = _
    refine Eq.trans (e1 hG PT_71 k71_139 _ _ _) ?_
    refine bdc fun i1 => ?_
    show G 71 142 [some (.inr (.inr x0)), some (.inr (.inr x1)), some (.inl x2), some (.inl x3), some (.inr (.inr x4)), o5, some (.inr (.inr x6)), none, o8] [.inl i1, .inr (.inr x1)] H = _
    refine Eq.trans (e1 hG PT_71 k71_142 _ _ _) ?_
    refine bfc ?_ ?_
    · refine bdc fun u2 => ?_
      refine bdc fun r3 => ?_
      show G 71 145 [some (.inr (.inr x0)), some (.inr (.inr x1)), some (.inl x2), some (.inl x3), some (.inr (.inr x4)), o5, some (.inr (.inr x6)), none, o8] [.inr (.inr r3)] u2.2 = _
      refine Eq.trans (e1 hG PT_71 k71_145 _ _ _) ?_
      show G 71 147 [some (.inr (.inr x0)), some (.inr (.inr x1)), some (.inl x2), some (.inl x3), some (.inr (.inr x4)), o5, some (.inr (.inr x6)), none, some (.inr (.inr r3))] [] u2.2 = _
      refine Eq.trans (e1 hG PT_71 k71_147 _ _ _) ?_
      show G 71 149 [some (.inr (.inr x0)), some (.inr (.inr x1)), some (.inl x2), some (.inl x3), some (.inr (.inr x4)), o5, some (.inr (.inr x6)), none, some (.inr (.inr r3))] [.inr (.inr r3)] u2.2 = _
      refine Eq.trans (e1 hG PT_71 k71_149 _ _ _) ?_
      refine bdc fun i4 => ?_
      show G 71 152 [some (.inr (.inr x0)), some (.inr (.inr x1)), some (.inl x2), some (.inl x3), some (.inr (.inr x4)), o5, some (.inr (.inr x6)), none, some (.inr (.inr r3))] [.inl i4] u2.2 = _
      refine Eq.trans (e1 hG PT_71 k71_152 _ _ _) ?_
      refine bfc ?_ ?_
      · rfl
      · show G 71 155 [some (.inr (.inr x0)), some (.inr (.inr x1)), some (.inl x2), some (.inl x3), some (.inr (.inr x4)), o5, some (.inr (.inr x6)), none, some (.inr (.inr r3))] [] u2.2 = _
        refine Eq.trans (e1 hG PT_71 k71_155 _ _ _) ?_
        show G 71 157 [some (.inr (.inr x0)), some (.inr (.inr x1)), some (.inl x2), some (.inl x3), some (.inr (.inr x4)), o5, some (.inr (.inr x6)), none, some (.inr (.inr r3))] [.inr (.inr r3)] u2.2 = _
        refine Eq.trans (e1 hG PT_71 k71_157 _ _ _) ?_
        refine bdc fun r5 => ?_
        show G 71 160 [some (.inr (.inr x0)), some (.inr (.inr x1)), some (.inl x2), some (.inl x3), some (.inr (.inr x4)), o5, some (.inr (.inr x6)), none, some (.inr (.inr r3))] [.inr (.inr r5)] u2.2 = _
        refine Eq.trans (e1 hG PT_71 k71_160 _ _ _) ?_
        show G 71 162 [some (.inr (.inr x0)), some (.inr (.inr x1)), some (.inl x2), some (.inl x3), some (.inr (.inr x4)), o5, some (.inr (.inr x6)), some (.inr (.inr r5)), some (.inr (.inr r3))] [] u2.2 = _
        refine Eq.trans (e1 hG PT_71 k71_162 _ _ _) ?_
        show G 71 163 [some (.inr (.inr x0)), some (.inr (.inr x1)), some (.inl x2), some (.inl x3), some (.inr (.inr x4)), o5, some (.inr (.inr x6)), some (.inr (.inr r5)), some (.inr (.inr r3))] [.inr (.inr x0)] u2.2 = _
        refine Eq.trans (e1 hG PT_71 k71_163 _ _ _) ?_
        show G 71 165 [some (.inr (.inr x0)), some (.inr (.inr x1)), some (.inl x2), some (.inl x3), some (.inr (.inr x4)), o5, some (.inr (.inr x6)), some (.inr (.inr r5)), some (.inr (.inr r3))] [.inr (.inr r5), .inr (.inr x0)] u2.2 = _
        refine Eq.trans (e1 hG PT_71 k71_165 _ _ _) ?_
        refine bfc ?_ ?_
        · refine bdc fun u6 => ?_
          refine bdc fun _ => ?_
          show G 71 168 [some (.inr (.inr x0)), some (.inr (.inr x1)), some (.inl x2), some (.inl x3), some (.inr (.inr x4)), o5, some (.inr (.inr x6)), some (.inr (.inr r5)), some (.inr (.inr r3))] [] u6.2 = _
          refine Eq.trans (e1 hG PT_71 k71_168 _ _ _) ?_
          rfl
        · rfl
    · rfl
theorem b71_131_Rn {G : AG} (hG : FIX G) (x0 : Nat) (x1 : Nat) (x2 : Int32) (x3 : Int32) (x4 : Nat) (o5 : Option AV) (o8 : Option AV) (x7 : Nat) (H : Hp) : G 71 131 [some (.inr (.inr x0)), some (.inr (.inr x1)), some (.inl x2), some (.inl x3), some (.inr (.inr x4)), o5, none, some (.inr (.inr x7)), o8] [] H = (bif Nat.beq x4 0 then G 71 171 [some (.inr (.inr x0)), some (.inr (.inr x1)), some (.inl x2), some (.inl x3), some (.inr (.inr x4)), o5, none, some (.inr (.inr x7)), o8] [] H else (hgI H x4 4).bind fun i1 => bif Nat.beq (H.1 x1).1 7 then (G 18 0 [some (.inr (.inr x1)), some (.inl i1)] [] H).bind fun u2 => (asR u2.1).bind fun r3 => ((bif Nat.beq r3 0 then some (0 : Int32) else bif [3].any (Nat.beq (u2.2.1 r3).1) then some 1 else bif [1, 2, 4, 10].any (Nat.beq (u2.2.1 r3).1) then some 0 else none)).bind fun i4 => bif decide ((i4 : Int32) = 0) then G 71 171 [some (.inr (.inr x0)), some (.inr (.inr x1)), some (.inl x2), some (.inl x3), some (.inr (.inr x4)), o5, none, some (.inr (.inr x7)), some (.inr (.inr r3))] [] u2.2 else ((bif Nat.beq r3 0 || [3].any (Nat.beq (u2.2.1 r3).1) then some r3 else none)).bind fun r5 => bif Nat.beq (u2.2.1 x0).1 6 then (G 86 0 [some (.inr (.inr x0)), some (.inr (.inr r5)), none, none] [] u2.2).bind fun u6 => (asV u6.1).bind fun _ => G 71 175 [some (.inr (.inr x0)), some (.inr (.inr x1)), some (.inl x2), some (.inl x3), some (.inr (.inr x4)), o5, none, some (.inr (.inr r5)), some (.inr (.inr r3))] [] u6.2 else none else none) := by
  refine Eq.trans (e1 hG PT_71 k71_131 _ _ _) ?_
  show G 71 133 [some (.inr (.inr x0)), some (.inr (.inr x1)), some (.inl x2), some (.inl x3), some (.inr (.inr x4)), o5, none, some (.inr (.inr x7)), o8] [.inr (.inr x4)] H = _
  refine Eq.trans (e1 hG PT_71 k71_133 _ _ _) ?_
  refine bfc ?_ ?_
  · rfl
  · show G 71 136 [some (.inr (.inr x0)), some (.inr (.inr x1)), some (.inl x2), some (.inl x3), some (.inr (.inr x4)), o5, none, some (.inr (.inr x7)), o8] [] H = _
    refine Eq.trans (e1 hG PT_71 k71_136 _ _ _) ?_
    show G 71 137 [some (.inr (.inr x0)), some (.inr (.inr x1)), some (.inl x2), some (.inl x3), some (.inr (.inr x4)), o5, none, some (.inr (.inr x7)), o8] [.inr (.inr x1)] H = _
    refine Eq.trans (e1 hG PT_71 k71_137 _ _ _) ?_
    show G 71 139 [some (.inr (.inr x0)), some (.inr (.inr x1)), some (.inl x2), some (.inl x3), some (.inr (.inr x4)), o5, none, some (.inr (.inr x7)), o8] [.inr (.inr x4), .inr (.inr x1)] H = _
    refine Eq.trans (e1 hG PT_71 k71_139 _ _ _) ?_
    refine bdc fun i1 => ?_
    show G 71 142 [some (.inr (.inr x0)), some (.inr (.inr x1)), some (.inl x2), some (.inl x3), some (.inr (.inr x4)), o5, none, some (.inr (.inr x7)), o8] [.inl i1, .inr (.inr x1)] H = _
    refine Eq.trans (e1 hG PT_71 k71_142 _ _ _) ?_
    refine bfc ?_ ?_
    · refine bdc fun u2 => ?_
      refine bdc fun r3 => ?_
      show G 71 145 [some (.inr (.inr x0)), some (.inr (.inr x1)), some (.inl x2), some (.inl x3), some (.inr (.inr x4)), o5, none, some (.inr (.inr x7)), o8] [.inr (.inr r3)] u2.2 = _
      refine Eq.trans (e1 hG PT_71 k71_145 _ _ _) ?_
      show G 71 147 [some (.inr (.inr x0)), some (.inr (.inr x1)), some (.inl x2), some (.inl x3), some (.inr (.inr x4)), o5, none, some (.inr (.inr x7)), some (.inr (.inr r3))] [] u2.2 = _
      refine Eq.trans (e1 hG PT_71 k71_147 _ _ _) ?_
      show G 71 149 [some (.inr (.inr x0)), some (.inr (.inr x1)), some (.inl x2), some (.inl x3), some (.inr (.inr x4)), o5, none, some (.inr (.inr x7)), some (.inr (.inr r3))] [.inr (.inr r3)] u2.2 = _
      refine Eq.trans (e1 hG PT_71 k71_149 _ _ _) ?_
      refine bdc fun i4 => ?_
      show G 71 152 [some (.inr (.inr x0)), some (.inr (.inr x1)), some (.inl x2), some (.inl x3), some (.inr (.inr x4)), o5, none, some (.inr (.inr x7)), some (.inr (.inr r3))] [.inl i4] u2.2 = _
      refine Eq.trans (e1 hG PT_71 k71_152 _ _ _) ?_
      refine bfc ?_ ?_
      · rfl
      · show G 71 155 [some (.inr (.inr x0)), some (.inr (.inr x1)), some (.inl x2), some (.inl x3), some (.inr (.inr x4)), o5, none, some (.inr (.inr x7)), some (.inr (.inr r3))] [] u2.2 = _
        refine Eq.trans (e1 hG PT_71 k71_155 _ _ _) ?_
        show G 71 157 [some (.inr (.inr x0)), some (.inr (.inr x1)), some (.inl x2), some (.inl x3), some (.inr (.inr x4)), o5, none, some (.inr (.inr x7)), some (.inr (.inr r3))] [.inr (.inr r3)] u2.2 = _
        refine Eq.trans (e1 hG PT_71 k71_157 _ _ _) ?_
        refine bdc fun r5 => ?_
        show G 71 160 [some (.inr (.inr x0)), some (.inr (.inr x1)), some (.inl x2), some (.inl x3), some (.inr (.inr x4)), o5, none, some (.inr (.inr x7)), some (.inr (.inr r3))] [.inr (.inr r5)] u2.2 = _
        refine Eq.trans (e1 hG PT_71 k71_160 _ _ _) ?_
        show G 71 162 [some (.inr (.inr x0)), some (.inr (.inr x1)), some (.inl x2), some (.inl x3), some (.inr (.inr x4)), o5, none, some (.inr (.inr r5)), some (.inr (.inr r3))] [] u2.2 = _
        refine Eq.trans (e1 hG PT_71 k71_162 _ _ _) ?_
        show G 71 163 [some (.inr (.inr x0)), some (.inr (.inr x1)), some (.inl x2), some (.inl x3), some (.inr (.inr x4)), o5, none, some (.inr (.inr r5)), some (.inr (.inr r3))] [.inr (.inr x0)] u2.2 = _
        refine Eq.trans (e1 hG PT_71 k71_163 _ _ _) ?_
        show G 71 165 [some (.inr (.inr x0)), some (.inr (.inr x1)), some (.inl x2), some (.inl x3), some (.inr (.inr x4)), o5, none, some (.inr (.inr r5)), some (.inr (.inr r3))] [.inr (.inr r5), .inr (.inr x0)] u2.2 = _
        refine Eq.trans (e1 hG PT_71 k71_165 _ _ _) ?_
        refine bfc ?_ ?_
        · refine bdc fun u6 => ?_
          refine bdc fun _ => ?_
          show G 71 168 [some (.inr (.inr x0)), some (.inr (.inr x1)), some (.inl x2), some (.inl x3), some (.inr (.inr x4)), o5, none, some (.inr (.inr r5)), some (.inr (.inr r3))] [] u6.2 = _
          refine Eq.trans (e1 hG PT_71 k71_168 _ _ _) ?_
          rfl
        · rfl
    · rfl
theorem b71_131_RR {G : AG} (hG : FIX G) (x0 : Nat) (x1 : Nat) (x2 : Int32) (x3 : Int32) (x4 : Nat) (o5 : Option AV) (o8 : Option AV) (x7 : Nat) (x6 : Nat) (H : Hp) : G 71 131 [some (.inr (.inr x0)), some (.inr (.inr x1)), some (.inl x2), some (.inl x3), some (.inr (.inr x4)), o5, some (.inr (.inr x6)), some (.inr (.inr x7)), o8] [] H = (bif Nat.beq x4 0 then G 71 171 [some (.inr (.inr x0)), some (.inr (.inr x1)), some (.inl x2), some (.inl x3), some (.inr (.inr x4)), o5, some (.inr (.inr x6)), some (.inr (.inr x7)), o8] [] H else (hgI H x4 4).bind fun i1 => bif Nat.beq (H.1 x1).1 7 then (G 18 0 [some (.inr (.inr x1)), some (.inl i1)] [] H).bind fun u2 => (asR u2.1).bind fun r3 => ((bif Nat.beq r3 0 then some (0 : Int32) else bif [3].any (Nat.beq (u2.2.1 r3).1) then some 1 else bif [1, 2, 4, 10].any (Nat.beq (u2.2.1 r3).1) then some 0 else none)).bind fun i4 => bif decide ((i4 : Int32) = 0) then G 71 171 [some (.inr (.inr x0)), some (.inr (.inr x1)), some (.inl x2), some (.inl x3), some (.inr (.inr x4)), o5, some (.inr (.inr x6)), some (.inr (.inr x7)), some (.inr (.inr r3))] [] u2.2 else ((bif Nat.beq r3 0 || [3].any (Nat.beq (u2.2.1 r3).1) then some r3 else none)).bind fun r5 => bif Nat.beq (u2.2.1 x0).1 6 then (G 86 0 [some (.inr (.inr x0)), some (.inr (.inr r5)), none, none] [] u2.2).bind fun u6 => (asV u6.1).bind fun _ => G 71 175 [some (.inr (.inr x0)), some (.inr (.inr x1)), some (.inl x2), some (.inl x3), some (.inr (.inr x4)), o5, some (.inr (.inr x6)), some (.inr (.inr r5)), some (.inr (.inr r3))] [] u6.2 else none else none) := by
  refine Eq.trans (e1 hG PT_71 k71_131 _ _ _) ?_
  show G 71 133 [some (.inr (.inr x0)), some (.inr (.inr x1)), some (.inl x2), some (.inl x3), some (.inr (.inr x4)), o5, some (.inr (.inr x6)), some (.inr (.inr x7)), o8] [.inr (.inr x4)] H = _
  refine Eq.trans (e1 hG PT_71 k71_133 _ _ _) ?_
  refine bfc ?_ ?_
  · rfl
  · show G 71 136 [some (.inr (.inr x0)), some (.inr (.inr x1)), some (.inl x2), some (.inl x3), some (.inr (.inr x4)), o5, some (.inr (.inr x6)), some (.inr (.inr x7)), o8] [] H = _
    refine Eq.trans (e1 hG PT_71 k71_136 _ _ _) ?_
    show G 71 137 [some (.inr (.inr x0)), some (.inr (.inr x1)), some (.inl x2), some (.inl x3), some (.inr (.inr x4)), o5, some (.inr (.inr x6)), some (.inr (.inr x7)), o8] [.inr (.inr x1)] H = _
    refine Eq.trans (e1 hG PT_71 k71_137 _ _ _) ?_
    show G 71 139 [some (.inr (.inr x0)), some (.inr (.inr x1)), some (.inl x2), some (.inl x3), some (.inr (.inr x4)), o5, some (.inr (.inr x6)), some (.inr (.inr x7)), o8] [.inr (.inr x4), .inr (.inr x1)] H = _
    refine Eq.trans (e1 hG PT_71 k71_139 _ _ _) ?_
    refine bdc fun i1 => ?_
    show G 71 142 [some (.inr (.inr x0)), some (.inr (.inr x1)), some (.inl x2), some (.inl x3), some (.inr (.inr x4)), o5, some (.inr (.inr x6)), some (.inr (.inr x7)), o8] [.inl i1, .inr (.inr x1)] H = _
    refine Eq.trans (e1 hG PT_71 k71_142 _ _ _) ?_
    refine bfc ?_ ?_
    · refine bdc fun u2 => ?_
      refine bdc fun r3 => ?_
      show G 71 145 [some (.inr (.inr x0)), some (.inr (.inr x1)), some (.inl x2), some (.inl x3), some (.inr (.inr x4)), o5, some (.inr (.inr x6)), some (.inr (.inr x7)), o8] [.inr (.inr r3)] u2.2 = _
      refine Eq.trans (e1 hG PT_71 k71_145 _ _ _) ?_
      show G 71 147 [some (.inr (.inr x0)), some (.inr (.inr x1)), some (.inl x2), some (.inl x3), some (.inr (.inr x4)), o5, some (.inr (.inr x6)), some (.inr (.inr x7)), some (.inr (.inr r3))] [] u2.2 = _
      refine Eq.trans (e1 hG PT_71 k71_147 _ _ _) ?_
      show G 71 149 [some (.inr (.inr x0)), some (.inr (.inr x1)), some (.inl x2), some (.inl x3), some (.inr (.inr x4)), o5, some (.inr (.inr x6)), some (.inr (.inr x7)), some (.inr (.inr r3))] [.inr (.inr r3)] u2.2 = _
      refine Eq.trans (e1 hG PT_71 k71_149 _ _ _) ?_
      refine bdc fun i4 => ?_
      show G 71 152 [some (.inr (.inr x0)), some (.inr (.inr x1)), some (.inl x2), some (.inl x3), some (.inr (.inr x4)), o5, some (.inr (.inr x6)), some (.inr (.inr x7)), some (.inr (.inr r3))] [.inl i4] u2.2 = _
      refine Eq.trans (e1 hG PT_71 k71_152 _ _ _) ?_
      refine bfc ?_ ?_
      · rfl
      · show G 71 155 [some (.inr (.inr x0)), some (.inr (.inr x1)), some (.inl x2), some (.inl x3), some (.inr (.inr x4)), o5, some (.inr (.inr x6)), some (.inr (.inr x7)), some (.inr (.inr r3))] [] u2.2 = _
        refine Eq.trans (e1 hG PT_71 k71_155 _ _ _) ?_
        show G 71 157 [some (.inr (.inr x0)), some (.inr (.inr x1)), some (.inl x2), some (.inl x3), some (.inr (.inr x4)), o5, some (.inr (.inr x6)), some (.inr (.inr x7)), some (.inr (.inr r3))] [.inr (.inr r3)] u2.2 = _
        refine Eq.trans (e1 hG PT_71 k71_157 _ _ _) ?_
        refine bdc fun r5 => ?_
        show G 71 160 [some (.inr (.inr x0)), some (.inr (.inr x1)), some (.inl x2), some (.inl x3), some (.inr (.inr x4)), o5, some (.inr (.inr x6)), some (.inr (.inr x7)), some (.inr (.inr r3))] [.inr (.inr r5)] u2.2 = _
        refine Eq.trans (e1 hG PT_71 k71_160 _ _ _) ?_
        show G 71 162 [some (.inr (.inr x0)), some (.inr (.inr x1)), some (.inl x2), some (.inl x3), some (.inr (.inr x4)), o5, some (.inr (.inr x6)), some (.inr (.inr r5)), some (.inr (.inr r3))] [] u2.2 = _
        refine Eq.trans (e1 hG PT_71 k71_162 _ _ _) ?_
        show G 71 163 [some (.inr (.inr x0)), some (.inr (.inr x1)), some (.inl x2), some (.inl x3), some (.inr (.inr x4)), o5, some (.inr (.inr x6)), some (.inr (.inr r5)), some (.inr (.inr r3))] [.inr (.inr x0)] u2.2 = _
        refine Eq.trans (e1 hG PT_71 k71_163 _ _ _) ?_
        show G 71 165 [some (.inr (.inr x0)), some (.inr (.inr x1)), some (.inl x2), some (.inl x3), some (.inr (.inr x4)), o5, some (.inr (.inr x6)), some (.inr (.inr r5)), some (.inr (.inr r3))] [.inr (.inr r5), .inr (.inr x0)] u2.2 = _
        refine Eq.trans (e1 hG PT_71 k71_165 _ _ _) ?_
        refine bfc ?_ ?_
        · refine bdc fun u6 => ?_
          refine bdc fun _ => ?_
          show G 71 168 [some (.inr (.inr x0)), some (.inr (.inr x1)), some (.inl x2), some (.inl x3), some (.inr (.inr x4)), o5, some (.inr (.inr x6)), some (.inr (.inr r5)), some (.inr (.inr r3))] [] u6.2 = _
          refine Eq.trans (e1 hG PT_71 k71_168 _ _ _) ?_
          rfl
        · rfl
    · rfl
theorem b71_171 {G : AG} (hG : FIX G) (x0 : Nat) (x1 : Nat) (x2 : Int32) (x3 : Int32) (x4 : Nat) (o5 : Option AV) (o6 : Option AV) (o7 : Option AV) (o8 : Option AV) (H : Hp) : G 71 171 [some (.inr (.inr x0)), some (.inr (.inr x1)), some (.inl x2), some (.inl x3), some (.inr (.inr x4)), o5, o6, o7, o8] [] H = (bif Nat.beq (H.1 x0).1 6 then (G 72 0 [some (.inr (.inr x0))] [] H).bind fun u1 => (asV u1.1).bind fun _ => G 71 175 [some (.inr (.inr x0)), some (.inr (.inr x1)), some (.inl x2), some (.inl x3), some (.inr (.inr x4)), o5, o6, o7, o8] [] u1.2 else none) := by
  refine Eq.trans (e1 hG PT_71 k71_171 _ _ _) ?_
  show G 71 172 [some (.inr (.inr x0)), some (.inr (.inr x1)), some (.inl x2), some (.inl x3), some (.inr (.inr x4)), o5, o6, o7, o8] [.inr (.inr x0)] H = _
  refine Eq.trans (e1 hG PT_71 k71_172 _ _ _) ?_
  refine bfc ?_ ?_
  · refine bdc fun u1 => ?_
    refine bdc fun _ => ?_
    rfl
  · rfl
theorem b71_175 {G : AG} (hG : FIX G) (x0 : Nat) (x1 : Nat) (x2 : Int32) (x3 : Int32) (x4 : Nat) (o5 : Option AV) (o6 : Option AV) (o7 : Option AV) (o8 : Option AV) (H : Hp) : G 71 175 [some (.inr (.inr x0)), some (.inr (.inr x1)), some (.inl x2), some (.inl x3), some (.inr (.inr x4)), o5, o6, o7, o8] [] H = (G 71 21 [some (.inr (.inr x0)), some (.inr (.inr x1)), some (.inl x2), some (.inl (x3 + 1)), some (.inr (.inr x4)), o5, o6, o7, o8] [] H) := by
  refine Eq.trans (e1 hG PT_71 k71_175 _ _ _) ?_
  show G 71 178 [some (.inr (.inr x0)), some (.inr (.inr x1)), some (.inl x2), some (.inl (x3 + 1)), some (.inr (.inr x4)), o5, o6, o7, o8] [] H = _
  refine Eq.trans (e1 hG PT_71 k71_178 _ _ _) ?_
  rfl
theorem b71_181 {G : AG} (hG : FIX G) (x0 : Nat) (x1 : Nat) (x2 : Int32) (x3 : Int32) (o4 : Option AV) (o5 : Option AV) (o6 : Option AV) (o7 : Option AV) (o8 : Option AV) (H : Hp) : G 71 181 [some (.inr (.inr x0)), some (.inr (.inr x1)), some (.inl x2), some (.inl x3), o4, o5, o6, o7, o8] [] H = ((hgR H x1 28).bind fun r1 => (hgI H x0 19).bind fun i2 => (hgI H x0 20).bind fun i3 => bif decide ((i3 : Int32) = 0) then G 71 202 [some (.inr (.inr x0)), some (.inr (.inr x1)), some (.inl x2), some (.inl x3), o4, o5, o6, o7, o8] [.inl 1, .inl i2, .inr (.inr r1)] H else G 71 202 [some (.inr (.inr x0)), some (.inr (.inr x1)), some (.inl x2), some (.inl x3), o4, o5, o6, o7, o8] [.inl (-1000003), .inl i2, .inr (.inr r1)] H) := by
  refine Eq.trans (e1 hG PT_71 k71_181 _ _ _) ?_
  show G 71 182 [some (.inr (.inr x0)), some (.inr (.inr x1)), some (.inl x2), some (.inl x3), o4, o5, o6, o7, o8] [.inr (.inr x1)] H = _
  refine Eq.trans (e1 hG PT_71 k71_182 _ _ _) ?_
  refine bdc fun r1 => ?_
  show G 71 185 [some (.inr (.inr x0)), some (.inr (.inr x1)), some (.inl x2), some (.inl x3), o4, o5, o6, o7, o8] [.inr (.inr r1)] H = _
  refine Eq.trans (e1 hG PT_71 k71_185 _ _ _) ?_
  show G 71 186 [some (.inr (.inr x0)), some (.inr (.inr x1)), some (.inl x2), some (.inl x3), o4, o5, o6, o7, o8] [.inr (.inr x0), .inr (.inr r1)] H = _
  refine Eq.trans (e1 hG PT_71 k71_186 _ _ _) ?_
  refine bdc fun i2 => ?_
  show G 71 189 [some (.inr (.inr x0)), some (.inr (.inr x1)), some (.inl x2), some (.inl x3), o4, o5, o6, o7, o8] [.inl i2, .inr (.inr r1)] H = _
  refine Eq.trans (e1 hG PT_71 k71_189 _ _ _) ?_
  show G 71 190 [some (.inr (.inr x0)), some (.inr (.inr x1)), some (.inl x2), some (.inl x3), o4, o5, o6, o7, o8] [.inr (.inr x0), .inl i2, .inr (.inr r1)] H = _
  refine Eq.trans (e1 hG PT_71 k71_190 _ _ _) ?_
  refine bdc fun i3 => ?_
  show G 71 193 [some (.inr (.inr x0)), some (.inr (.inr x1)), some (.inl x2), some (.inl x3), o4, o5, o6, o7, o8] [.inl i3, .inl i2, .inr (.inr r1)] H = _
  refine Eq.trans (e1 hG PT_71 k71_193 _ _ _) ?_
  refine bfc ?_ ?_
  · show G 71 201 [some (.inr (.inr x0)), some (.inr (.inr x1)), some (.inl x2), some (.inl x3), o4, o5, o6, o7, o8] [.inl i2, .inr (.inr r1)] H = _
    refine Eq.trans (e1 hG PT_71 k71_201 _ _ _) ?_
    rfl
  · show G 71 196 [some (.inr (.inr x0)), some (.inr (.inr x1)), some (.inl x2), some (.inl x3), o4, o5, o6, o7, o8] [.inl i2, .inr (.inr r1)] H = _
    refine Eq.trans (e1 hG PT_71 k71_196 _ _ _) ?_
    show G 71 198 [some (.inr (.inr x0)), some (.inr (.inr x1)), some (.inl x2), some (.inl x3), o4, o5, o6, o7, o8] [.inl (-1000003), .inl i2, .inr (.inr r1)] H = _
    refine Eq.trans (e1 hG PT_71 k71_198 _ _ _) ?_
    rfl
theorem b71_202 {G : AG} (hG : FIX G) (x0 : Nat) (x1 : Nat) (x2 : Int32) (x3 : Int32) (o4 : Option AV) (o5 : Option AV) (o6 : Option AV) (o7 : Option AV) (o8 : Option AV) (s0 : Int32) (s1 : Int32) (s2 : Nat) (H : Hp) : G 71 202 [some (.inr (.inr x0)), some (.inr (.inr x1)), some (.inl x2), some (.inl x3), o4, o5, o6, o7, o8] [.inl s0, .inl s1, .inr (.inr s2)] H = ((hSI H s2 s1 s0).bind fun H1 => (hgI H1 x0 20).bind fun i2 => bif decide ((i2 : Int32) ≠ 0) then G 71 223 [some (.inr (.inr x0)), some (.inr (.inr x1)), some (.inl x2), some (.inl x3), o4, o5, o6, o7, o8] [] H1 else (hgR H1 x1 27).bind fun r3 => (hgI H1 x0 19).bind fun i4 => (hAR H1 r3 i4).bind fun r5 => bif Nat.beq (H1.1 x0).1 6 then (G 95 0 [some (.inr (.inr x0)), some (.inr (.inr r5)), none, none, none, none] [] H1).bind fun u6 => (asV u6.1).bind fun _ => G 71 223 [some (.inr (.inr x0)), some (.inr (.inr x1)), some (.inl x2), some (.inl x3), o4, o5, o6, o7, o8] [] u6.2 else none) := by
  refine Eq.trans (e1 hG PT_71 k71_202 _ _ _) ?_
  refine bdc fun H1 => ?_
  show G 71 203 [some (.inr (.inr x0)), some (.inr (.inr x1)), some (.inl x2), some (.inl x3), o4, o5, o6, o7, o8] [] H1 = _
  refine Eq.trans (e1 hG PT_71 k71_203 _ _ _) ?_
  show G 71 204 [some (.inr (.inr x0)), some (.inr (.inr x1)), some (.inl x2), some (.inl x3), o4, o5, o6, o7, o8] [.inr (.inr x0)] H1 = _
  refine Eq.trans (e1 hG PT_71 k71_204 _ _ _) ?_
  refine bdc fun i2 => ?_
  show G 71 207 [some (.inr (.inr x0)), some (.inr (.inr x1)), some (.inl x2), some (.inl x3), o4, o5, o6, o7, o8] [.inl i2] H1 = _
  refine Eq.trans (e1 hG PT_71 k71_207 _ _ _) ?_
  refine bfc ?_ ?_
  · rfl
  · show G 71 210 [some (.inr (.inr x0)), some (.inr (.inr x1)), some (.inl x2), some (.inl x3), o4, o5, o6, o7, o8] [] H1 = _
    refine Eq.trans (e1 hG PT_71 k71_210 _ _ _) ?_
    show G 71 211 [some (.inr (.inr x0)), some (.inr (.inr x1)), some (.inl x2), some (.inl x3), o4, o5, o6, o7, o8] [.inr (.inr x0)] H1 = _
    refine Eq.trans (e1 hG PT_71 k71_211 _ _ _) ?_
    show G 71 212 [some (.inr (.inr x0)), some (.inr (.inr x1)), some (.inl x2), some (.inl x3), o4, o5, o6, o7, o8] [.inr (.inr x1), .inr (.inr x0)] H1 = _
    refine Eq.trans (e1 hG PT_71 k71_212 _ _ _) ?_
    refine bdc fun r3 => ?_
    show G 71 215 [some (.inr (.inr x0)), some (.inr (.inr x1)), some (.inl x2), some (.inl x3), o4, o5, o6, o7, o8] [.inr (.inr r3), .inr (.inr x0)] H1 = _
    refine Eq.trans (e1 hG PT_71 k71_215 _ _ _) ?_
    show G 71 216 [some (.inr (.inr x0)), some (.inr (.inr x1)), some (.inl x2), some (.inl x3), o4, o5, o6, o7, o8] [.inr (.inr x0), .inr (.inr r3), .inr (.inr x0)] H1 = _
    refine Eq.trans (e1 hG PT_71 k71_216 _ _ _) ?_
    refine bdc fun i4 => ?_
    show G 71 219 [some (.inr (.inr x0)), some (.inr (.inr x1)), some (.inl x2), some (.inl x3), o4, o5, o6, o7, o8] [.inl i4, .inr (.inr r3), .inr (.inr x0)] H1 = _
    refine Eq.trans (e1 hG PT_71 k71_219 _ _ _) ?_
    refine bdc fun r5 => ?_
    show G 71 220 [some (.inr (.inr x0)), some (.inr (.inr x1)), some (.inl x2), some (.inl x3), o4, o5, o6, o7, o8] [.inr (.inr r5), .inr (.inr x0)] H1 = _
    refine Eq.trans (e1 hG PT_71 k71_220 _ _ _) ?_
    refine bfc ?_ ?_
    · refine bdc fun u6 => ?_
      refine bdc fun _ => ?_
      rfl
    · rfl
theorem b71_223 {G : AG} (hG : FIX G) (x0 : Nat) (x1 : Nat) (x2 : Int32) (x3 : Int32) (o4 : Option AV) (o5 : Option AV) (o6 : Option AV) (o7 : Option AV) (o8 : Option AV) (H : Hp) : G 71 223 [some (.inr (.inr x0)), some (.inr (.inr x1)), some (.inl x2), some (.inl x3), o4, o5, o6, o7, o8] [] H = (some (none, H)) := by
  exact e1 hG PT_71 k71_223 _ _ _
-- StepsAhead$Reckoner.pushRow()V
theorem PT_72 : PT 72 = pt72 := rfl
theorem k72_0 : lkp pt72 0 = iP 1 (fAld 0) := rfl
theorem k72_1 : lkp pt72 1 = iRI 4 (gtI 16) := rfl
theorem k72_4 : lkp pt72 4 = iP 5 (fK (.inl 1)) := rfl
theorem k72_5 : lkp pt72 5 = iP 6 (f2I (fun x y => x + y)) := rfl
theorem k72_6 : lkp pt72 6 = iP 8 (fK (.inl 18)) := rfl
theorem k72_8 : lkp pt72 8 = iB 11 17 (b2 (fun x y => decide (x < y))) := rfl
theorem k72_11 : lkp pt72 11 = iP 12 (fAld 0) := rfl
theorem k72_12 : lkp pt72 12 = iP 13 (fK (.inl 1)) := rfl
theorem k72_13 : lkp pt72 13 = iW 16 (ptZ 20) := rfl
theorem k72_16 : lkp pt72 16 = iRet rV := rfl
theorem k72_17 : lkp pt72 17 = iP 18 (fAld 0) := rfl
theorem k72_18 : lkp pt72 18 = iP 19 fDup := rfl
theorem k72_19 : lkp pt72 19 = iRI 22 (gtI 16) := rfl
theorem k72_22 : lkp pt72 22 = iP 23 (fK (.inl 1)) := rfl
theorem k72_23 : lkp pt72 23 = iP 24 (f2I (fun x y => x + y)) := rfl
theorem k72_24 : lkp pt72 24 = iW 27 (ptI 16) := rfl
theorem k72_27 : lkp pt72 27 = iP 28 (fAld 0) := rfl
theorem k72_28 : lkp pt72 28 = iRR 31 (gtR 15) := rfl
theorem k72_31 : lkp pt72 31 = iP 32 (fAld 0) := rfl
theorem k72_32 : lkp pt72 32 = iRI 35 (gtI 16) := rfl
theorem k72_35 : lkp pt72 35 = iRR 36 qAR := rfl
theorem k72_36 : lkp pt72 36 = iP 37 (fK (.inr (.inl 0))) := rfl
theorem k72_37 : lkp pt72 37 = iC 40 73 5 2 0 := rfl
theorem k72_40 : lkp pt72 40 = iRet rV := rfl
theorem b72_0 {G : AG} (hG : FIX G) (x0 : Nat) (H : Hp) : G 72 0 [some (.inr (.inr x0))] [] H = ((hgI H x0 16).bind fun i1 => bif decide (((i1 + 1) : Int32) < (18 : Int32)) then (hgI H x0 16).bind fun i2 => (hpI H x0 16 ((i2 + 1))).bind fun H3 => (hgR H3 x0 15).bind fun r4 => (hgI H3 x0 16).bind fun i5 => (hAR H3 r4 i5).bind fun r6 => (G 73 0 [some (.inr (.inr r6)), some (.inr (.inl 0)), none, none, none] [] H3).bind fun u7 => (asV u7.1).bind fun _ => some (none, u7.2) else (hpZ H x0 20 1).bind fun H8 => some (none, H8)) := by
  refine Eq.trans (e1 hG PT_72 k72_0 _ _ _) ?_
  show G 72 1 [some (.inr (.inr x0))] [.inr (.inr x0)] H = _
  refine Eq.trans (e1 hG PT_72 k72_1 _ _ _) ?_
  refine bdc fun i1 => ?_
  show G 72 4 [some (.inr (.inr x0))] [.inl i1] H = _
  refine Eq.trans (e1 hG PT_72 k72_4 _ _ _) ?_
  show G 72 5 [some (.inr (.inr x0))] [.inl 1, .inl i1] H = _
  refine Eq.trans (e1 hG PT_72 k72_5 _ _ _) ?_
  show G 72 6 [some (.inr (.inr x0))] [.inl (i1 + 1)] H = _
  refine Eq.trans (e1 hG PT_72 k72_6 _ _ _) ?_
  show G 72 8 [some (.inr (.inr x0))] [.inl 18, .inl (i1 + 1)] H = _
  refine Eq.trans (e1 hG PT_72 k72_8 _ _ _) ?_
  refine bfc ?_ ?_
  · show G 72 17 [some (.inr (.inr x0))] [] H = _
    refine Eq.trans (e1 hG PT_72 k72_17 _ _ _) ?_
    show G 72 18 [some (.inr (.inr x0))] [.inr (.inr x0)] H = _
    refine Eq.trans (e1 hG PT_72 k72_18 _ _ _) ?_
    show G 72 19 [some (.inr (.inr x0))] [.inr (.inr x0), .inr (.inr x0)] H = _
    refine Eq.trans (e1 hG PT_72 k72_19 _ _ _) ?_
    refine bdc fun i2 => ?_
    show G 72 22 [some (.inr (.inr x0))] [.inl i2, .inr (.inr x0)] H = _
    refine Eq.trans (e1 hG PT_72 k72_22 _ _ _) ?_
    show G 72 23 [some (.inr (.inr x0))] [.inl 1, .inl i2, .inr (.inr x0)] H = _
    refine Eq.trans (e1 hG PT_72 k72_23 _ _ _) ?_
    show G 72 24 [some (.inr (.inr x0))] [.inl (i2 + 1), .inr (.inr x0)] H = _
    refine Eq.trans (e1 hG PT_72 k72_24 _ _ _) ?_
    refine bdc fun H3 => ?_
    show G 72 27 [some (.inr (.inr x0))] [] H3 = _
    refine Eq.trans (e1 hG PT_72 k72_27 _ _ _) ?_
    show G 72 28 [some (.inr (.inr x0))] [.inr (.inr x0)] H3 = _
    refine Eq.trans (e1 hG PT_72 k72_28 _ _ _) ?_
    refine bdc fun r4 => ?_
    show G 72 31 [some (.inr (.inr x0))] [.inr (.inr r4)] H3 = _
    refine Eq.trans (e1 hG PT_72 k72_31 _ _ _) ?_
    show G 72 32 [some (.inr (.inr x0))] [.inr (.inr x0), .inr (.inr r4)] H3 = _
    refine Eq.trans (e1 hG PT_72 k72_32 _ _ _) ?_
    refine bdc fun i5 => ?_
    show G 72 35 [some (.inr (.inr x0))] [.inl i5, .inr (.inr r4)] H3 = _
    refine Eq.trans (e1 hG PT_72 k72_35 _ _ _) ?_
    refine bdc fun r6 => ?_
    show G 72 36 [some (.inr (.inr x0))] [.inr (.inr r6)] H3 = _
    refine Eq.trans (e1 hG PT_72 k72_36 _ _ _) ?_
    show G 72 37 [some (.inr (.inr x0))] [.inr (.inl 0), .inr (.inr r6)] H3 = _
    refine Eq.trans (e1 hG PT_72 k72_37 _ _ _) ?_
    refine bdc fun u7 => ?_
    refine bdc fun _ => ?_
    show G 72 40 [some (.inr (.inr x0))] [] u7.2 = _
    exact e1 hG PT_72 k72_40 _ _ _
  · show G 72 11 [some (.inr (.inr x0))] [] H = _
    refine Eq.trans (e1 hG PT_72 k72_11 _ _ _) ?_
    show G 72 12 [some (.inr (.inr x0))] [.inr (.inr x0)] H = _
    refine Eq.trans (e1 hG PT_72 k72_12 _ _ _) ?_
    show G 72 13 [some (.inr (.inr x0))] [.inl 1, .inr (.inr x0)] H = _
    refine Eq.trans (e1 hG PT_72 k72_13 _ _ _) ?_
    refine bdc fun H8 => ?_
    show G 72 16 [some (.inr (.inr x0))] [] H8 = _
    exact e1 hG PT_72 k72_16 _ _ _
-- java/util/Arrays.fill([JJ)V
theorem PT_73 : PT 73 = pt73 := rfl
theorem k73_0 : lkp pt73 0 = iP 1 (fK (.inl 0)) := rfl
theorem k73_1 : lkp pt73 1 = iP 2 (fIst 3) := rfl
theorem k73_2 : lkp pt73 2 = iP 3 (fAld 0) := rfl
theorem k73_3 : lkp pt73 3 = iRI 4 qLen := rfl
theorem k73_4 : lkp pt73 4 = iP 6 (fIst 4) := rfl
theorem k73_6 : lkp pt73 6 = iP 7 (fIld 3) := rfl
theorem k73_7 : lkp pt73 7 = iP 9 (fIld 4) := rfl
theorem k73_9 : lkp pt73 9 = iB 12 22 (b2 (fun x y => decide (y ≤ x))) := rfl
theorem k73_12 : lkp pt73 12 = iP 13 (fAld 0) := rfl
theorem k73_13 : lkp pt73 13 = iP 14 (fIld 3) := rfl
theorem k73_14 : lkp pt73 14 = iP 15 (fJld 1) := rfl
theorem k73_15 : lkp pt73 15 = iW 16 wAJ := rfl
theorem k73_16 : lkp pt73 16 = iP 19 (fInc 3 1) := rfl
theorem k73_19 : lkp pt73 19 = iP 6 fGo := rfl
theorem k73_22 : lkp pt73 22 = iRet rV := rfl
theorem b73_0 {G : AG} (hG : FIX G) (x0 : Nat) (x1 : Int64) (H : Hp) : G 73 0 [some (.inr (.inr x0)), some (.inr (.inl x1)), none, none, none] [] H = ((hLen H x0).bind fun i1 => G 73 6 [some (.inr (.inr x0)), some (.inr (.inl x1)), none, some (.inl 0), some (.inl i1)] [] H) := by
  refine Eq.trans (e1 hG PT_73 k73_0 _ _ _) ?_
  show G 73 1 [some (.inr (.inr x0)), some (.inr (.inl x1)), none, none, none] [.inl 0] H = _
  refine Eq.trans (e1 hG PT_73 k73_1 _ _ _) ?_
  show G 73 2 [some (.inr (.inr x0)), some (.inr (.inl x1)), none, some (.inl 0), none] [] H = _
  refine Eq.trans (e1 hG PT_73 k73_2 _ _ _) ?_
  show G 73 3 [some (.inr (.inr x0)), some (.inr (.inl x1)), none, some (.inl 0), none] [.inr (.inr x0)] H = _
  refine Eq.trans (e1 hG PT_73 k73_3 _ _ _) ?_
  refine bdc fun i1 => ?_
  show G 73 4 [some (.inr (.inr x0)), some (.inr (.inl x1)), none, some (.inl 0), none] [.inl i1] H = _
  refine Eq.trans (e1 hG PT_73 k73_4 _ _ _) ?_
  rfl
theorem b73_6 {G : AG} (hG : FIX G) (x0 : Nat) (x1 : Int64) (x3 : Int32) (x4 : Int32) (H : Hp) : G 73 6 [some (.inr (.inr x0)), some (.inr (.inl x1)), none, some (.inl x3), some (.inl x4)] [] H = (bif decide ((x4 : Int32) ≤ (x3 : Int32)) then some (none, H) else (hSJ H x0 x3 x1).bind fun H1 => G 73 6 [some (.inr (.inr x0)), some (.inr (.inl x1)), none, some (.inl (x3 + 1)), some (.inl x4)] [] H1) := by
  refine Eq.trans (e1 hG PT_73 k73_6 _ _ _) ?_
  show G 73 7 [some (.inr (.inr x0)), some (.inr (.inl x1)), none, some (.inl x3), some (.inl x4)] [.inl x3] H = _
  refine Eq.trans (e1 hG PT_73 k73_7 _ _ _) ?_
  show G 73 9 [some (.inr (.inr x0)), some (.inr (.inl x1)), none, some (.inl x3), some (.inl x4)] [.inl x4, .inl x3] H = _
  refine Eq.trans (e1 hG PT_73 k73_9 _ _ _) ?_
  refine bfc ?_ ?_
  · show G 73 22 [some (.inr (.inr x0)), some (.inr (.inl x1)), none, some (.inl x3), some (.inl x4)] [] H = _
    exact e1 hG PT_73 k73_22 _ _ _
  · show G 73 12 [some (.inr (.inr x0)), some (.inr (.inl x1)), none, some (.inl x3), some (.inl x4)] [] H = _
    refine Eq.trans (e1 hG PT_73 k73_12 _ _ _) ?_
    show G 73 13 [some (.inr (.inr x0)), some (.inr (.inl x1)), none, some (.inl x3), some (.inl x4)] [.inr (.inr x0)] H = _
    refine Eq.trans (e1 hG PT_73 k73_13 _ _ _) ?_
    show G 73 14 [some (.inr (.inr x0)), some (.inr (.inl x1)), none, some (.inl x3), some (.inl x4)] [.inl x3, .inr (.inr x0)] H = _
    refine Eq.trans (e1 hG PT_73 k73_14 _ _ _) ?_
    show G 73 15 [some (.inr (.inr x0)), some (.inr (.inl x1)), none, some (.inl x3), some (.inl x4)] [.inr (.inl x1), .inl x3, .inr (.inr x0)] H = _
    refine Eq.trans (e1 hG PT_73 k73_15 _ _ _) ?_
    refine bdc fun H1 => ?_
    show G 73 16 [some (.inr (.inr x0)), some (.inr (.inl x1)), none, some (.inl x3), some (.inl x4)] [] H1 = _
    refine Eq.trans (e1 hG PT_73 k73_16 _ _ _) ?_
    show G 73 19 [some (.inr (.inr x0)), some (.inr (.inl x1)), none, some (.inl (x3 + 1)), some (.inl x4)] [] H1 = _
    refine Eq.trans (e1 hG PT_73 k73_19 _ _ _) ?_
    rfl
-- StepsAhead$Reckoner.add([JIJ)V
theorem PT_74 : PT 74 = pt74 := rfl
theorem k74_0 : lkp pt74 0 = iP 1 (fAld 1) := rfl
theorem k74_1 : lkp pt74 1 = iP 2 (fIld 2) := rfl
theorem k74_2 : lkp pt74 2 = iP 3 fDup2 := rfl
theorem k74_3 : lkp pt74 3 = iRJ 4 qAJ := rfl
theorem k74_4 : lkp pt74 4 = iP 5 (fJld 3) := rfl
theorem k74_5 : lkp pt74 5 = iP 6 (f2J (fun x y => x + y)) := rfl
theorem k74_6 : lkp pt74 6 = iW 7 wAJ := rfl
theorem k74_7 : lkp pt74 7 = iP 8 (fAld 1) := rfl
theorem k74_8 : lkp pt74 8 = iP 9 (fIld 2) := rfl
theorem k74_9 : lkp pt74 9 = iRJ 10 qAJ := rfl
theorem k74_10 : lkp pt74 10 = iP 13 (fK (.inr (.inl 8640000000))) := rfl
theorem k74_13 : lkp pt74 13 = iP 14 fLcmp := rfl
theorem k74_14 : lkp pt74 14 = iB 17 27 (b1 (fun x => decide (0 < x))) := rfl
theorem k74_17 : lkp pt74 17 = iP 18 (fAld 1) := rfl
theorem k74_18 : lkp pt74 18 = iP 19 (fIld 2) := rfl
theorem k74_19 : lkp pt74 19 = iRJ 20 qAJ := rfl
theorem k74_20 : lkp pt74 20 = iP 23 (fK (.inr (.inl (-8640000000)))) := rfl
theorem k74_23 : lkp pt74 23 = iP 24 fLcmp := rfl
theorem k74_24 : lkp pt74 24 = iB 27 32 (b1 (fun x => decide (0 ≤ x))) := rfl
theorem k74_27 : lkp pt74 27 = iP 28 (fAld 0) := rfl
theorem k74_28 : lkp pt74 28 = iP 29 (fK (.inl 1)) := rfl
theorem k74_29 : lkp pt74 29 = iW 32 (ptZ 20) := rfl
theorem k74_32 : lkp pt74 32 = iRet rV := rfl
theorem b74_0 {G : AG} (hG : FIX G) (x0 : Nat) (x1 : Nat) (x2 : Int32) (x3 : Int64) (H : Hp) : G 74 0 [some (.inr (.inr x0)), some (.inr (.inr x1)), some (.inl x2), some (.inr (.inl x3)), none] [] H = ((hAJ H x1 x2).bind fun j1 => (hSJ H x1 x2 ((j1 + x3))).bind fun H2 => (hAJ H2 x1 x2).bind fun j3 => bif decide (0 < ((lg_cmp j3 8640000000) : Int32)) then G 74 27 [some (.inr (.inr x0)), some (.inr (.inr x1)), some (.inl x2), some (.inr (.inl x3)), none] [] H2 else (hAJ H2 x1 x2).bind fun j4 => bif decide (0 ≤ ((lg_cmp j4 ((-8640000000))) : Int32)) then G 74 32 [some (.inr (.inr x0)), some (.inr (.inr x1)), some (.inl x2), some (.inr (.inl x3)), none] [] H2 else G 74 27 [some (.inr (.inr x0)), some (.inr (.inr x1)), some (.inl x2), some (.inr (.inl x3)), none] [] H2) := by
  refine Eq.trans (e1 hG PT_74 k74_0 _ _ _) ?_
  show G 74 1 [some (.inr (.inr x0)), some (.inr (.inr x1)), some (.inl x2), some (.inr (.inl x3)), none] [.inr (.inr x1)] H = _
  refine Eq.trans (e1 hG PT_74 k74_1 _ _ _) ?_
  show G 74 2 [some (.inr (.inr x0)), some (.inr (.inr x1)), some (.inl x2), some (.inr (.inl x3)), none] [.inl x2, .inr (.inr x1)] H = _
  refine Eq.trans (e1 hG PT_74 k74_2 _ _ _) ?_
  show G 74 3 [some (.inr (.inr x0)), some (.inr (.inr x1)), some (.inl x2), some (.inr (.inl x3)), none] [.inl x2, .inr (.inr x1), .inl x2, .inr (.inr x1)] H = _
  refine Eq.trans (e1 hG PT_74 k74_3 _ _ _) ?_
  refine bdc fun j1 => ?_
  show G 74 4 [some (.inr (.inr x0)), some (.inr (.inr x1)), some (.inl x2), some (.inr (.inl x3)), none] [.inr (.inl j1), .inl x2, .inr (.inr x1)] H = _
  refine Eq.trans (e1 hG PT_74 k74_4 _ _ _) ?_
  show G 74 5 [some (.inr (.inr x0)), some (.inr (.inr x1)), some (.inl x2), some (.inr (.inl x3)), none] [.inr (.inl x3), .inr (.inl j1), .inl x2, .inr (.inr x1)] H = _
  refine Eq.trans (e1 hG PT_74 k74_5 _ _ _) ?_
  show G 74 6 [some (.inr (.inr x0)), some (.inr (.inr x1)), some (.inl x2), some (.inr (.inl x3)), none] [.inr (.inl (j1 + x3)), .inl x2, .inr (.inr x1)] H = _
  refine Eq.trans (e1 hG PT_74 k74_6 _ _ _) ?_
  refine bdc fun H2 => ?_
  show G 74 7 [some (.inr (.inr x0)), some (.inr (.inr x1)), some (.inl x2), some (.inr (.inl x3)), none] [] H2 = _
  refine Eq.trans (e1 hG PT_74 k74_7 _ _ _) ?_
  show G 74 8 [some (.inr (.inr x0)), some (.inr (.inr x1)), some (.inl x2), some (.inr (.inl x3)), none] [.inr (.inr x1)] H2 = _
  refine Eq.trans (e1 hG PT_74 k74_8 _ _ _) ?_
  show G 74 9 [some (.inr (.inr x0)), some (.inr (.inr x1)), some (.inl x2), some (.inr (.inl x3)), none] [.inl x2, .inr (.inr x1)] H2 = _
  refine Eq.trans (e1 hG PT_74 k74_9 _ _ _) ?_
  refine bdc fun j3 => ?_
  show G 74 10 [some (.inr (.inr x0)), some (.inr (.inr x1)), some (.inl x2), some (.inr (.inl x3)), none] [.inr (.inl j3)] H2 = _
  refine Eq.trans (e1 hG PT_74 k74_10 _ _ _) ?_
  show G 74 13 [some (.inr (.inr x0)), some (.inr (.inr x1)), some (.inl x2), some (.inr (.inl x3)), none] [.inr (.inl 8640000000), .inr (.inl j3)] H2 = _
  refine Eq.trans (e1 hG PT_74 k74_13 _ _ _) ?_
  show G 74 14 [some (.inr (.inr x0)), some (.inr (.inr x1)), some (.inl x2), some (.inr (.inl x3)), none] [.inl (lg_cmp j3 8640000000)] H2 = _
  refine Eq.trans (e1 hG PT_74 k74_14 _ _ _) ?_
  refine bfc ?_ ?_
  · rfl
  · show G 74 17 [some (.inr (.inr x0)), some (.inr (.inr x1)), some (.inl x2), some (.inr (.inl x3)), none] [] H2 = _
    refine Eq.trans (e1 hG PT_74 k74_17 _ _ _) ?_
    show G 74 18 [some (.inr (.inr x0)), some (.inr (.inr x1)), some (.inl x2), some (.inr (.inl x3)), none] [.inr (.inr x1)] H2 = _
    refine Eq.trans (e1 hG PT_74 k74_18 _ _ _) ?_
    show G 74 19 [some (.inr (.inr x0)), some (.inr (.inr x1)), some (.inl x2), some (.inr (.inl x3)), none] [.inl x2, .inr (.inr x1)] H2 = _
    refine Eq.trans (e1 hG PT_74 k74_19 _ _ _) ?_
    refine bdc fun j4 => ?_
    show G 74 20 [some (.inr (.inr x0)), some (.inr (.inr x1)), some (.inl x2), some (.inr (.inl x3)), none] [.inr (.inl j4)] H2 = _
    refine Eq.trans (e1 hG PT_74 k74_20 _ _ _) ?_
    show G 74 23 [some (.inr (.inr x0)), some (.inr (.inr x1)), some (.inl x2), some (.inr (.inl x3)), none] [.inr (.inl (-8640000000)), .inr (.inl j4)] H2 = _
    refine Eq.trans (e1 hG PT_74 k74_23 _ _ _) ?_
    show G 74 24 [some (.inr (.inr x0)), some (.inr (.inr x1)), some (.inl x2), some (.inr (.inl x3)), none] [.inl (lg_cmp j4 ((-8640000000)))] H2 = _
    refine Eq.trans (e1 hG PT_74 k74_24 _ _ _) ?_
    refine bfc ?_ ?_
    · rfl
    · rfl
theorem b74_27 {G : AG} (hG : FIX G) (x0 : Nat) (x1 : Nat) (x2 : Int32) (x3 : Int64) (H : Hp) : G 74 27 [some (.inr (.inr x0)), some (.inr (.inr x1)), some (.inl x2), some (.inr (.inl x3)), none] [] H = ((hpZ H x0 20 1).bind fun H1 => G 74 32 [some (.inr (.inr x0)), some (.inr (.inr x1)), some (.inl x2), some (.inr (.inl x3)), none] [] H1) := by
  refine Eq.trans (e1 hG PT_74 k74_27 _ _ _) ?_
  show G 74 28 [some (.inr (.inr x0)), some (.inr (.inr x1)), some (.inl x2), some (.inr (.inl x3)), none] [.inr (.inr x0)] H = _
  refine Eq.trans (e1 hG PT_74 k74_28 _ _ _) ?_
  show G 74 29 [some (.inr (.inr x0)), some (.inr (.inr x1)), some (.inl x2), some (.inr (.inl x3)), none] [.inl 1, .inr (.inr x0)] H = _
  refine Eq.trans (e1 hG PT_74 k74_29 _ _ _) ?_
  refine bdc fun H1 => ?_
  rfl
theorem b74_32 {G : AG} (hG : FIX G) (x0 : Nat) (x1 : Nat) (x2 : Int32) (x3 : Int64) (H : Hp) : G 74 32 [some (.inr (.inr x0)), some (.inr (.inr x1)), some (.inl x2), some (.inr (.inl x3)), none] [] H = (some (none, H)) := by
  exact e1 hG PT_74 k74_32 _ _ _
-- StepsAhead$Reckoner.takeCall(LStepsAhead$Call;)V
theorem PT_75 : PT 75 = pt75 := rfl
theorem k75_0 : lkp pt75 0 = iP 1 (fAld 1) := rfl
theorem k75_1 : lkp pt75 1 = iRR 4 (gtR 6) := rfl
theorem k75_4 : lkp pt75 4 = iRR 7 (gtR 28) := rfl
theorem k75_7 : lkp pt75 7 = iP 8 (fAld 0) := rfl
theorem k75_8 : lkp pt75 8 = iRI 11 (gtI 19) := rfl
theorem k75_11 : lkp pt75 11 = iRI 12 qAI := rfl
theorem k75_12 : lkp pt75 12 = iP 13 (fK (.inl 1)) := rfl
theorem k75_13 : lkp pt75 13 = iB 16 22 (b2 (fun x y => decide (x = y))) := rfl
theorem k75_16 : lkp pt75 16 = iP 17 (fAld 0) := rfl
theorem k75_17 : lkp pt75 17 = iP 18 (fK (.inl 1)) := rfl
theorem k75_18 : lkp pt75 18 = iW 21 (ptZ 20) := rfl
theorem k75_21 : lkp pt75 21 = iRet rV := rfl
theorem k75_22 : lkp pt75 22 = iP 23 (fAld 1) := rfl
theorem k75_23 : lkp pt75 23 = iRR 26 (gtR 6) := rfl
theorem k75_26 : lkp pt75 26 = iRR 29 (gtR 27) := rfl
theorem k75_29 : lkp pt75 29 = iP 30 (fAld 0) := rfl
theorem k75_30 : lkp pt75 30 = iRI 33 (gtI 19) := rfl
theorem k75_33 : lkp pt75 33 = iRR 34 qAR := rfl
theorem k75_34 : lkp pt75 34 = iP 35 (fAst 2) := rfl
theorem k75_35 : lkp pt75 35 = iP 36 (fAld 2) := rfl
theorem k75_36 : lkp pt75 36 = iC 39 76 3 1 1 := rfl
theorem k75_39 : lkp pt75 39 = iP 40 (fIst 3) := rfl
theorem k75_40 : lkp pt75 40 = iP 41 (fAld 0) := rfl
theorem k75_41 : lkp pt75 41 = iRR 44 (gtR 17) := rfl
theorem k75_44 : lkp pt75 44 = iP 45 (fK (.inr (.inl 0))) := rfl
theorem k75_45 : lkp pt75 45 = iC 48 73 5 2 0 := rfl
theorem k75_48 : lkp pt75 48 = iP 49 (fIld 3) := rfl
theorem k75_49 : lkp pt75 49 = iP 51 (fIst 4) := rfl
theorem k75_51 : lkp pt75 51 = iP 53 (fIld 4) := rfl
theorem k75_53 : lkp pt75 53 = iB 56 136 (b1 (fun x => decide (x < 0))) := rfl
theorem k75_56 : lkp pt75 56 = iP 57 (fAld 0) := rfl
theorem k75_57 : lkp pt75 57 = iRR 60 (gtR 14) := rfl
theorem k75_60 : lkp pt75 60 = iP 61 (fAld 0) := rfl
theorem k75_61 : lkp pt75 61 = iRR 64 (gtR 17) := rfl
theorem k75_64 : lkp pt75 64 = iP 65 (fIld 3) := rfl
theorem k75_65 : lkp pt75 65 = iP 67 (fIld 4) := rfl
theorem k75_67 : lkp pt75 67 = iP 68 (f2I (fun x y => x - y)) := rfl
theorem k75_68 : lkp pt75 68 = iP 69 (fK (.inl 1)) := rfl
theorem k75_69 : lkp pt75 69 = iP 70 (f2I (fun x y => x - y)) := rfl
theorem k75_70 : lkp pt75 70 = iC 73 79 1 1 1 := rfl
theorem k75_73 : lkp pt75 73 = iP 74 (fAld 1) := rfl
theorem k75_74 : lkp pt75 74 = iRR 77 (gtR 0) := rfl
theorem k75_77 : lkp pt75 77 = iP 78 (fAld 1) := rfl
theorem k75_78 : lkp pt75 78 = iRI 81 (gtI 3) := rfl
theorem k75_81 : lkp pt75 81 = iCK 84 5 80 11 5 0 := rfl
theorem k75_84 : lkp pt75 84 = iP 85 (fAld 0) := rfl
theorem k75_85 : lkp pt75 85 = iP 86 (fAld 2) := rfl
theorem k75_86 : lkp pt75 86 = iP 88 (fIld 4) := rfl
theorem k75_88 : lkp pt75 88 = iP 89 (fIld 3) := rfl
theorem k75_89 : lkp pt75 89 = iP 91 (fIld 4) := rfl
theorem k75_91 : lkp pt75 91 = iP 92 (f2I (fun x y => x - y)) := rfl
theorem k75_92 : lkp pt75 92 = iP 93 (fAld 1) := rfl
theorem k75_93 : lkp pt75 93 = iCK 96 6 81 6 5 0 := rfl
theorem k75_96 : lkp pt75 96 = iP 97 (fK (.inl 0)) := rfl
theorem k75_97 : lkp pt75 97 = iP 99 (fIst 5) := rfl
theorem k75_99 : lkp pt75 99 = iP 101 (fIld 5) := rfl
theorem k75_101 : lkp pt75 101 = iP 104 (fK (.inl 252)) := rfl
theorem k75_104 : lkp pt75 104 = iB 107 130 (b2 (fun x y => decide (y ≤ x))) := rfl
theorem k75_107 : lkp pt75 107 = iP 108 (fAld 0) := rfl
theorem k75_108 : lkp pt75 108 = iRR 111 (gtR 17) := rfl
theorem k75_111 : lkp pt75 111 = iP 113 (fIld 5) := rfl
theorem k75_113 : lkp pt75 113 = iP 114 fDup2 := rfl
theorem k75_114 : lkp pt75 114 = iRJ 115 qAJ := rfl
theorem k75_115 : lkp pt75 115 = iP 116 (fAld 0) := rfl
theorem k75_116 : lkp pt75 116 = iRR 119 (gtR 18) := rfl
theorem k75_119 : lkp pt75 119 = iP 121 (fIld 5) := rfl
theorem k75_121 : lkp pt75 121 = iRJ 122 qAJ := rfl
theorem k75_122 : lkp pt75 122 = iP 123 (f2J (fun x y => x + y)) := rfl
theorem k75_123 : lkp pt75 123 = iW 124 wAJ := rfl
theorem k75_124 : lkp pt75 124 = iP 127 (fInc 5 1) := rfl
theorem k75_127 : lkp pt75 127 = iP 99 fGo := rfl
theorem k75_130 : lkp pt75 130 = iP 133 (fInc 4 (-1)) := rfl
theorem k75_133 : lkp pt75 133 = iP 51 fGo := rfl
theorem k75_136 : lkp pt75 136 = iP 137 (fAld 0) := rfl
theorem k75_137 : lkp pt75 137 = iRR 140 (gtR 17) := rfl
theorem k75_140 : lkp pt75 140 = iP 141 (fK (.inl 0)) := rfl
theorem k75_141 : lkp pt75 141 = iP 142 fDup2 := rfl
theorem k75_142 : lkp pt75 142 = iRJ 143 qAJ := rfl
theorem k75_143 : lkp pt75 143 = iP 146 (fK (.inr (.inl 8640))) := rfl
theorem k75_146 : lkp pt75 146 = iP 147 (f2J (fun x y => x + y)) := rfl
theorem k75_147 : lkp pt75 147 = iW 148 wAJ := rfl
theorem k75_148 : lkp pt75 148 = iP 149 (fAld 0) := rfl
theorem k75_149 : lkp pt75 149 = iCK 152 6 82 4 1 0 := rfl
theorem k75_152 : lkp pt75 152 = iRet rV := rfl
theorem b75_0 {G : AG} (hG : FIX G) (x0 : Nat) (x1 : Nat) (H : Hp) : G 75 0 [some (.inr (.inr x0)), some (.inr (.inr x1)), none, none, none, none] [] H = ((hgR H x1 6).bind fun r1 => (hgR H r1 28).bind fun r2 => (hgI H x0 19).bind fun i3 => (hAI H r2 i3).bind fun i4 => bif decide ((i4 : Int32) = (1 : Int32)) then (hgR H x1 6).bind fun r5 => (hgR H r5 27).bind fun r6 => (hgI H x0 19).bind fun i7 => (hAR H r6 i7).bind fun r8 => (G 76 0 [some (.inr (.inr r8)), none, none] [] H).bind fun u9 => (asI u9.1).bind fun i10 => (hgR u9.2 x0 17).bind fun r11 => (G 73 0 [some (.inr (.inr r11)), some (.inr (.inl 0)), none, none, none] [] u9.2).bind fun u12 => (asV u12.1).bind fun _ => G 75 51 [some (.inr (.inr x0)), some (.inr (.inr x1)), some (.inr (.inr r8)), some (.inl i10), some (.inl i10), none] [] u12.2 else (hpZ H x0 20 1).bind fun H13 => some (none, H13)) := by
  refine Eq.trans (e1 hG PT_75 k75_0 _ _ _) ?_
  show G 75 1 [some (.inr (.inr x0)), some (.inr (.inr x1)), none, none, none, none] [.inr (.inr x1)] H = _
  refine Eq.trans (e1 hG PT_75 k75_1 _ _ _) ?_
  refine bdc fun r1 => ?_
  show G 75 4 [some (.inr (.inr x0)), some (.inr (.inr x1)), none, none, none, none] [.inr (.inr r1)] H = _
  refine Eq.trans (e1 hG PT_75 k75_4 _ _ _) ?_
  refine bdc fun r2 => ?_
  show G 75 7 [some (.inr (.inr x0)), some (.inr (.inr x1)), none, none, none, none] [.inr (.inr r2)] H = _
  refine Eq.trans (e1 hG PT_75 k75_7 _ _ _) ?_
  show G 75 8 [some (.inr (.inr x0)), some (.inr (.inr x1)), none, none, none, none] [.inr (.inr x0), .inr (.inr r2)] H = _
  refine Eq.trans (e1 hG PT_75 k75_8 _ _ _) ?_
  refine bdc fun i3 => ?_
  show G 75 11 [some (.inr (.inr x0)), some (.inr (.inr x1)), none, none, none, none] [.inl i3, .inr (.inr r2)] H = _
  refine Eq.trans (e1 hG PT_75 k75_11 _ _ _) ?_
  refine bdc fun i4 => ?_
  show G 75 12 [some (.inr (.inr x0)), some (.inr (.inr x1)), none, none, none, none] [.inl i4] H = _
  refine Eq.trans (e1 hG PT_75 k75_12 _ _ _) ?_
  show G 75 13 [some (.inr (.inr x0)), some (.inr (.inr x1)), none, none, none, none] [.inl 1, .inl i4] H = _
  refine Eq.trans (e1 hG PT_75 k75_13 _ _ _) ?_
  refine bfc ?_ ?_
  · show G 75 22 [some (.inr (.inr x0)), some (.inr (.inr x1)), none, none, none, none] [] H = _
    refine Eq.trans (e1 hG PT_75 k75_22 _ _ _) ?_
    show G 75 23 [some (.inr (.inr x0)), some (.inr (.inr x1)), none, none, none, none] [.inr (.inr x1)] H = _
    refine Eq.trans (e1 hG PT_75 k75_23 _ _ _) ?_
    refine bdc fun r5 => ?_
    show G 75 26 [some (.inr (.inr x0)), some (.inr (.inr x1)), none, none, none, none] [.inr (.inr r5)] H = _
    refine Eq.trans (e1 hG PT_75 k75_26 _ _ _) ?_
    refine bdc fun r6 => ?_
    show G 75 29 [some (.inr (.inr x0)), some (.inr (.inr x1)), none, none, none, none] [.inr (.inr r6)] H = _
    refine Eq.trans (e1 hG PT_75 k75_29 _ _ _) ?_
    show G 75 30 [some (.inr (.inr x0)), some (.inr (.inr x1)), none, none, none, none] [.inr (.inr x0), .inr (.inr r6)] H = _
    refine Eq.trans (e1 hG PT_75 k75_30 _ _ _) ?_
    refine bdc fun i7 => ?_
    show G 75 33 [some (.inr (.inr x0)), some (.inr (.inr x1)), none, none, none, none] [.inl i7, .inr (.inr r6)] H = _
    refine Eq.trans (e1 hG PT_75 k75_33 _ _ _) ?_
    refine bdc fun r8 => ?_
    show G 75 34 [some (.inr (.inr x0)), some (.inr (.inr x1)), none, none, none, none] [.inr (.inr r8)] H = _
    refine Eq.trans (e1 hG PT_75 k75_34 _ _ _) ?_
    show G 75 35 [some (.inr (.inr x0)), some (.inr (.inr x1)), some (.inr (.inr r8)), none, none, none] [] H = _
    refine Eq.trans (e1 hG PT_75 k75_35 _ _ _) ?_
    show G 75 36 [some (.inr (.inr x0)), some (.inr (.inr x1)), some (.inr (.inr r8)), none, none, none] [.inr (.inr r8)] H = _
    refine Eq.trans (e1 hG PT_75 k75_36 _ _ _) ?_
    refine bdc fun u9 => ?_
    refine bdc fun i10 => ?_
    show G 75 39 [some (.inr (.inr x0)), some (.inr (.inr x1)), some (.inr (.inr r8)), none, none, none] [.inl i10] u9.2 = _
    refine Eq.trans (e1 hG PT_75 k75_39 _ _ _) ?_
    show G 75 40 [some (.inr (.inr x0)), some (.inr (.inr x1)), some (.inr (.inr r8)), some (.inl i10), none, none] [] u9.2 = _
    refine Eq.trans (e1 hG PT_75 k75_40 _ _ _) ?_
    show G 75 41 [some (.inr (.inr x0)), some (.inr (.inr x1)), some (.inr (.inr r8)), some (.inl i10), none, none] [.inr (.inr x0)] u9.2 = _
    refine Eq.trans (e1 hG PT_75 k75_41 _ _ _) ?_
    refine bdc fun r11 => ?_
    show G 75 44 [some (.inr (.inr x0)), some (.inr (.inr x1)), some (.inr (.inr r8)), some (.inl i10), none, none] [.inr (.inr r11)] u9.2 = _
    refine Eq.trans (e1 hG PT_75 k75_44 _ _ _) ?_
    show G 75 45 [some (.inr (.inr x0)), some (.inr (.inr x1)), some (.inr (.inr r8)), some (.inl i10), none, none] [.inr (.inl 0), .inr (.inr r11)] u9.2 = _
    refine Eq.trans (e1 hG PT_75 k75_45 _ _ _) ?_
    refine bdc fun u12 => ?_
    refine bdc fun _ => ?_
    show G 75 48 [some (.inr (.inr x0)), some (.inr (.inr x1)), some (.inr (.inr r8)), some (.inl i10), none, none] [] u12.2 = _
    refine Eq.trans (e1 hG PT_75 k75_48 _ _ _) ?_
    show G 75 49 [some (.inr (.inr x0)), some (.inr (.inr x1)), some (.inr (.inr r8)), some (.inl i10), none, none] [.inl i10] u12.2 = _
    refine Eq.trans (e1 hG PT_75 k75_49 _ _ _) ?_
    rfl
  · show G 75 16 [some (.inr (.inr x0)), some (.inr (.inr x1)), none, none, none, none] [] H = _
    refine Eq.trans (e1 hG PT_75 k75_16 _ _ _) ?_
    show G 75 17 [some (.inr (.inr x0)), some (.inr (.inr x1)), none, none, none, none] [.inr (.inr x0)] H = _
    refine Eq.trans (e1 hG PT_75 k75_17 _ _ _) ?_
    show G 75 18 [some (.inr (.inr x0)), some (.inr (.inr x1)), none, none, none, none] [.inl 1, .inr (.inr x0)] H = _
    refine Eq.trans (e1 hG PT_75 k75_18 _ _ _) ?_
    refine bdc fun H13 => ?_
    show G 75 21 [some (.inr (.inr x0)), some (.inr (.inr x1)), none, none, none, none] [] H13 = _
    exact e1 hG PT_75 k75_21 _ _ _
theorem b75_51 {G : AG} (hG : FIX G) (x0 : Nat) (x1 : Nat) (x2 : Nat) (x3 : Int32) (x4 : Int32) (o5 : Option AV) (H : Hp) : G 75 51 [some (.inr (.inr x0)), some (.inr (.inr x1)), some (.inr (.inr x2)), some (.inl x3), some (.inl x4), o5] [] H = (bif decide ((x4 : Int32) < 0) then (hgR H x0 17).bind fun r1 => (hAJ H r1 0).bind fun j2 => (hSJ H r1 0 ((j2 + 8640))).bind fun H3 => bif Nat.beq (H3.1 x0).1 6 then (G 82 0 [some (.inr (.inr x0)), none, none, none] [] H3).bind fun u4 => (asV u4.1).bind fun _ => some (none, u4.2) else none else (hgR H x0 14).bind fun r5 => (hgR H x0 17).bind fun r6 => (G 79 0 [some (.inl (((x3 - x4) - 1)))] [] H).bind fun u7 => (asI u7.1).bind fun i8 => (hgR u7.2 x1 0).bind fun r9 => (hgI u7.2 x1 3).bind fun i10 => bif Nat.beq (u7.2.1 r5).1 5 then (G 80 0 [some (.inr (.inr r5)), some (.inr (.inr r6)), some (.inl i8), some (.inr (.inr r9)), some (.inl i10), none, none, none, none, none, none] [] u7.2).bind fun u11 => (asV u11.1).bind fun _ => bif Nat.beq (u11.2.1 x0).1 6 then (G 81 0 [some (.inr (.inr x0)), some (.inr (.inr x2)), some (.inl x4), some (.inl ((x3 - x4))), some (.inr (.inr x1)), none] [] u11.2).bind fun u12 => (asV u12.1).bind fun _ => G 75 99 [some (.inr (.inr x0)), some (.inr (.inr x1)), some (.inr (.inr x2)), some (.inl x3), some (.inl x4), some (.inl 0)] [] u12.2 else none else none) := by
  refine Eq.trans (e1 hG PT_75 k75_51 _ _ _) ?_
  show G 75 53 [some (.inr (.inr x0)), some (.inr (.inr x1)), some (.inr (.inr x2)), some (.inl x3), some (.inl x4), o5] [.inl x4] H = _
  refine Eq.trans (e1 hG PT_75 k75_53 _ _ _) ?_
  refine bfc ?_ ?_
  · show G 75 136 [some (.inr (.inr x0)), some (.inr (.inr x1)), some (.inr (.inr x2)), some (.inl x3), some (.inl x4), o5] [] H = _
    refine Eq.trans (e1 hG PT_75 k75_136 _ _ _) ?_
    show G 75 137 [some (.inr (.inr x0)), some (.inr (.inr x1)), some (.inr (.inr x2)), some (.inl x3), some (.inl x4), o5] [.inr (.inr x0)] H = _
    refine Eq.trans (e1 hG PT_75 k75_137 _ _ _) ?_
    refine bdc fun r1 => ?_
    show G 75 140 [some (.inr (.inr x0)), some (.inr (.inr x1)), some (.inr (.inr x2)), some (.inl x3), some (.inl x4), o5] [.inr (.inr r1)] H = _
    refine Eq.trans (e1 hG PT_75 k75_140 _ _ _) ?_
    show G 75 141 [some (.inr (.inr x0)), some (.inr (.inr x1)), some (.inr (.inr x2)), some (.inl x3), some (.inl x4), o5] [.inl 0, .inr (.inr r1)] H = _
    refine Eq.trans (e1 hG PT_75 k75_141 _ _ _) ?_
    show G 75 142 [some (.inr (.inr x0)), some (.inr (.inr x1)), some (.inr (.inr x2)), some (.inl x3), some (.inl x4), o5] [.inl 0, .inr (.inr r1), .inl 0, .inr (.inr r1)] H = _
    refine Eq.trans (e1 hG PT_75 k75_142 _ _ _) ?_
    refine bdc fun j2 => ?_
    show G 75 143 [some (.inr (.inr x0)), some (.inr (.inr x1)), some (.inr (.inr x2)), some (.inl x3), some (.inl x4), o5] [.inr (.inl j2), .inl 0, .inr (.inr r1)] H = _
    refine Eq.trans (e1 hG PT_75 k75_143 _ _ _) ?_
    show G 75 146 [some (.inr (.inr x0)), some (.inr (.inr x1)), some (.inr (.inr x2)), some (.inl x3), some (.inl x4), o5] [.inr (.inl 8640), .inr (.inl j2), .inl 0, .inr (.inr r1)] H = _
    refine Eq.trans (e1 hG PT_75 k75_146 _ _ _) ?_
    show G 75 147 [some (.inr (.inr x0)), some (.inr (.inr x1)), some (.inr (.inr x2)), some (.inl x3), some (.inl x4), o5] [.inr (.inl (j2 + 8640)), .inl 0, .inr (.inr r1)] H = _
    refine Eq.trans (e1 hG PT_75 k75_147 _ _ _) ?_
    refine bdc fun H3 => ?_
    show G 75 148 [some (.inr (.inr x0)), some (.inr (.inr x1)), some (.inr (.inr x2)), some (.inl x3), some (.inl x4), o5] [] H3 = _
    refine Eq.trans (e1 hG PT_75 k75_148 _ _ _) ?_
    show G 75 149 [some (.inr (.inr x0)), some (.inr (.inr x1)), some (.inr (.inr x2)), some (.inl x3), some (.inl x4), o5] [.inr (.inr x0)] H3 = _
    refine Eq.trans (e1 hG PT_75 k75_149 _ _ _) ?_
    refine bfc ?_ ?_
    · refine bdc fun u4 => ?_
      refine bdc fun _ => ?_
      show G 75 152 [some (.inr (.inr x0)), some (.inr (.inr x1)), some (.inr (.inr x2)), some (.inl x3), some (.inl x4), o5] [] u4.2 = _
      exact e1 hG PT_75 k75_152 _ _ _
    · rfl
  · show G 75 56 [some (.inr (.inr x0)), some (.inr (.inr x1)), some (.inr (.inr x2)), some (.inl x3), some (.inl x4), o5] [] H = _
    refine Eq.trans (e1 hG PT_75 k75_56 _ _ _) ?_
    show G 75 57 [some (.inr (.inr x0)), some (.inr (.inr x1)), some (.inr (.inr x2)), some (.inl x3), some (.inl x4), o5] [.inr (.inr x0)] H = _
    refine Eq.trans (e1 hG PT_75 k75_57 _ _ _) ?_
    refine bdc fun r5 => ?_
    show G 75 60 [some (.inr (.inr x0)), some (.inr (.inr x1)), some (.inr (.inr x2)), some (.inl x3), some (.inl x4), o5] [.inr (.inr r5)] H = _
    refine Eq.trans (e1 hG PT_75 k75_60 _ _ _) ?_
    show G 75 61 [some (.inr (.inr x0)), some (.inr (.inr x1)), some (.inr (.inr x2)), some (.inl x3), some (.inl x4), o5] [.inr (.inr x0), .inr (.inr r5)] H = _
    refine Eq.trans (e1 hG PT_75 k75_61 _ _ _) ?_
    refine bdc fun r6 => ?_
    show G 75 64 [some (.inr (.inr x0)), some (.inr (.inr x1)), some (.inr (.inr x2)), some (.inl x3), some (.inl x4), o5] [.inr (.inr r6), .inr (.inr r5)] H = _
    refine Eq.trans (e1 hG PT_75 k75_64 _ _ _) ?_
    show G 75 65 [some (.inr (.inr x0)), some (.inr (.inr x1)), some (.inr (.inr x2)), some (.inl x3), some (.inl x4), o5] [.inl x3, .inr (.inr r6), .inr (.inr r5)] H = _
    refine Eq.trans (e1 hG PT_75 k75_65 _ _ _) ?_
    show G 75 67 [some (.inr (.inr x0)), some (.inr (.inr x1)), some (.inr (.inr x2)), some (.inl x3), some (.inl x4), o5] [.inl x4, .inl x3, .inr (.inr r6), .inr (.inr r5)] H = _
    refine Eq.trans (e1 hG PT_75 k75_67 _ _ _) ?_
    show G 75 68 [some (.inr (.inr x0)), some (.inr (.inr x1)), some (.inr (.inr x2)), some (.inl x3), some (.inl x4), o5] [.inl (x3 - x4), .inr (.inr r6), .inr (.inr r5)] H = _
    refine Eq.trans (e1 hG PT_75 k75_68 _ _ _) ?_
    show G 75 69 [some (.inr (.inr x0)), some (.inr (.inr x1)), some (.inr (.inr x2)), some (.inl x3), some (.inl x4), o5] [.inl 1, .inl (x3 - x4), .inr (.inr r6), .inr (.inr r5)] H = _
    refine Eq.trans (e1 hG PT_75 k75_69 _ _ _) ?_
    show G 75 70 [some (.inr (.inr x0)), some (.inr (.inr x1)), some (.inr (.inr x2)), some (.inl x3), some (.inl x4), o5] [.inl ((x3 - x4) - 1), .inr (.inr r6), .inr (.inr r5)] H = _
    refine Eq.trans (e1 hG PT_75 k75_70 _ _ _) ?_
    refine bdc fun u7 => ?_
    refine bdc fun i8 => ?_
    show G 75 73 [some (.inr (.inr x0)), some (.inr (.inr x1)), some (.inr (.inr x2)), some (.inl x3), some (.inl x4), o5] [.inl i8, .inr (.inr r6), .inr (.inr r5)] u7.2 = _
    refine Eq.trans (e1 hG PT_75 k75_73 _ _ _) ?_
    show G 75 74 [some (.inr (.inr x0)), some (.inr (.inr x1)), some (.inr (.inr x2)), some (.inl x3), some (.inl x4), o5] [.inr (.inr x1), .inl i8, .inr (.inr r6), .inr (.inr r5)] u7.2 = _
    refine Eq.trans (e1 hG PT_75 k75_74 _ _ _) ?_
    refine bdc fun r9 => ?_
    show G 75 77 [some (.inr (.inr x0)), some (.inr (.inr x1)), some (.inr (.inr x2)), some (.inl x3), some (.inl x4), o5] [.inr (.inr r9), .inl i8, .inr (.inr r6), .inr (.inr r5)] u7.2 = _
    refine Eq.trans (e1 hG PT_75 k75_77 _ _ _) ?_
    show G 75 78 [some (.inr (.inr x0)), some (.inr (.inr x1)), some (.inr (.inr x2)), some (.inl x3), some (.inl x4), o5] [.inr (.inr x1), .inr (.inr r9), .inl i8, .inr (.inr r6), .inr (.inr r5)] u7.2 = _
    refine Eq.trans (e1 hG PT_75 k75_78 _ _ _) ?_
    refine bdc fun i10 => ?_
    show G 75 81 [some (.inr (.inr x0)), some (.inr (.inr x1)), some (.inr (.inr x2)), some (.inl x3), some (.inl x4), o5] [.inl i10, .inr (.inr r9), .inl i8, .inr (.inr r6), .inr (.inr r5)] u7.2 = _
    refine Eq.trans (e1 hG PT_75 k75_81 _ _ _) ?_
    refine bfc ?_ ?_
    · refine bdc fun u11 => ?_
      refine bdc fun _ => ?_
      show G 75 84 [some (.inr (.inr x0)), some (.inr (.inr x1)), some (.inr (.inr x2)), some (.inl x3), some (.inl x4), o5] [] u11.2 = _
      refine Eq.trans (e1 hG PT_75 k75_84 _ _ _) ?_
      show G 75 85 [some (.inr (.inr x0)), some (.inr (.inr x1)), some (.inr (.inr x2)), some (.inl x3), some (.inl x4), o5] [.inr (.inr x0)] u11.2 = _
      refine Eq.trans (e1 hG PT_75 k75_85 _ _ _) ?_
      show G 75 86 [some (.inr (.inr x0)), some (.inr (.inr x1)), some (.inr (.inr x2)), some (.inl x3), some (.inl x4), o5] [.inr (.inr x2), .inr (.inr x0)] u11.2 = _
      refine Eq.trans (e1 hG PT_75 k75_86 _ _ _) ?_
      show G 75 88 [some (.inr (.inr x0)), some (.inr (.inr x1)), some (.inr (.inr x2)), some (.inl x3), some (.inl x4), o5] [.inl x4, .inr (.inr x2), .inr (.inr x0)] u11.2 = _
      refine Eq.trans (e1 hG PT_75 k75_88 _ _ _) ?_
      show G 75 89 [some (.inr (.inr x0)), some (.inr (.inr x1)), some (.inr (.inr x2)), some (.inl x3), some (.inl x4), o5] [.inl x3, .inl x4, .inr (.inr x2), .inr (.inr x0)] u11.2 = _
      refine Eq.trans (e1 hG PT_75 k75_89 _ _ _) ?_
      show G 75 91 [some (.inr (.inr x0)), some (.inr (.inr x1)), some (.inr (.inr x2)), some (.inl x3), some (.inl x4), o5] [.inl x4, .inl x3, .inl x4, .inr (.inr x2), .inr (.inr x0)] u11.2 = _
      refine Eq.trans (e1 hG PT_75 k75_91 _ _ _) ?_
      show G 75 92 [some (.inr (.inr x0)), some (.inr (.inr x1)), some (.inr (.inr x2)), some (.inl x3), some (.inl x4), o5] [.inl (x3 - x4), .inl x4, .inr (.inr x2), .inr (.inr x0)] u11.2 = _
      refine Eq.trans (e1 hG PT_75 k75_92 _ _ _) ?_
      show G 75 93 [some (.inr (.inr x0)), some (.inr (.inr x1)), some (.inr (.inr x2)), some (.inl x3), some (.inl x4), o5] [.inr (.inr x1), .inl (x3 - x4), .inl x4, .inr (.inr x2), .inr (.inr x0)] u11.2 = _
      refine Eq.trans (e1 hG PT_75 k75_93 _ _ _) ?_
      refine bfc ?_ ?_
      · refine bdc fun u12 => ?_
        refine bdc fun _ => ?_
        show G 75 96 [some (.inr (.inr x0)), some (.inr (.inr x1)), some (.inr (.inr x2)), some (.inl x3), some (.inl x4), o5] [] u12.2 = _
        refine Eq.trans (e1 hG PT_75 k75_96 _ _ _) ?_
        show G 75 97 [some (.inr (.inr x0)), some (.inr (.inr x1)), some (.inr (.inr x2)), some (.inl x3), some (.inl x4), o5] [.inl 0] u12.2 = _
        refine Eq.trans (e1 hG PT_75 k75_97 _ _ _) ?_
        rfl
      · rfl
    · rfl
theorem b75_99 {G : AG} (hG : FIX G) (x0 : Nat) (x1 : Nat) (x2 : Nat) (x3 : Int32) (x4 : Int32) (x5 : Int32) (H : Hp) : G 75 99 [some (.inr (.inr x0)), some (.inr (.inr x1)), some (.inr (.inr x2)), some (.inl x3), some (.inl x4), some (.inl x5)] [] H = (bif decide ((252 : Int32) ≤ (x5 : Int32)) then G 75 51 [some (.inr (.inr x0)), some (.inr (.inr x1)), some (.inr (.inr x2)), some (.inl x3), some (.inl (x4 + (-1))), some (.inl x5)] [] H else (hgR H x0 17).bind fun r1 => (hAJ H r1 x5).bind fun j2 => (hgR H x0 18).bind fun r3 => (hAJ H r3 x5).bind fun j4 => (hSJ H r1 x5 ((j2 + j4))).bind fun H5 => G 75 99 [some (.inr (.inr x0)), some (.inr (.inr x1)), some (.inr (.inr x2)), some (.inl x3), some (.inl x4), some (.inl (x5 + 1))] [] H5) := by
  refine Eq.trans (e1 hG PT_75 k75_99 _ _ _) ?_
  show G 75 101 [some (.inr (.inr x0)), some (.inr (.inr x1)), some (.inr (.inr x2)), some (.inl x3), some (.inl x4), some (.inl x5)] [.inl x5] H = _
  refine Eq.trans (e1 hG PT_75 k75_101 _ _ _) ?_
  show G 75 104 [some (.inr (.inr x0)), some (.inr (.inr x1)), some (.inr (.inr x2)), some (.inl x3), some (.inl x4), some (.inl x5)] [.inl 252, .inl x5] H = _
  refine Eq.trans (e1 hG PT_75 k75_104 _ _ _) ?_
  refine bfc ?_ ?_
  · show G 75 130 [some (.inr (.inr x0)), some (.inr (.inr x1)), some (.inr (.inr x2)), some (.inl x3), some (.inl x4), some (.inl x5)] [] H = _
    refine Eq.trans (e1 hG PT_75 k75_130 _ _ _) ?_
    show G 75 133 [some (.inr (.inr x0)), some (.inr (.inr x1)), some (.inr (.inr x2)), some (.inl x3), some (.inl (x4 + (-1))), some (.inl x5)] [] H = _
    refine Eq.trans (e1 hG PT_75 k75_133 _ _ _) ?_
    rfl
  · show G 75 107 [some (.inr (.inr x0)), some (.inr (.inr x1)), some (.inr (.inr x2)), some (.inl x3), some (.inl x4), some (.inl x5)] [] H = _
    refine Eq.trans (e1 hG PT_75 k75_107 _ _ _) ?_
    show G 75 108 [some (.inr (.inr x0)), some (.inr (.inr x1)), some (.inr (.inr x2)), some (.inl x3), some (.inl x4), some (.inl x5)] [.inr (.inr x0)] H = _
    refine Eq.trans (e1 hG PT_75 k75_108 _ _ _) ?_
    refine bdc fun r1 => ?_
    show G 75 111 [some (.inr (.inr x0)), some (.inr (.inr x1)), some (.inr (.inr x2)), some (.inl x3), some (.inl x4), some (.inl x5)] [.inr (.inr r1)] H = _
    refine Eq.trans (e1 hG PT_75 k75_111 _ _ _) ?_
    show G 75 113 [some (.inr (.inr x0)), some (.inr (.inr x1)), some (.inr (.inr x2)), some (.inl x3), some (.inl x4), some (.inl x5)] [.inl x5, .inr (.inr r1)] H = _
    refine Eq.trans (e1 hG PT_75 k75_113 _ _ _) ?_
    show G 75 114 [some (.inr (.inr x0)), some (.inr (.inr x1)), some (.inr (.inr x2)), some (.inl x3), some (.inl x4), some (.inl x5)] [.inl x5, .inr (.inr r1), .inl x5, .inr (.inr r1)] H = _
    refine Eq.trans (e1 hG PT_75 k75_114 _ _ _) ?_
    refine bdc fun j2 => ?_
    show G 75 115 [some (.inr (.inr x0)), some (.inr (.inr x1)), some (.inr (.inr x2)), some (.inl x3), some (.inl x4), some (.inl x5)] [.inr (.inl j2), .inl x5, .inr (.inr r1)] H = _
    refine Eq.trans (e1 hG PT_75 k75_115 _ _ _) ?_
    show G 75 116 [some (.inr (.inr x0)), some (.inr (.inr x1)), some (.inr (.inr x2)), some (.inl x3), some (.inl x4), some (.inl x5)] [.inr (.inr x0), .inr (.inl j2), .inl x5, .inr (.inr r1)] H = _
    refine Eq.trans (e1 hG PT_75 k75_116 _ _ _) ?_
    refine bdc fun r3 => ?_
    show G 75 119 [some (.inr (.inr x0)), some (.inr (.inr x1)), some (.inr (.inr x2)), some (.inl x3), some (.inl x4), some (.inl x5)] [.inr (.inr r3), .inr (.inl j2), .inl x5, .inr (.inr r1)] H = _
    refine Eq.trans (e1 hG PT_75 k75_119 _ _ _) ?_
    show G 75 121 [some (.inr (.inr x0)), some (.inr (.inr x1)), some (.inr (.inr x2)), some (.inl x3), some (.inl x4), some (.inl x5)] [.inl x5, .inr (.inr r3), .inr (.inl j2), .inl x5, .inr (.inr r1)] H = _
    refine Eq.trans (e1 hG PT_75 k75_121 _ _ _) ?_
    refine bdc fun j4 => ?_
    show G 75 122 [some (.inr (.inr x0)), some (.inr (.inr x1)), some (.inr (.inr x2)), some (.inl x3), some (.inl x4), some (.inl x5)] [.inr (.inl j4), .inr (.inl j2), .inl x5, .inr (.inr r1)] H = _
    refine Eq.trans (e1 hG PT_75 k75_122 _ _ _) ?_
    show G 75 123 [some (.inr (.inr x0)), some (.inr (.inr x1)), some (.inr (.inr x2)), some (.inl x3), some (.inl x4), some (.inl x5)] [.inr (.inl (j2 + j4)), .inl x5, .inr (.inr r1)] H = _
    refine Eq.trans (e1 hG PT_75 k75_123 _ _ _) ?_
    refine bdc fun H5 => ?_
    show G 75 124 [some (.inr (.inr x0)), some (.inr (.inr x1)), some (.inr (.inr x2)), some (.inl x3), some (.inl x4), some (.inl x5)] [] H5 = _
    refine Eq.trans (e1 hG PT_75 k75_124 _ _ _) ?_
    show G 75 127 [some (.inr (.inr x0)), some (.inr (.inr x1)), some (.inr (.inr x2)), some (.inl x3), some (.inl x4), some (.inl (x5 + 1))] [] H5 = _
    refine Eq.trans (e1 hG PT_75 k75_127 _ _ _) ?_
    rfl
