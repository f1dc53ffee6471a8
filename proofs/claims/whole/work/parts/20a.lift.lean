-- StepsAhead.<init>()V
theorem PT_0 : PT 0 = pt0 := rfl
theorem k0_0 : lkp pt0 0 = iP 1 (fAld 0) := rfl
theorem k0_1 : lkp pt0 1 = iW 4 wObj := rfl
theorem k0_4 : lkp pt0 4 = iP 5 (fAld 0) := rfl
theorem k0_5 : lkp pt0 5 = iP 7 (fK (.inl 8)) := rfl
theorem k0_7 : lkp pt0 7 = iW 10 (wNa 24) := rfl
theorem k0_10 : lkp pt0 10 = iW 13 (ptR 43) := rfl
theorem k0_13 : lkp pt0 13 = iP 14 (fAld 0) := rfl
theorem k0_14 : lkp pt0 14 = iP 15 (fK (.inl 0)) := rfl
theorem k0_15 : lkp pt0 15 = iW 18 (ptI 44) := rfl
theorem k0_18 : lkp pt0 18 = iP 19 (fAld 0) := rfl
theorem k0_19 : lkp pt0 19 = iP 21 (fK (.inl 6)) := rfl
theorem k0_21 : lkp pt0 21 = iW 23 (wNa 20) := rfl
theorem k0_23 : lkp pt0 23 = iW 26 (ptR 45) := rfl
theorem k0_26 : lkp pt0 26 = iP 27 (fAld 0) := rfl
theorem k0_27 : lkp pt0 27 = iP 29 (fK (.inl 6)) := rfl
theorem k0_29 : lkp pt0 29 = iW 31 (wNa 20) := rfl
theorem k0_31 : lkp pt0 31 = iW 34 (ptR 46) := rfl
theorem k0_34 : lkp pt0 34 = iP 35 (fAld 0) := rfl
theorem k0_35 : lkp pt0 35 = iW 38 (wNew 9 2) := rfl
theorem k0_38 : lkp pt0 38 = iP 39 fDup := rfl
theorem k0_39 : lkp pt0 39 = iCK 42 9 2 1 1 0 := rfl
theorem k0_42 : lkp pt0 42 = iW 45 (ptR 47) := rfl
theorem k0_45 : lkp pt0 45 = iP 46 (fAld 0) := rfl
theorem k0_46 : lkp pt0 46 = iW 49 (wNew 6 7) := rfl
theorem k0_49 : lkp pt0 49 = iP 50 fDup := rfl
theorem k0_50 : lkp pt0 50 = iCK 53 6 3 1 1 0 := rfl
theorem k0_53 : lkp pt0 53 = iW 56 (ptR 48) := rfl
theorem k0_56 : lkp pt0 56 = iP 57 (fAld 0) := rfl
theorem k0_57 : lkp pt0 57 = iW 60 (wNew 8 7) := rfl
theorem k0_60 : lkp pt0 60 = iP 61 fDup := rfl
theorem k0_61 : lkp pt0 61 = iCK 64 8 9 1 1 0 := rfl
theorem k0_64 : lkp pt0 64 = iW 67 (ptR 49) := rfl
theorem k0_67 : lkp pt0 67 = iP 68 (fK (.inl 0)) := rfl
theorem k0_68 : lkp pt0 68 = iP 69 (fIst 1) := rfl
theorem k0_69 : lkp pt0 69 = iP 70 (fIld 1) := rfl
theorem k0_70 : lkp pt0 70 = iP 72 (fK (.inl 8)) := rfl
theorem k0_72 : lkp pt0 72 = iB 75 95 (b2 (fun x y => decide (y ≤ x))) := rfl
theorem k0_75 : lkp pt0 75 = iP 76 (fAld 0) := rfl
theorem k0_76 : lkp pt0 76 = iRR 79 (gtR 43) := rfl
theorem k0_79 : lkp pt0 79 = iP 80 (fIld 1) := rfl
theorem k0_80 : lkp pt0 80 = iW 83 (wNew 7 12) := rfl
theorem k0_83 : lkp pt0 83 = iP 84 fDup := rfl
theorem k0_84 : lkp pt0 84 = iP 85 (fIld 1) := rfl
theorem k0_85 : lkp pt0 85 = iCK 88 7 10 2 2 0 := rfl
theorem k0_88 : lkp pt0 88 = iW 89 wAR := rfl
theorem k0_89 : lkp pt0 89 = iP 92 (fInc 1 1) := rfl
theorem k0_92 : lkp pt0 92 = iP 69 fGo := rfl
theorem k0_95 : lkp pt0 95 = iRet rV := rfl
theorem b0_0 {G : AG} (hG : FIX G) (x0 : Nat) (H : Hp) : G 0 0 [some (.inr (.inr x0)), none] [] H = (((bif Nat.beq x0 0 || false then none else some H)).bind fun H1 => (hNa H1 24 8).bind fun H2 => (hpR H2 x0 43 H1.2.1.1).bind fun H3 => (hpI H3 x0 44 0).bind fun H4 => (hNa H4 20 6).bind fun H5 => (hpR H5 x0 45 H4.2.1.1).bind fun H6 => (hNa H6 20 6).bind fun H7 => (hpR H7 x0 46 H6.2.1.1).bind fun H8 => (hNw H8 9 2).bind fun H9 => bif Nat.beq (H9.1 H8.2.1.1).1 9 then (G 2 0 [some (.inr (.inr H8.2.1.1))] [] H9).bind fun u10 => (asV u10.1).bind fun _ => (hpR u10.2 x0 47 H8.2.1.1).bind fun H11 => (hNw H11 6 7).bind fun H12 => bif Nat.beq (H12.1 H11.2.1.1).1 6 then (G 3 0 [some (.inr (.inr H11.2.1.1))] [] H12).bind fun u13 => (asV u13.1).bind fun _ => (hpR u13.2 x0 48 H11.2.1.1).bind fun H14 => (hNw H14 8 7).bind fun H15 => bif Nat.beq (H15.1 H14.2.1.1).1 8 then (G 9 0 [some (.inr (.inr H14.2.1.1))] [] H15).bind fun u16 => (asV u16.1).bind fun _ => (hpR u16.2 x0 49 H14.2.1.1).bind fun H17 => G 0 69 [some (.inr (.inr x0)), some (.inl 0)] [] H17 else none else none else none) := by
  refine Eq.trans (e1 hG PT_0 k0_0 _ _ _) ?_
  show G 0 1 [some (.inr (.inr x0)), none] [.inr (.inr x0)] H = _
  refine Eq.trans (e1 hG PT_0 k0_1 _ _ _) ?_
  refine bdc fun H1 => ?_
  show G 0 4 [some (.inr (.inr x0)), none] [] H1 = _
  refine Eq.trans (e1 hG PT_0 k0_4 _ _ _) ?_
  show G 0 5 [some (.inr (.inr x0)), none] [.inr (.inr x0)] H1 = _
  refine Eq.trans (e1 hG PT_0 k0_5 _ _ _) ?_
  show G 0 7 [some (.inr (.inr x0)), none] [.inl 8, .inr (.inr x0)] H1 = _
  refine Eq.trans (e1 hG PT_0 k0_7 _ _ _) ?_
  refine bdc fun H2 => ?_
  show G 0 10 [some (.inr (.inr x0)), none] [.inr (.inr H1.2.1.1), .inr (.inr x0)] H2 = _
  refine Eq.trans (e1 hG PT_0 k0_10 _ _ _) ?_
  refine bdc fun H3 => ?_
  show G 0 13 [some (.inr (.inr x0)), none] [] H3 = _
  refine Eq.trans (e1 hG PT_0 k0_13 _ _ _) ?_
  show G 0 14 [some (.inr (.inr x0)), none] [.inr (.inr x0)] H3 = _
  refine Eq.trans (e1 hG PT_0 k0_14 _ _ _) ?_
  show G 0 15 [some (.inr (.inr x0)), none] [.inl 0, .inr (.inr x0)] H3 = _
  refine Eq.trans (e1 hG PT_0 k0_15 _ _ _) ?_
  refine bdc fun H4 => ?_
  show G 0 18 [some (.inr (.inr x0)), none] [] H4 = _
  refine Eq.trans (e1 hG PT_0 k0_18 _ _ _) ?_
  show G 0 19 [some (.inr (.inr x0)), none] [.inr (.inr x0)] H4 = _
  refine Eq.trans (e1 hG PT_0 k0_19 _ _ _) ?_
  show G 0 21 [some (.inr (.inr x0)), none] [.inl 6, .inr (.inr x0)] H4 = _
  refine Eq.trans (e1 hG PT_0 k0_21 _ _ _) ?_
  refine bdc fun H5 => ?_
  show G 0 23 [some (.inr (.inr x0)), none] [.inr (.inr H4.2.1.1), .inr (.inr x0)] H5 = _
  refine Eq.trans (e1 hG PT_0 k0_23 _ _ _) ?_
  refine bdc fun H6 => ?_
  show G 0 26 [some (.inr (.inr x0)), none] [] H6 = _
  refine Eq.trans (e1 hG PT_0 k0_26 _ _ _) ?_
  show G 0 27 [some (.inr (.inr x0)), none] [.inr (.inr x0)] H6 = _
  refine Eq.trans (e1 hG PT_0 k0_27 _ _ _) ?_
  show G 0 29 [some (.inr (.inr x0)), none] [.inl 6, .inr (.inr x0)] H6 = _
  refine Eq.trans (e1 hG PT_0 k0_29 _ _ _) ?_
  refine bdc fun H7 => ?_
  show G 0 31 [some (.inr (.inr x0)), none] [.inr (.inr H6.2.1.1), .inr (.inr x0)] H7 = _
  refine Eq.trans (e1 hG PT_0 k0_31 _ _ _) ?_
  refine bdc fun H8 => ?_
  show G 0 34 [some (.inr (.inr x0)), none] [] H8 = _
  refine Eq.trans (e1 hG PT_0 k0_34 _ _ _) ?_
  show G 0 35 [some (.inr (.inr x0)), none] [.inr (.inr x0)] H8 = _
  refine Eq.trans (e1 hG PT_0 k0_35 _ _ _) ?_
  refine bdc fun H9 => ?_
  show G 0 38 [some (.inr (.inr x0)), none] [.inr (.inr H8.2.1.1), .inr (.inr x0)] H9 = _
  refine Eq.trans (e1 hG PT_0 k0_38 _ _ _) ?_
  show G 0 39 [some (.inr (.inr x0)), none] [.inr (.inr H8.2.1.1), .inr (.inr H8.2.1.1), .inr (.inr x0)] H9 = _
  refine Eq.trans (e1 hG PT_0 k0_39 _ _ _) ?_
  refine bfc ?_ ?_
  · refine bdc fun u10 => ?_
    refine bdc fun _ => ?_
    show G 0 42 [some (.inr (.inr x0)), none] [.inr (.inr H8.2.1.1), .inr (.inr x0)] u10.2 = _
    refine Eq.trans (e1 hG PT_0 k0_42 _ _ _) ?_
    refine bdc fun H11 => ?_
    show G 0 45 [some (.inr (.inr x0)), none] [] H11 = _
    refine Eq.trans (e1 hG PT_0 k0_45 _ _ _) ?_
    show G 0 46 [some (.inr (.inr x0)), none] [.inr (.inr x0)] H11 = _
    refine Eq.trans (e1 hG PT_0 k0_46 _ _ _) ?_
    refine bdc fun H12 => ?_
    show G 0 49 [some (.inr (.inr x0)), none] [.inr (.inr H11.2.1.1), .inr (.inr x0)] H12 = _
    refine Eq.trans (e1 hG PT_0 k0_49 _ _ _) ?_
    show G 0 50 [some (.inr (.inr x0)), none] [.inr (.inr H11.2.1.1), .inr (.inr H11.2.1.1), .inr (.inr x0)] H12 = _
    refine Eq.trans (e1 hG PT_0 k0_50 _ _ _) ?_
    refine bfc ?_ ?_
    · refine bdc fun u13 => ?_
      refine bdc fun _ => ?_
      show G 0 53 [some (.inr (.inr x0)), none] [.inr (.inr H11.2.1.1), .inr (.inr x0)] u13.2 = _
      refine Eq.trans (e1 hG PT_0 k0_53 _ _ _) ?_
      refine bdc fun H14 => ?_
      show G 0 56 [some (.inr (.inr x0)), none] [] H14 = _
      refine Eq.trans (e1 hG PT_0 k0_56 _ _ _) ?_
      show G 0 57 [some (.inr (.inr x0)), none] [.inr (.inr x0)] H14 = _
      refine Eq.trans (e1 hG PT_0 k0_57 _ _ _) ?_
      refine bdc fun H15 => ?_
      show G 0 60 [some (.inr (.inr x0)), none] [.inr (.inr H14.2.1.1), .inr (.inr x0)] H15 = _
      refine Eq.trans (e1 hG PT_0 k0_60 _ _ _) ?_
      show G 0 61 [some (.inr (.inr x0)), none] [.inr (.inr H14.2.1.1), .inr (.inr H14.2.1.1), .inr (.inr x0)] H15 = _
      refine Eq.trans (e1 hG PT_0 k0_61 _ _ _) ?_
      refine bfc ?_ ?_
      · refine bdc fun u16 => ?_
        refine bdc fun _ => ?_
        show G 0 64 [some (.inr (.inr x0)), none] [.inr (.inr H14.2.1.1), .inr (.inr x0)] u16.2 = _
        refine Eq.trans (e1 hG PT_0 k0_64 _ _ _) ?_
        refine bdc fun H17 => ?_
        show G 0 67 [some (.inr (.inr x0)), none] [] H17 = _
        refine Eq.trans (e1 hG PT_0 k0_67 _ _ _) ?_
        show G 0 68 [some (.inr (.inr x0)), none] [.inl 0] H17 = _
        refine Eq.trans (e1 hG PT_0 k0_68 _ _ _) ?_
        rfl
      · rfl
    · rfl
  · rfl
theorem b0_69 {G : AG} (hG : FIX G) (x0 : Nat) (x1 : Int32) (H : Hp) : G 0 69 [some (.inr (.inr x0)), some (.inl x1)] [] H = (bif decide ((8 : Int32) ≤ (x1 : Int32)) then some (none, H) else (hgR H x0 43).bind fun r1 => (hNw H 7 12).bind fun H2 => bif Nat.beq (H2.1 H.2.1.1).1 7 then (G 10 0 [some (.inr (.inr H.2.1.1)), some (.inl x1)] [] H2).bind fun u3 => (asV u3.1).bind fun _ => (hSR u3.2 r1 x1 H.2.1.1).bind fun H4 => G 0 69 [some (.inr (.inr x0)), some (.inl (x1 + 1))] [] H4 else none) := by
  refine Eq.trans (e1 hG PT_0 k0_69 _ _ _) ?_
  show G 0 70 [some (.inr (.inr x0)), some (.inl x1)] [.inl x1] H = _
  refine Eq.trans (e1 hG PT_0 k0_70 _ _ _) ?_
  show G 0 72 [some (.inr (.inr x0)), some (.inl x1)] [.inl 8, .inl x1] H = _
  refine Eq.trans (e1 hG PT_0 k0_72 _ _ _) ?_
  refine bfc ?_ ?_
  · show G 0 95 [some (.inr (.inr x0)), some (.inl x1)] [] H = _
    exact e1 hG PT_0 k0_95 _ _ _
  · show G 0 75 [some (.inr (.inr x0)), some (.inl x1)] [] H = _
    refine Eq.trans (e1 hG PT_0 k0_75 _ _ _) ?_
    show G 0 76 [some (.inr (.inr x0)), some (.inl x1)] [.inr (.inr x0)] H = _
    refine Eq.trans (e1 hG PT_0 k0_76 _ _ _) ?_
    refine bdc fun r1 => ?_
    show G 0 79 [some (.inr (.inr x0)), some (.inl x1)] [.inr (.inr r1)] H = _
    refine Eq.trans (e1 hG PT_0 k0_79 _ _ _) ?_
    show G 0 80 [some (.inr (.inr x0)), some (.inl x1)] [.inl x1, .inr (.inr r1)] H = _
    refine Eq.trans (e1 hG PT_0 k0_80 _ _ _) ?_
    refine bdc fun H2 => ?_
    show G 0 83 [some (.inr (.inr x0)), some (.inl x1)] [.inr (.inr H.2.1.1), .inl x1, .inr (.inr r1)] H2 = _
    refine Eq.trans (e1 hG PT_0 k0_83 _ _ _) ?_
    show G 0 84 [some (.inr (.inr x0)), some (.inl x1)] [.inr (.inr H.2.1.1), .inr (.inr H.2.1.1), .inl x1, .inr (.inr r1)] H2 = _
    refine Eq.trans (e1 hG PT_0 k0_84 _ _ _) ?_
    show G 0 85 [some (.inr (.inr x0)), some (.inl x1)] [.inl x1, .inr (.inr H.2.1.1), .inr (.inr H.2.1.1), .inl x1, .inr (.inr r1)] H2 = _
    refine Eq.trans (e1 hG PT_0 k0_85 _ _ _) ?_
    refine bfc ?_ ?_
    · refine bdc fun u3 => ?_
      refine bdc fun _ => ?_
      show G 0 88 [some (.inr (.inr x0)), some (.inl x1)] [.inr (.inr H.2.1.1), .inl x1, .inr (.inr r1)] u3.2 = _
      refine Eq.trans (e1 hG PT_0 k0_88 _ _ _) ?_
      refine bdc fun H4 => ?_
      show G 0 89 [some (.inr (.inr x0)), some (.inl x1)] [] H4 = _
      refine Eq.trans (e1 hG PT_0 k0_89 _ _ _) ?_
      show G 0 92 [some (.inr (.inr x0)), some (.inl (x1 + 1))] [] H4 = _
      refine Eq.trans (e1 hG PT_0 k0_92 _ _ _) ?_
      rfl
    · rfl
-- StepsAhead$Trace.<init>()V
theorem PT_2 : PT 2 = pt2 := rfl
theorem k2_0 : lkp pt2 0 = iP 1 (fAld 0) := rfl
theorem k2_1 : lkp pt2 1 = iW 4 wObj := rfl
theorem k2_4 : lkp pt2 4 = iP 5 (fAld 0) := rfl
theorem k2_5 : lkp pt2 5 = iP 7 (fK (.inl 16)) := rfl
theorem k2_7 : lkp pt2 7 = iW 9 (wNa 20) := rfl
theorem k2_9 : lkp pt2 9 = iW 12 (ptR 40) := rfl
theorem k2_12 : lkp pt2 12 = iP 13 (fAld 0) := rfl
theorem k2_13 : lkp pt2 13 = iP 14 (fK (.inl 0)) := rfl
theorem k2_14 : lkp pt2 14 = iW 17 (ptI 41) := rfl
theorem k2_17 : lkp pt2 17 = iRet rV := rfl
theorem b2_0 {G : AG} (hG : FIX G) (x0 : Nat) (H : Hp) : G 2 0 [some (.inr (.inr x0))] [] H = (((bif Nat.beq x0 0 || false then none else some H)).bind fun H1 => (hNa H1 20 16).bind fun H2 => (hpR H2 x0 40 H1.2.1.1).bind fun H3 => (hpI H3 x0 41 0).bind fun H4 => some (none, H4)) := by
  refine Eq.trans (e1 hG PT_2 k2_0 _ _ _) ?_
  show G 2 1 [some (.inr (.inr x0))] [.inr (.inr x0)] H = _
  refine Eq.trans (e1 hG PT_2 k2_1 _ _ _) ?_
  refine bdc fun H1 => ?_
  show G 2 4 [some (.inr (.inr x0))] [] H1 = _
  refine Eq.trans (e1 hG PT_2 k2_4 _ _ _) ?_
  show G 2 5 [some (.inr (.inr x0))] [.inr (.inr x0)] H1 = _
  refine Eq.trans (e1 hG PT_2 k2_5 _ _ _) ?_
  show G 2 7 [some (.inr (.inr x0))] [.inl 16, .inr (.inr x0)] H1 = _
  refine Eq.trans (e1 hG PT_2 k2_7 _ _ _) ?_
  refine bdc fun H2 => ?_
  show G 2 9 [some (.inr (.inr x0))] [.inr (.inr H1.2.1.1), .inr (.inr x0)] H2 = _
  refine Eq.trans (e1 hG PT_2 k2_9 _ _ _) ?_
  refine bdc fun H3 => ?_
  show G 2 12 [some (.inr (.inr x0))] [] H3 = _
  refine Eq.trans (e1 hG PT_2 k2_12 _ _ _) ?_
  show G 2 13 [some (.inr (.inr x0))] [.inr (.inr x0)] H3 = _
  refine Eq.trans (e1 hG PT_2 k2_13 _ _ _) ?_
  show G 2 14 [some (.inr (.inr x0))] [.inl 0, .inr (.inr x0)] H3 = _
  refine Eq.trans (e1 hG PT_2 k2_14 _ _ _) ?_
  refine bdc fun H4 => ?_
  show G 2 17 [some (.inr (.inr x0))] [] H4 = _
  exact e1 hG PT_2 k2_17 _ _ _
-- StepsAhead$Reckoner.<init>()V
theorem PT_3 : PT 3 = pt3 := rfl
theorem k3_0 : lkp pt3 0 = iP 1 (fAld 0) := rfl
theorem k3_1 : lkp pt3 1 = iW 4 wObj := rfl
theorem k3_4 : lkp pt3 4 = iP 5 (fAld 0) := rfl
theorem k3_5 : lkp pt3 5 = iW 8 (wNew 5 2) := rfl
theorem k3_8 : lkp pt3 8 = iP 9 fDup := rfl
theorem k3_9 : lkp pt3 9 = iCK 12 5 4 4 1 0 := rfl
theorem k3_12 : lkp pt3 12 = iW 15 (ptR 14) := rfl
theorem k3_15 : lkp pt3 15 = iP 16 (fAld 0) := rfl
theorem k3_16 : lkp pt3 16 = iP 18 (fK (.inl 18)) := rfl
theorem k3_18 : lkp pt3 18 = iP 21 (fK (.inl 252)) := rfl
theorem k3_21 : lkp pt3 21 = iW 25 (wMu 26 21) := rfl
theorem k3_25 : lkp pt3 25 = iW 28 (ptR 15) := rfl
theorem k3_28 : lkp pt3 28 = iP 29 (fAld 0) := rfl
theorem k3_29 : lkp pt3 29 = iP 30 (fK (.inl 0)) := rfl
theorem k3_30 : lkp pt3 30 = iW 33 (ptI 16) := rfl
theorem k3_33 : lkp pt3 33 = iP 34 (fAld 0) := rfl
theorem k3_34 : lkp pt3 34 = iP 37 (fK (.inl 252)) := rfl
theorem k3_37 : lkp pt3 37 = iW 39 (wNa 21) := rfl
theorem k3_39 : lkp pt3 39 = iW 42 (ptR 17) := rfl
theorem k3_42 : lkp pt3 42 = iP 43 (fAld 0) := rfl
theorem k3_43 : lkp pt3 43 = iP 46 (fK (.inl 252)) := rfl
theorem k3_46 : lkp pt3 46 = iW 48 (wNa 21) := rfl
theorem k3_48 : lkp pt3 48 = iW 51 (ptR 18) := rfl
theorem k3_51 : lkp pt3 51 = iP 52 (fAld 0) := rfl
theorem k3_52 : lkp pt3 52 = iP 53 (fK (.inl 0)) := rfl
theorem k3_53 : lkp pt3 53 = iW 56 (ptI 19) := rfl
theorem k3_56 : lkp pt3 56 = iP 57 (fAld 0) := rfl
theorem k3_57 : lkp pt3 57 = iP 58 (fK (.inl 0)) := rfl
theorem k3_58 : lkp pt3 58 = iW 61 (ptZ 20) := rfl
theorem k3_61 : lkp pt3 61 = iRet rV := rfl
theorem b3_0 {G : AG} (hG : FIX G) (x0 : Nat) (H : Hp) : G 3 0 [some (.inr (.inr x0))] [] H = (((bif Nat.beq x0 0 || false then none else some H)).bind fun H1 => (hNw H1 5 2).bind fun H2 => bif Nat.beq (H2.1 H1.2.1.1).1 5 then (G 4 0 [some (.inr (.inr H1.2.1.1)), none, none, none] [] H2).bind fun u3 => (asV u3.1).bind fun _ => (hpR u3.2 x0 14 H1.2.1.1).bind fun H4 => ((bif Nat.ble 4 H4.2.1.1 && (decide ((0 : Int32) ≤ 18) && (decide ((0 : Int32) ≤ 252) && (Nat.ble (18 : Int32).toNatClampNeg 10000 && Nat.ble (252 : Int32).toNatClampNeg 10000))) then some (hMu H4 26 21 (18 : Int32).toNatClampNeg (252 : Int32).toNatClampNeg) else none)).bind fun H5 => (hpR H5 x0 15 H4.2.1.1).bind fun H6 => (hpI H6 x0 16 0).bind fun H7 => (hNa H7 21 252).bind fun H8 => (hpR H8 x0 17 H7.2.1.1).bind fun H9 => (hNa H9 21 252).bind fun H10 => (hpR H10 x0 18 H9.2.1.1).bind fun H11 => (hpI H11 x0 19 0).bind fun H12 => (hpZ H12 x0 20 0).bind fun H13 => some (none, H13) else none) := by
  refine Eq.trans (e1 hG PT_3 k3_0 _ _ _) ?_
  show G 3 1 [some (.inr (.inr x0))] [.inr (.inr x0)] H = _
  refine Eq.trans (e1 hG PT_3 k3_1 _ _ _) ?_
  refine bdc fun H1 => ?_
  show G 3 4 [some (.inr (.inr x0))] [] H1 = _
  refine Eq.trans (e1 hG PT_3 k3_4 _ _ _) ?_
  show G 3 5 [some (.inr (.inr x0))] [.inr (.inr x0)] H1 = _
  refine Eq.trans (e1 hG PT_3 k3_5 _ _ _) ?_
  refine bdc fun H2 => ?_
  show G 3 8 [some (.inr (.inr x0))] [.inr (.inr H1.2.1.1), .inr (.inr x0)] H2 = _
  refine Eq.trans (e1 hG PT_3 k3_8 _ _ _) ?_
  show G 3 9 [some (.inr (.inr x0))] [.inr (.inr H1.2.1.1), .inr (.inr H1.2.1.1), .inr (.inr x0)] H2 = _
  refine Eq.trans (e1 hG PT_3 k3_9 _ _ _) ?_
  refine bfc ?_ ?_
  · refine bdc fun u3 => ?_
    refine bdc fun _ => ?_
    show G 3 12 [some (.inr (.inr x0))] [.inr (.inr H1.2.1.1), .inr (.inr x0)] u3.2 = _
    refine Eq.trans (e1 hG PT_3 k3_12 _ _ _) ?_
    refine bdc fun H4 => ?_
    show G 3 15 [some (.inr (.inr x0))] [] H4 = _
    refine Eq.trans (e1 hG PT_3 k3_15 _ _ _) ?_
    show G 3 16 [some (.inr (.inr x0))] [.inr (.inr x0)] H4 = _
    refine Eq.trans (e1 hG PT_3 k3_16 _ _ _) ?_
    show G 3 18 [some (.inr (.inr x0))] [.inl 18, .inr (.inr x0)] H4 = _
    refine Eq.trans (e1 hG PT_3 k3_18 _ _ _) ?_
    show G 3 21 [some (.inr (.inr x0))] [.inl 252, .inl 18, .inr (.inr x0)] H4 = _
    refine Eq.trans (e1 hG PT_3 k3_21 _ _ _) ?_
    refine bdc fun H5 => ?_
    show G 3 25 [some (.inr (.inr x0))] [.inr (.inr H4.2.1.1), .inr (.inr x0)] H5 = _
    refine Eq.trans (e1 hG PT_3 k3_25 _ _ _) ?_
    refine bdc fun H6 => ?_
    show G 3 28 [some (.inr (.inr x0))] [] H6 = _
    refine Eq.trans (e1 hG PT_3 k3_28 _ _ _) ?_
    show G 3 29 [some (.inr (.inr x0))] [.inr (.inr x0)] H6 = _
    refine Eq.trans (e1 hG PT_3 k3_29 _ _ _) ?_
    show G 3 30 [some (.inr (.inr x0))] [.inl 0, .inr (.inr x0)] H6 = _
    refine Eq.trans (e1 hG PT_3 k3_30 _ _ _) ?_
    refine bdc fun H7 => ?_
    show G 3 33 [some (.inr (.inr x0))] [] H7 = _
    refine Eq.trans (e1 hG PT_3 k3_33 _ _ _) ?_
    show G 3 34 [some (.inr (.inr x0))] [.inr (.inr x0)] H7 = _
    refine Eq.trans (e1 hG PT_3 k3_34 _ _ _) ?_
    show G 3 37 [some (.inr (.inr x0))] [.inl 252, .inr (.inr x0)] H7 = _
    refine Eq.trans (e1 hG PT_3 k3_37 _ _ _) ?_
    refine bdc fun H8 => ?_
    show G 3 39 [some (.inr (.inr x0))] [.inr (.inr H7.2.1.1), .inr (.inr x0)] H8 = _
    refine Eq.trans (e1 hG PT_3 k3_39 _ _ _) ?_
    refine bdc fun H9 => ?_
    show G 3 42 [some (.inr (.inr x0))] [] H9 = _
    refine Eq.trans (e1 hG PT_3 k3_42 _ _ _) ?_
    show G 3 43 [some (.inr (.inr x0))] [.inr (.inr x0)] H9 = _
    refine Eq.trans (e1 hG PT_3 k3_43 _ _ _) ?_
    show G 3 46 [some (.inr (.inr x0))] [.inl 252, .inr (.inr x0)] H9 = _
    refine Eq.trans (e1 hG PT_3 k3_46 _ _ _) ?_
    refine bdc fun H10 => ?_
    show G 3 48 [some (.inr (.inr x0))] [.inr (.inr H9.2.1.1), .inr (.inr x0)] H10 = _
    refine Eq.trans (e1 hG PT_3 k3_48 _ _ _) ?_
    refine bdc fun H11 => ?_
    show G 3 51 [some (.inr (.inr x0))] [] H11 = _
    refine Eq.trans (e1 hG PT_3 k3_51 _ _ _) ?_
    show G 3 52 [some (.inr (.inr x0))] [.inr (.inr x0)] H11 = _
    refine Eq.trans (e1 hG PT_3 k3_52 _ _ _) ?_
    show G 3 53 [some (.inr (.inr x0))] [.inl 0, .inr (.inr x0)] H11 = _
    refine Eq.trans (e1 hG PT_3 k3_53 _ _ _) ?_
    refine bdc fun H12 => ?_
    show G 3 56 [some (.inr (.inr x0))] [] H12 = _
    refine Eq.trans (e1 hG PT_3 k3_56 _ _ _) ?_
    show G 3 57 [some (.inr (.inr x0))] [.inr (.inr x0)] H12 = _
    refine Eq.trans (e1 hG PT_3 k3_57 _ _ _) ?_
    show G 3 58 [some (.inr (.inr x0))] [.inl 0, .inr (.inr x0)] H12 = _
    refine Eq.trans (e1 hG PT_3 k3_58 _ _ _) ?_
    refine bdc fun H13 => ?_
    show G 3 61 [some (.inr (.inr x0))] [] H13 = _
    exact e1 hG PT_3 k3_61 _ _ _
  · rfl
-- StepsAhead$Products.<init>()V
theorem PT_4 : PT 4 = pt4 := rfl
theorem k4_0 : lkp pt4 0 = iP 1 (fAld 0) := rfl
theorem k4_1 : lkp pt4 1 = iW 4 wObj := rfl
theorem k4_4 : lkp pt4 4 = iP 5 (fAld 0) := rfl
theorem k4_5 : lkp pt4 5 = iP 6 (fK (.inl 5)) := rfl
theorem k4_6 : lkp pt4 6 = iP 9 (fK (.inl 252)) := rfl
theorem k4_9 : lkp pt4 9 = iW 13 (wMu 25 20) := rfl
theorem k4_13 : lkp pt4 13 = iW 16 (ptR 12) := rfl
theorem k4_16 : lkp pt4 16 = iP 17 (fAld 0) := rfl
theorem k4_17 : lkp pt4 17 = iP 20 (fK (.inl 252)) := rfl
theorem k4_20 : lkp pt4 20 = iW 22 (wNa 20) := rfl
theorem k4_22 : lkp pt4 22 = iW 25 (ptR 13) := rfl
theorem k4_25 : lkp pt4 25 = iP 28 (fK (.inl 252)) := rfl
theorem k4_28 : lkp pt4 28 = iW 30 (wNa 20) := rfl
theorem k4_30 : lkp pt4 30 = iP 31 (fAst 1) := rfl
theorem k4_31 : lkp pt4 31 = iP 32 (fK (.inl 0)) := rfl
theorem k4_32 : lkp pt4 32 = iP 33 (fIst 2) := rfl
theorem k4_33 : lkp pt4 33 = iP 34 (fIld 2) := rfl
theorem k4_34 : lkp pt4 34 = iP 35 (fK (.inl 5)) := rfl
theorem k4_35 : lkp pt4 35 = iB 38 54 (b2 (fun x y => decide (y ≤ x))) := rfl
theorem k4_38 : lkp pt4 38 = iP 39 (fAld 0) := rfl
theorem k4_39 : lkp pt4 39 = iRR 42 (gtR 12) := rfl
theorem k4_42 : lkp pt4 42 = iP 43 (fIld 2) := rfl
theorem k4_43 : lkp pt4 43 = iRR 44 qAR := rfl
theorem k4_44 : lkp pt4 44 = iP 45 (fK (.inl (-1))) := rfl
theorem k4_45 : lkp pt4 45 = iC 48 5 4 2 0 := rfl
theorem k4_48 : lkp pt4 48 = iP 51 (fInc 2 1) := rfl
theorem k4_51 : lkp pt4 51 = iP 33 fGo := rfl
theorem k4_54 : lkp pt4 54 = iP 55 (fK (.inl 0)) := rfl
theorem k4_55 : lkp pt4 55 = iP 56 (fIst 2) := rfl
theorem k4_56 : lkp pt4 56 = iP 57 (fK (.inl 0)) := rfl
theorem k4_57 : lkp pt4 57 = iP 58 (fIst 3) := rfl
theorem k4_58 : lkp pt4 58 = iP 59 (fIld 3) := rfl
theorem k4_59 : lkp pt4 59 = iP 60 (fK (.inl 5)) := rfl
theorem k4_60 : lkp pt4 60 = iB 63 97 (b2 (fun x y => decide (y ≤ x))) := rfl
theorem k4_63 : lkp pt4 63 = iP 64 (fAld 0) := rfl
theorem k4_64 : lkp pt4 64 = iP 65 (fAld 1) := rfl
theorem k4_65 : lkp pt4 65 = iP 66 (fIld 2) := rfl
theorem k4_66 : lkp pt4 66 = iP 69 (fK (.inr (.inr 2))) := rfl
theorem k4_69 : lkp pt4 69 = iP 70 (fIld 3) := rfl
theorem k4_70 : lkp pt4 70 = iRI 71 qAI := rfl
theorem k4_71 : lkp pt4 71 = iCK 74 5 6 7 4 0 := rfl
theorem k4_74 : lkp pt4 74 = iP 75 (fAld 0) := rfl
theorem k4_75 : lkp pt4 75 = iP 76 (fAld 1) := rfl
theorem k4_76 : lkp pt4 76 = iP 77 (fIld 2) := rfl
theorem k4_77 : lkp pt4 77 = iP 80 (fK (.inr (.inr 2))) := rfl
theorem k4_80 : lkp pt4 80 = iP 81 (fIld 3) := rfl
theorem k4_81 : lkp pt4 81 = iRI 82 qAI := rfl
theorem k4_82 : lkp pt4 82 = iCK 85 5 7 7 4 0 := rfl
theorem k4_85 : lkp pt4 85 = iP 88 (fK (.inr (.inr 2))) := rfl
theorem k4_88 : lkp pt4 88 = iP 89 (fIld 3) := rfl
theorem k4_89 : lkp pt4 89 = iRI 90 qAI := rfl
theorem k4_90 : lkp pt4 90 = iP 91 (fIst 2) := rfl
theorem k4_91 : lkp pt4 91 = iP 94 (fInc 3 1) := rfl
theorem k4_94 : lkp pt4 94 = iP 58 fGo := rfl
theorem k4_97 : lkp pt4 97 = iRet rV := rfl
theorem b4_0 {G : AG} (hG : FIX G) (x0 : Nat) (H : Hp) : G 4 0 [some (.inr (.inr x0)), none, none, none] [] H = (((bif Nat.beq x0 0 || false then none else some H)).bind fun H1 => ((bif Nat.ble 4 H1.2.1.1 && (decide ((0 : Int32) ≤ 5) && (decide ((0 : Int32) ≤ 252) && (Nat.ble (5 : Int32).toNatClampNeg 10000 && Nat.ble (252 : Int32).toNatClampNeg 10000))) then some (hMu H1 25 20 (5 : Int32).toNatClampNeg (252 : Int32).toNatClampNeg) else none)).bind fun H2 => (hpR H2 x0 12 H1.2.1.1).bind fun H3 => (hNa H3 20 252).bind fun H4 => (hpR H4 x0 13 H3.2.1.1).bind fun H5 => (hNa H5 20 252).bind fun H6 => G 4 33 [some (.inr (.inr x0)), some (.inr (.inr H5.2.1.1)), some (.inl 0), none] [] H6) := by
  refine Eq.trans (e1 hG PT_4 k4_0 _ _ _) ?_
  show G 4 1 [some (.inr (.inr x0)), none, none, none] [.inr (.inr x0)] H = _
  refine Eq.trans (e1 hG PT_4 k4_1 _ _ _) ?_
  refine bdc fun H1 => ?_
  show G 4 4 [some (.inr (.inr x0)), none, none, none] [] H1 = _
  refine Eq.trans (e1 hG PT_4 k4_4 _ _ _) ?_
  show G 4 5 [some (.inr (.inr x0)), none, none, none] [.inr (.inr x0)] H1 = _
  refine Eq.trans (e1 hG PT_4 k4_5 _ _ _) ?_
  show G 4 6 [some (.inr (.inr x0)), none, none, none] [.inl 5, .inr (.inr x0)] H1 = _
  refine Eq.trans (e1 hG PT_4 k4_6 _ _ _) ?_
  show G 4 9 [some (.inr (.inr x0)), none, none, none] [.inl 252, .inl 5, .inr (.inr x0)] H1 = _
  refine Eq.trans (e1 hG PT_4 k4_9 _ _ _) ?_
  refine bdc fun H2 => ?_
  show G 4 13 [some (.inr (.inr x0)), none, none, none] [.inr (.inr H1.2.1.1), .inr (.inr x0)] H2 = _
  refine Eq.trans (e1 hG PT_4 k4_13 _ _ _) ?_
  refine bdc fun H3 => ?_
  show G 4 16 [some (.inr (.inr x0)), none, none, none] [] H3 = _
  refine Eq.trans (e1 hG PT_4 k4_16 _ _ _) ?_
  show G 4 17 [some (.inr (.inr x0)), none, none, none] [.inr (.inr x0)] H3 = _
  refine Eq.trans (e1 hG PT_4 k4_17 _ _ _) ?_
  show G 4 20 [some (.inr (.inr x0)), none, none, none] [.inl 252, .inr (.inr x0)] H3 = _
  refine Eq.trans (e1 hG PT_4 k4_20 _ _ _) ?_
  refine bdc fun H4 => ?_
  show G 4 22 [some (.inr (.inr x0)), none, none, none] [.inr (.inr H3.2.1.1), .inr (.inr x0)] H4 = _
  refine Eq.trans (e1 hG PT_4 k4_22 _ _ _) ?_
  refine bdc fun H5 => ?_
  show G 4 25 [some (.inr (.inr x0)), none, none, none] [] H5 = _
  refine Eq.trans (e1 hG PT_4 k4_25 _ _ _) ?_
  show G 4 28 [some (.inr (.inr x0)), none, none, none] [.inl 252] H5 = _
  refine Eq.trans (e1 hG PT_4 k4_28 _ _ _) ?_
  refine bdc fun H6 => ?_
  show G 4 30 [some (.inr (.inr x0)), none, none, none] [.inr (.inr H5.2.1.1)] H6 = _
  refine Eq.trans (e1 hG PT_4 k4_30 _ _ _) ?_
  show G 4 31 [some (.inr (.inr x0)), some (.inr (.inr H5.2.1.1)), none, none] [] H6 = _
  refine Eq.trans (e1 hG PT_4 k4_31 _ _ _) ?_
  show G 4 32 [some (.inr (.inr x0)), some (.inr (.inr H5.2.1.1)), none, none] [.inl 0] H6 = _
  refine Eq.trans (e1 hG PT_4 k4_32 _ _ _) ?_
  rfl
theorem b4_33 {G : AG} (hG : FIX G) (x0 : Nat) (x1 : Nat) (x2 : Int32) (H : Hp) : G 4 33 [some (.inr (.inr x0)), some (.inr (.inr x1)), some (.inl x2), none] [] H = (bif decide ((5 : Int32) ≤ (x2 : Int32)) then G 4 58 [some (.inr (.inr x0)), some (.inr (.inr x1)), some (.inl 0), some (.inl 0)] [] H else (hgR H x0 12).bind fun r1 => (hAR H r1 x2).bind fun r2 => (G 5 0 [some (.inr (.inr r2)), some (.inl ((-1))), none, none] [] H).bind fun u3 => (asV u3.1).bind fun _ => G 4 33 [some (.inr (.inr x0)), some (.inr (.inr x1)), some (.inl (x2 + 1)), none] [] u3.2) := by
  refine Eq.trans (e1 hG PT_4 k4_33 _ _ _) ?_
  show G 4 34 [some (.inr (.inr x0)), some (.inr (.inr x1)), some (.inl x2), none] [.inl x2] H = _
  refine Eq.trans (e1 hG PT_4 k4_34 _ _ _) ?_
  show G 4 35 [some (.inr (.inr x0)), some (.inr (.inr x1)), some (.inl x2), none] [.inl 5, .inl x2] H = _
  refine Eq.trans (e1 hG PT_4 k4_35 _ _ _) ?_
  refine bfc ?_ ?_
  · show G 4 54 [some (.inr (.inr x0)), some (.inr (.inr x1)), some (.inl x2), none] [] H = _
    refine Eq.trans (e1 hG PT_4 k4_54 _ _ _) ?_
    show G 4 55 [some (.inr (.inr x0)), some (.inr (.inr x1)), some (.inl x2), none] [.inl 0] H = _
    refine Eq.trans (e1 hG PT_4 k4_55 _ _ _) ?_
    show G 4 56 [some (.inr (.inr x0)), some (.inr (.inr x1)), some (.inl 0), none] [] H = _
    refine Eq.trans (e1 hG PT_4 k4_56 _ _ _) ?_
    show G 4 57 [some (.inr (.inr x0)), some (.inr (.inr x1)), some (.inl 0), none] [.inl 0] H = _
    refine Eq.trans (e1 hG PT_4 k4_57 _ _ _) ?_
    rfl
  · show G 4 38 [some (.inr (.inr x0)), some (.inr (.inr x1)), some (.inl x2), none] [] H = _
    refine Eq.trans (e1 hG PT_4 k4_38 _ _ _) ?_
    show G 4 39 [some (.inr (.inr x0)), some (.inr (.inr x1)), some (.inl x2), none] [.inr (.inr x0)] H = _
    refine Eq.trans (e1 hG PT_4 k4_39 _ _ _) ?_
    refine bdc fun r1 => ?_
    show G 4 42 [some (.inr (.inr x0)), some (.inr (.inr x1)), some (.inl x2), none] [.inr (.inr r1)] H = _
    refine Eq.trans (e1 hG PT_4 k4_42 _ _ _) ?_
    show G 4 43 [some (.inr (.inr x0)), some (.inr (.inr x1)), some (.inl x2), none] [.inl x2, .inr (.inr r1)] H = _
    refine Eq.trans (e1 hG PT_4 k4_43 _ _ _) ?_
    refine bdc fun r2 => ?_
    show G 4 44 [some (.inr (.inr x0)), some (.inr (.inr x1)), some (.inl x2), none] [.inr (.inr r2)] H = _
    refine Eq.trans (e1 hG PT_4 k4_44 _ _ _) ?_
    show G 4 45 [some (.inr (.inr x0)), some (.inr (.inr x1)), some (.inl x2), none] [.inl (-1), .inr (.inr r2)] H = _
    refine Eq.trans (e1 hG PT_4 k4_45 _ _ _) ?_
    refine bdc fun u3 => ?_
    refine bdc fun _ => ?_
    show G 4 48 [some (.inr (.inr x0)), some (.inr (.inr x1)), some (.inl x2), none] [] u3.2 = _
    refine Eq.trans (e1 hG PT_4 k4_48 _ _ _) ?_
    show G 4 51 [some (.inr (.inr x0)), some (.inr (.inr x1)), some (.inl (x2 + 1)), none] [] u3.2 = _
    refine Eq.trans (e1 hG PT_4 k4_51 _ _ _) ?_
    rfl
theorem b4_58 {G : AG} (hG : FIX G) (x0 : Nat) (x1 : Nat) (x2 : Int32) (x3 : Int32) (H : Hp) : G 4 58 [some (.inr (.inr x0)), some (.inr (.inr x1)), some (.inl x2), some (.inl x3)] [] H = (bif decide ((5 : Int32) ≤ (x3 : Int32)) then some (none, H) else (hAI H 2 x3).bind fun i1 => bif Nat.beq (H.1 x0).1 5 then (G 6 0 [some (.inr (.inr x0)), some (.inr (.inr x1)), some (.inl x2), some (.inl i1), none, none, none] [] H).bind fun u2 => (asV u2.1).bind fun _ => (hAI u2.2 2 x3).bind fun i3 => bif Nat.beq (u2.2.1 x0).1 5 then (G 7 0 [some (.inr (.inr x0)), some (.inr (.inr x1)), some (.inl x2), some (.inl i3), none, none, none] [] u2.2).bind fun u4 => (asV u4.1).bind fun _ => (hAI u4.2 2 x3).bind fun i5 => G 4 58 [some (.inr (.inr x0)), some (.inr (.inr x1)), some (.inl i5), some (.inl (x3 + 1))] [] u4.2 else none else none) := by
  refine Eq.trans (e1 hG PT_4 k4_58 _ _ _) ?_
  show G 4 59 [some (.inr (.inr x0)), some (.inr (.inr x1)), some (.inl x2), some (.inl x3)] [.inl x3] H = _
  refine Eq.trans (e1 hG PT_4 k4_59 _ _ _) ?_
  show G 4 60 [some (.inr (.inr x0)), some (.inr (.inr x1)), some (.inl x2), some (.inl x3)] [.inl 5, .inl x3] H = _
  refine Eq.trans (e1 hG PT_4 k4_60 _ _ _) ?_
  refine bfc ?_ ?_
  · show G 4 97 [some (.inr (.inr x0)), some (.inr (.inr x1)), some (.inl x2), some (.inl x3)] [] H = _
    exact e1 hG PT_4 k4_97 _ _ _
  · show G 4 63 [some (.inr (.inr x0)), some (.inr (.inr x1)), some (.inl x2), some (.inl x3)] [] H = _
    refine Eq.trans (e1 hG PT_4 k4_63 _ _ _) ?_
    show G 4 64 [some (.inr (.inr x0)), some (.inr (.inr x1)), some (.inl x2), some (.inl x3)] [.inr (.inr x0)] H = _
    refine Eq.trans (e1 hG PT_4 k4_64 _ _ _) ?_
    show G 4 65 [some (.inr (.inr x0)), some (.inr (.inr x1)), some (.inl x2), some (.inl x3)] [.inr (.inr x1), .inr (.inr x0)] H = _
    refine Eq.trans (e1 hG PT_4 k4_65 _ _ _) ?_
    show G 4 66 [some (.inr (.inr x0)), some (.inr (.inr x1)), some (.inl x2), some (.inl x3)] [.inl x2, .inr (.inr x1), .inr (.inr x0)] H = _
    refine Eq.trans (e1 hG PT_4 k4_66 _ _ _) ?_
    show G 4 69 [some (.inr (.inr x0)), some (.inr (.inr x1)), some (.inl x2), some (.inl x3)] [.inr (.inr 2), .inl x2, .inr (.inr x1), .inr (.inr x0)] H = _
    refine Eq.trans (e1 hG PT_4 k4_69 _ _ _) ?_
    show G 4 70 [some (.inr (.inr x0)), some (.inr (.inr x1)), some (.inl x2), some (.inl x3)] [.inl x3, .inr (.inr 2), .inl x2, .inr (.inr x1), .inr (.inr x0)] H = _
    refine Eq.trans (e1 hG PT_4 k4_70 _ _ _) ?_
    refine bdc fun i1 => ?_
    show G 4 71 [some (.inr (.inr x0)), some (.inr (.inr x1)), some (.inl x2), some (.inl x3)] [.inl i1, .inl x2, .inr (.inr x1), .inr (.inr x0)] H = _
    refine Eq.trans (e1 hG PT_4 k4_71 _ _ _) ?_
    refine bfc ?_ ?_
    · refine bdc fun u2 => ?_
      refine bdc fun _ => ?_
      show G 4 74 [some (.inr (.inr x0)), some (.inr (.inr x1)), some (.inl x2), some (.inl x3)] [] u2.2 = _
      refine Eq.trans (e1 hG PT_4 k4_74 _ _ _) ?_
      show G 4 75 [some (.inr (.inr x0)), some (.inr (.inr x1)), some (.inl x2), some (.inl x3)] [.inr (.inr x0)] u2.2 = _
      refine Eq.trans (e1 hG PT_4 k4_75 _ _ _) ?_
      show G 4 76 [some (.inr (.inr x0)), some (.inr (.inr x1)), some (.inl x2), some (.inl x3)] [.inr (.inr x1), .inr (.inr x0)] u2.2 = _
      refine Eq.trans (e1 hG PT_4 k4_76 _ _ _) ?_
      show G 4 77 [some (.inr (.inr x0)), some (.inr (.inr x1)), some (.inl x2), some (.inl x3)] [.inl x2, .inr (.inr x1), .inr (.inr x0)] u2.2 = _
      refine Eq.trans (e1 hG PT_4 k4_77 _ _ _) ?_
      show G 4 80 [some (.inr (.inr x0)), some (.inr (.inr x1)), some (.inl x2), some (.inl x3)] [.inr (.inr 2), .inl x2, .inr (.inr x1), .inr (.inr x0)] u2.2 = _
      refine Eq.trans (e1 hG PT_4 k4_80 _ _ _) ?_
      show G 4 81 [some (.inr (.inr x0)), some (.inr (.inr x1)), some (.inl x2), some (.inl x3)] [.inl x3, .inr (.inr 2), .inl x2, .inr (.inr x1), .inr (.inr x0)] u2.2 = _
      refine Eq.trans (e1 hG PT_4 k4_81 _ _ _) ?_
      refine bdc fun i3 => ?_
      show G 4 82 [some (.inr (.inr x0)), some (.inr (.inr x1)), some (.inl x2), some (.inl x3)] [.inl i3, .inl x2, .inr (.inr x1), .inr (.inr x0)] u2.2 = _
      refine Eq.trans (e1 hG PT_4 k4_82 _ _ _) ?_
      refine bfc ?_ ?_
      · refine bdc fun u4 => ?_
        refine bdc fun _ => ?_
        show G 4 85 [some (.inr (.inr x0)), some (.inr (.inr x1)), some (.inl x2), some (.inl x3)] [] u4.2 = _
        refine Eq.trans (e1 hG PT_4 k4_85 _ _ _) ?_
        show G 4 88 [some (.inr (.inr x0)), some (.inr (.inr x1)), some (.inl x2), some (.inl x3)] [.inr (.inr 2)] u4.2 = _
        refine Eq.trans (e1 hG PT_4 k4_88 _ _ _) ?_
        show G 4 89 [some (.inr (.inr x0)), some (.inr (.inr x1)), some (.inl x2), some (.inl x3)] [.inl x3, .inr (.inr 2)] u4.2 = _
        refine Eq.trans (e1 hG PT_4 k4_89 _ _ _) ?_
        refine bdc fun i5 => ?_
        show G 4 90 [some (.inr (.inr x0)), some (.inr (.inr x1)), some (.inl x2), some (.inl x3)] [.inl i5] u4.2 = _
        refine Eq.trans (e1 hG PT_4 k4_90 _ _ _) ?_
        show G 4 91 [some (.inr (.inr x0)), some (.inr (.inr x1)), some (.inl i5), some (.inl x3)] [] u4.2 = _
        refine Eq.trans (e1 hG PT_4 k4_91 _ _ _) ?_
        show G 4 94 [some (.inr (.inr x0)), some (.inr (.inr x1)), some (.inl i5), some (.inl (x3 + 1))] [] u4.2 = _
        refine Eq.trans (e1 hG PT_4 k4_94 _ _ _) ?_
        rfl
      · rfl
    · rfl
-- java/util/Arrays.fill([II)V
theorem PT_5 : PT 5 = pt5 := rfl
theorem k5_0 : lkp pt5 0 = iP 1 (fK (.inl 0)) := rfl
theorem k5_1 : lkp pt5 1 = iP 2 (fIst 2) := rfl
theorem k5_2 : lkp pt5 2 = iP 3 (fAld 0) := rfl
theorem k5_3 : lkp pt5 3 = iRI 4 qLen := rfl
theorem k5_4 : lkp pt5 4 = iP 5 (fIst 3) := rfl
theorem k5_5 : lkp pt5 5 = iP 6 (fIld 2) := rfl
theorem k5_6 : lkp pt5 6 = iP 7 (fIld 3) := rfl
theorem k5_7 : lkp pt5 7 = iB 10 20 (b2 (fun x y => decide (y ≤ x))) := rfl
theorem k5_10 : lkp pt5 10 = iP 11 (fAld 0) := rfl
theorem k5_11 : lkp pt5 11 = iP 12 (fIld 2) := rfl
theorem k5_12 : lkp pt5 12 = iP 13 (fIld 1) := rfl
theorem k5_13 : lkp pt5 13 = iW 14 wAI := rfl
theorem k5_14 : lkp pt5 14 = iP 17 (fInc 2 1) := rfl
theorem k5_17 : lkp pt5 17 = iP 5 fGo := rfl
theorem k5_20 : lkp pt5 20 = iRet rV := rfl
theorem b5_0 {G : AG} (hG : FIX G) (x0 : Nat) (x1 : Int32) (H : Hp) : G 5 0 [some (.inr (.inr x0)), some (.inl x1), none, none] [] H = ((hLen H x0).bind fun i1 => G 5 5 [some (.inr (.inr x0)), some (.inl x1), some (.inl 0), some (.inl i1)] [] H) := by
  refine Eq.trans (e1 hG PT_5 k5_0 _ _ _) ?_
  show G 5 1 [some (.inr (.inr x0)), some (.inl x1), none, none] [.inl 0] H = _
  refine Eq.trans (e1 hG PT_5 k5_1 _ _ _) ?_
  show G 5 2 [some (.inr (.inr x0)), some (.inl x1), some (.inl 0), none] [] H = _
  refine Eq.trans (e1 hG PT_5 k5_2 _ _ _) ?_
  show G 5 3 [some (.inr (.inr x0)), some (.inl x1), some (.inl 0), none] [.inr (.inr x0)] H = _
  refine Eq.trans (e1 hG PT_5 k5_3 _ _ _) ?_
  refine bdc fun i1 => ?_
  show G 5 4 [some (.inr (.inr x0)), some (.inl x1), some (.inl 0), none] [.inl i1] H = _
  refine Eq.trans (e1 hG PT_5 k5_4 _ _ _) ?_
  rfl
theorem b5_5 {G : AG} (hG : FIX G) (x0 : Nat) (x1 : Int32) (x2 : Int32) (x3 : Int32) (H : Hp) : G 5 5 [some (.inr (.inr x0)), some (.inl x1), some (.inl x2), some (.inl x3)] [] H = (bif decide ((x3 : Int32) ≤ (x2 : Int32)) then some (none, H) else (hSI H x0 x2 x1).bind fun H1 => G 5 5 [some (.inr (.inr x0)), some (.inl x1), some (.inl (x2 + 1)), some (.inl x3)] [] H1) := by
  refine Eq.trans (e1 hG PT_5 k5_5 _ _ _) ?_
  show G 5 6 [some (.inr (.inr x0)), some (.inl x1), some (.inl x2), some (.inl x3)] [.inl x2] H = _
  refine Eq.trans (e1 hG PT_5 k5_6 _ _ _) ?_
  show G 5 7 [some (.inr (.inr x0)), some (.inl x1), some (.inl x2), some (.inl x3)] [.inl x3, .inl x2] H = _
  refine Eq.trans (e1 hG PT_5 k5_7 _ _ _) ?_
  refine bfc ?_ ?_
  · show G 5 20 [some (.inr (.inr x0)), some (.inl x1), some (.inl x2), some (.inl x3)] [] H = _
    exact e1 hG PT_5 k5_20 _ _ _
  · show G 5 10 [some (.inr (.inr x0)), some (.inl x1), some (.inl x2), some (.inl x3)] [] H = _
    refine Eq.trans (e1 hG PT_5 k5_10 _ _ _) ?_
    show G 5 11 [some (.inr (.inr x0)), some (.inl x1), some (.inl x2), some (.inl x3)] [.inr (.inr x0)] H = _
    refine Eq.trans (e1 hG PT_5 k5_11 _ _ _) ?_
    show G 5 12 [some (.inr (.inr x0)), some (.inl x1), some (.inl x2), some (.inl x3)] [.inl x2, .inr (.inr x0)] H = _
    refine Eq.trans (e1 hG PT_5 k5_12 _ _ _) ?_
    show G 5 13 [some (.inr (.inr x0)), some (.inl x1), some (.inl x2), some (.inl x3)] [.inl x1, .inl x2, .inr (.inr x0)] H = _
    refine Eq.trans (e1 hG PT_5 k5_13 _ _ _) ?_
    refine bdc fun H1 => ?_
    show G 5 14 [some (.inr (.inr x0)), some (.inl x1), some (.inl x2), some (.inl x3)] [] H1 = _
    refine Eq.trans (e1 hG PT_5 k5_14 _ _ _) ?_
    show G 5 17 [some (.inr (.inr x0)), some (.inl x1), some (.inl (x2 + 1)), some (.inl x3)] [] H1 = _
    refine Eq.trans (e1 hG PT_5 k5_17 _ _ _) ?_
    rfl
-- StepsAhead$Products.numberNew([III)V
theorem PT_6 : PT 6 = pt6 := rfl
theorem k6_0 : lkp pt6 0 = iP 1 (fIld 3) := rfl
theorem k6_1 : lkp pt6 1 = iP 3 (fIst 4) := rfl
theorem k6_3 : lkp pt6 3 = iP 4 (fIld 2) := rfl
theorem k6_4 : lkp pt6 4 = iP 6 (fIst 5) := rfl
theorem k6_6 : lkp pt6 6 = iP 8 (fIld 5) := rfl
theorem k6_8 : lkp pt6 8 = iP 9 (fIld 3) := rfl
theorem k6_9 : lkp pt6 9 = iB 12 77 (b2 (fun x y => decide (y ≤ x))) := rfl
theorem k6_12 : lkp pt6 12 = iP 13 (fAld 0) := rfl
theorem k6_13 : lkp pt6 13 = iRR 16 (gtR 13) := rfl
theorem k6_16 : lkp pt6 16 = iP 18 (fIld 5) := rfl
theorem k6_18 : lkp pt6 18 = iRI 19 qAI := rfl
theorem k6_19 : lkp pt6 19 = iP 21 (fIst 6) := rfl
theorem k6_21 : lkp pt6 21 = iP 23 (fIld 6) := rfl
theorem k6_23 : lkp pt6 23 = iP 24 (fK (.inl 5)) := rfl
theorem k6_24 : lkp pt6 24 = iB 27 71 (b2 (fun x y => decide (y ≤ x))) := rfl
theorem k6_27 : lkp pt6 27 = iP 29 (fIld 4) := rfl
theorem k6_29 : lkp pt6 29 = iP 32 (fK (.inl 252)) := rfl
theorem k6_32 : lkp pt6 32 = iB 35 71 (b2 (fun x y => decide (y ≤ x))) := rfl
theorem k6_35 : lkp pt6 35 = iP 36 (fAld 0) := rfl
theorem k6_36 : lkp pt6 36 = iRR 39 (gtR 12) := rfl
theorem k6_39 : lkp pt6 39 = iP 41 (fIld 6) := rfl
theorem k6_41 : lkp pt6 41 = iRR 42 qAR := rfl
theorem k6_42 : lkp pt6 42 = iP 44 (fIld 5) := rfl
theorem k6_44 : lkp pt6 44 = iP 46 (fIld 4) := rfl
theorem k6_46 : lkp pt6 46 = iW 47 wAI := rfl
theorem k6_47 : lkp pt6 47 = iP 48 (fAld 0) := rfl
theorem k6_48 : lkp pt6 48 = iRR 51 (gtR 13) := rfl
theorem k6_51 : lkp pt6 51 = iP 53 (fIld 4) := rfl
theorem k6_53 : lkp pt6 53 = iP 55 (fIld 6) := rfl
theorem k6_55 : lkp pt6 55 = iW 56 wAI := rfl
theorem k6_56 : lkp pt6 56 = iP 57 (fAld 1) := rfl
theorem k6_57 : lkp pt6 57 = iP 59 (fIld 4) := rfl
theorem k6_59 : lkp pt6 59 = iP 61 (fIld 5) := rfl
theorem k6_61 : lkp pt6 61 = iW 62 wAI := rfl
theorem k6_62 : lkp pt6 62 = iP 65 (fInc 4 1) := rfl
theorem k6_65 : lkp pt6 65 = iP 68 (fInc 6 1) := rfl
theorem k6_68 : lkp pt6 68 = iP 21 fGo := rfl
theorem k6_71 : lkp pt6 71 = iP 74 (fInc 5 1) := rfl
theorem k6_74 : lkp pt6 74 = iP 6 fGo := rfl
theorem k6_77 : lkp pt6 77 = iRet rV := rfl
theorem b6_0 {G : AG} (hG : FIX G) (x0 : Nat) (x1 : Nat) (x2 : Int32) (x3 : Int32) (H : Hp) : G 6 0 [some (.inr (.inr x0)), some (.inr (.inr x1)), some (.inl x2), some (.inl x3), none, none, none] [] H = (G 6 6 [some (.inr (.inr x0)), some (.inr (.inr x1)), some (.inl x2), some (.inl x3), some (.inl x3), some (.inl x2), none] [] H) := by
  refine Eq.trans (e1 hG PT_6 k6_0 _ _ _) ?_
  show G 6 1 [some (.inr (.inr x0)), some (.inr (.inr x1)), some (.inl x2), some (.inl x3), none, none, none] [.inl x3] H = _
  refine Eq.trans (e1 hG PT_6 k6_1 _ _ _) ?_
  show G 6 3 [some (.inr (.inr x0)), some (.inr (.inr x1)), some (.inl x2), some (.inl x3), some (.inl x3), none, none] [] H = _
  refine Eq.trans (e1 hG PT_6 k6_3 _ _ _) ?_
  show G 6 4 [some (.inr (.inr x0)), some (.inr (.inr x1)), some (.inl x2), some (.inl x3), some (.inl x3), none, none] [.inl x2] H = _
  refine Eq.trans (e1 hG PT_6 k6_4 _ _ _) ?_
  rfl
theorem b6_6 {G : AG} (hG : FIX G) (x0 : Nat) (x1 : Nat) (x2 : Int32) (x3 : Int32) (x4 : Int32) (x5 : Int32) (o6 : Option AV) (H : Hp) : G 6 6 [some (.inr (.inr x0)), some (.inr (.inr x1)), some (.inl x2), some (.inl x3), some (.inl x4), some (.inl x5), o6] [] H = (bif decide ((x3 : Int32) ≤ (x5 : Int32)) then some (none, H) else (hgR H x0 13).bind fun r1 => (hAI H r1 x5).bind fun i2 => G 6 21 [some (.inr (.inr x0)), some (.inr (.inr x1)), some (.inl x2), some (.inl x3), some (.inl x4), some (.inl x5), some (.inl i2)] [] H) := by
  refine Eq.trans (e1 hG PT_6 k6_6 _ _ _) ?_
  show G 6 8 [some (.inr (.inr x0)), some (.inr (.inr x1)), some (.inl x2), some (.inl x3), some (.inl x4), some (.inl x5), o6] [.inl x5] H = _
  refine Eq.trans (e1 hG PT_6 k6_8 _ _ _) ?_
  show G 6 9 [some (.inr (.inr x0)), some (.inr (.inr x1)), some (.inl x2), some (.inl x3), some (.inl x4), some (.inl x5), o6] [.inl x3, .inl x5] H = _
  refine Eq.trans (e1 hG PT_6 k6_9 _ _ _) ?_
  refine bfc ?_ ?_
  · show G 6 77 [some (.inr (.inr x0)), some (.inr (.inr x1)), some (.inl x2), some (.inl x3), some (.inl x4), some (.inl x5), o6] [] H = _
    exact e1 hG PT_6 k6_77 _ _ _
  · show G 6 12 [some (.inr (.inr x0)), some (.inr (.inr x1)), some (.inl x2), some (.inl x3), some (.inl x4), some (.inl x5), o6] [] H = _
    refine Eq.trans (e1 hG PT_6 k6_12 _ _ _) ?_
    show G 6 13 [some (.inr (.inr x0)), some (.inr (.inr x1)), some (.inl x2), some (.inl x3), some (.inl x4), some (.inl x5), o6] [.inr (.inr x0)] H = _
    refine Eq.trans (e1 hG PT_6 k6_13 _ _ _) ?_
    refine bdc fun r1 => ?_
    show G 6 16 [some (.inr (.inr x0)), some (.inr (.inr x1)), some (.inl x2), some (.inl x3), some (.inl x4), some (.inl x5), o6] [.inr (.inr r1)] H = _
    refine Eq.trans (e1 hG PT_6 k6_16 _ _ _) ?_
    show G 6 18 [some (.inr (.inr x0)), some (.inr (.inr x1)), some (.inl x2), some (.inl x3), some (.inl x4), some (.inl x5), o6] [.inl x5, .inr (.inr r1)] H = _
    refine Eq.trans (e1 hG PT_6 k6_18 _ _ _) ?_
    refine bdc fun i2 => ?_
    show G 6 19 [some (.inr (.inr x0)), some (.inr (.inr x1)), some (.inl x2), some (.inl x3), some (.inl x4), some (.inl x5), o6] [.inl i2] H = _
    refine Eq.trans (e1 hG PT_6 k6_19 _ _ _) ?_
    rfl
theorem b6_21 {G : AG} (hG : FIX G) (x0 : Nat) (x1 : Nat) (x2 : Int32) (x3 : Int32) (x4 : Int32) (x5 : Int32) (x6 : Int32) (H : Hp) : G 6 21 [some (.inr (.inr x0)), some (.inr (.inr x1)), some (.inl x2), some (.inl x3), some (.inl x4), some (.inl x5), some (.inl x6)] [] H = (bif decide ((5 : Int32) ≤ (x6 : Int32)) then G 6 71 [some (.inr (.inr x0)), some (.inr (.inr x1)), some (.inl x2), some (.inl x3), some (.inl x4), some (.inl x5), some (.inl x6)] [] H else bif decide ((252 : Int32) ≤ (x4 : Int32)) then G 6 71 [some (.inr (.inr x0)), some (.inr (.inr x1)), some (.inl x2), some (.inl x3), some (.inl x4), some (.inl x5), some (.inl x6)] [] H else (hgR H x0 12).bind fun r1 => (hAR H r1 x6).bind fun r2 => (hSI H r2 x5 x4).bind fun H3 => (hgR H3 x0 13).bind fun r4 => (hSI H3 r4 x4 x6).bind fun H5 => (hSI H5 x1 x4 x5).bind fun H6 => G 6 21 [some (.inr (.inr x0)), some (.inr (.inr x1)), some (.inl x2), some (.inl x3), some (.inl (x4 + 1)), some (.inl x5), some (.inl (x6 + 1))] [] H6) := by
  refine Eq.trans (e1 hG PT_6 k6_21 _ _ _) ?_
  show G 6 23 [some (.inr (.inr x0)), some (.inr (.inr x1)), some (.inl x2), some (.inl x3), some (.inl x4), some (.inl x5), some (.inl x6)] [.inl x6] H = _
  refine Eq.trans (e1 hG PT_6 k6_23 _ _ _) ?_
  show G 6 24 [some (.inr (.inr x0)), some (.inr (.inr x1)), some (.inl x2), some (.inl x3), some (.inl x4), some (.inl x5), some (.inl x6)] [.inl 5, .inl x6] H = _
  refine Eq.trans (e1 hG PT_6 k6_24 _ _ _) ?_
  refine bfc ?_ ?_
  · rfl
  · show G 6 27 [some (.inr (.inr x0)), some (.inr (.inr x1)), some (.inl x2), some (.inl x3), some (.inl x4), some (.inl x5), some (.inl x6)] [] H = _
    refine Eq.trans (e1 hG PT_6 k6_27 _ _ _) ?_
    show G 6 29 [some (.inr (.inr x0)), some (.inr (.inr x1)), some (.inl x2), some (.inl x3), some (.inl x4), some (.inl x5), some (.inl x6)] [.inl x4] H = _
    refine Eq.trans (e1 hG PT_6 k6_29 _ _ _) ?_
    show G 6 32 [some (.inr (.inr x0)), some (.inr (.inr x1)), some (.inl x2), some (.inl x3), some (.inl x4), some (.inl x5), some (.inl x6)] [.inl 252, .inl x4] H = _
    refine Eq.trans (e1 hG PT_6 k6_32 _ _ _) ?_
    refine bfc ?_ ?_
    · rfl
    · show G 6 35 [some (.inr (.inr x0)), some (.inr (.inr x1)), some (.inl x2), some (.inl x3), some (.inl x4), some (.inl x5), some (.inl x6)] [] H = _
      refine Eq.trans (e1 hG PT_6 k6_35 _ _ _) ?_
      show G 6 36 [some (.inr (.inr x0)), some (.inr (.inr x1)), some (.inl x2), some (.inl x3), some (.inl x4), some (.inl x5), some (.inl x6)] [.inr (.inr x0)] H = _
      refine Eq.trans (e1 hG PT_6 k6_36 _ _ _) ?_
      refine bdc fun r1 => ?_
      show G 6 39 [some (.inr (.inr x0)), some (.inr (.inr x1)), some (.inl x2), some (.inl x3), some (.inl x4), some (.inl x5), some (.inl x6)] [.inr (.inr r1)] H = _
      refine Eq.trans (e1 hG PT_6 k6_39 _ _ _) ?_
      show G 6 41 [some (.inr (.inr x0)), some (.inr (.inr x1)), some (.inl x2), some (.inl x3), some (.inl x4), some (.inl x5), some (.inl x6)] [.inl x6, .inr (.inr r1)] H = _
      refine Eq.trans (e1 hG PT_6 k6_41 _ _ _) ?_
      refine bdc fun r2 => ?_
      show G 6 42 [some (.inr (.inr x0)), some (.inr (.inr x1)), some (.inl x2), some (.inl x3), some (.inl x4), some (.inl x5), some (.inl x6)] [.inr (.inr r2)] H = _
      refine Eq.trans (e1 hG PT_6 k6_42 _ _ _) ?_
      show G 6 44 [some (.inr (.inr x0)), some (.inr (.inr x1)), some (.inl x2), some (.inl x3), some (.inl x4), some (.inl x5), some (.inl x6)] [.inl x5, .inr (.inr r2)] H = _
      refine Eq.trans (e1 hG PT_6 k6_44 _ _ _) ?_
      show G 6 46 [some (.inr (.inr x0)), some (.inr (.inr x1)), some (.inl x2), some (.inl x3), some (.inl x4), some (.inl x5), some (.inl x6)] [.inl x4, .inl x5, .inr (.inr r2)] H = _
      refine Eq.trans (e1 hG PT_6 k6_46 _ _ _) ?_
      refine bdc fun H3 => ?_
      show G 6 47 [some (.inr (.inr x0)), some (.inr (.inr x1)), some (.inl x2), some (.inl x3), some (.inl x4), some (.inl x5), some (.inl x6)] [] H3 = _
      refine Eq.trans (e1 hG PT_6 k6_47 _ _ _) ?_
      show G 6 48 [some (.inr (.inr x0)), some (.inr (.inr x1)), some (.inl x2), some (.inl x3), some (.inl x4), some (.inl x5), some (.inl x6)] [.inr (.inr x0)] H3 = _
      refine Eq.trans (e1 hG PT_6 k6_48 _ _ _) ?_
      refine bdc fun r4 => ?_
      show G 6 51 [some (.inr (.inr x0)), some (.inr (.inr x1)), some (.inl x2), some (.inl x3), some (.inl x4), some (.inl x5), some (.inl x6)] [.inr (.inr r4)] H3 = _
      refine Eq.trans (e1 hG PT_6 k6_51 _ _ _) ?_
      show G 6 53 [some (.inr (.inr x0)), some (.inr (.inr x1)), some (.inl x2), some (.inl x3), some (.inl x4), some (.inl x5), some (.inl x6)] [.inl x4, .inr (.inr r4)] H3 = _
      refine Eq.trans (e1 hG PT_6 k6_53 _ _ _) ?_
      show G 6 55 [some (.inr (.inr x0)), some (.inr (.inr x1)), some (.inl x2), some (.inl x3), some (.inl x4), some (.inl x5), some (.inl x6)] [.inl x6, .inl x4, .inr (.inr r4)] H3 = _
      refine Eq.trans (e1 hG PT_6 k6_55 _ _ _) ?_
      refine bdc fun H5 => ?_
      show G 6 56 [some (.inr (.inr x0)), some (.inr (.inr x1)), some (.inl x2), some (.inl x3), some (.inl x4), some (.inl x5), some (.inl x6)] [] H5 = _
      refine Eq.trans (e1 hG PT_6 k6_56 _ _ _) ?_
      show G 6 57 [some (.inr (.inr x0)), some (.inr (.inr x1)), some (.inl x2), some (.inl x3), some (.inl x4), some (.inl x5), some (.inl x6)] [.inr (.inr x1)] H5 = _
      refine Eq.trans (e1 hG PT_6 k6_57 _ _ _) ?_
      show G 6 59 [some (.inr (.inr x0)), some (.inr (.inr x1)), some (.inl x2), some (.inl x3), some (.inl x4), some (.inl x5), some (.inl x6)] [.inl x4, .inr (.inr x1)] H5 = _
      refine Eq.trans (e1 hG PT_6 k6_59 _ _ _) ?_
      show G 6 61 [some (.inr (.inr x0)), some (.inr (.inr x1)), some (.inl x2), some (.inl x3), some (.inl x4), some (.inl x5), some (.inl x6)] [.inl x5, .inl x4, .inr (.inr x1)] H5 = _
      refine Eq.trans (e1 hG PT_6 k6_61 _ _ _) ?_
      refine bdc fun H6 => ?_
      show G 6 62 [some (.inr (.inr x0)), some (.inr (.inr x1)), some (.inl x2), some (.inl x3), some (.inl x4), some (.inl x5), some (.inl x6)] [] H6 = _
      refine Eq.trans (e1 hG PT_6 k6_62 _ _ _) ?_
      show G 6 65 [some (.inr (.inr x0)), some (.inr (.inr x1)), some (.inl x2), some (.inl x3), some (.inl (x4 + 1)), some (.inl x5), some (.inl x6)] [] H6 = _
      refine Eq.trans (e1 hG PT_6 k6_65 _ _ _) ?_
      show G 6 68 [some (.inr (.inr x0)), some (.inr (.inr x1)), some (.inl x2), some (.inl x3), some (.inl (x4 + 1)), some (.inl x5), some (.inl (x6 + 1))] [] H6 = _
      refine Eq.trans (e1 hG PT_6 k6_68 _ _ _) ?_
      rfl
theorem b6_71 {G : AG} (hG : FIX G) (x0 : Nat) (x1 : Nat) (x2 : Int32) (x3 : Int32) (x4 : Int32) (x5 : Int32) (x6 : Int32) (H : Hp) : G 6 71 [some (.inr (.inr x0)), some (.inr (.inr x1)), some (.inl x2), some (.inl x3), some (.inl x4), some (.inl x5), some (.inl x6)] [] H = (G 6 6 [some (.inr (.inr x0)), some (.inr (.inr x1)), some (.inl x2), some (.inl x3), some (.inl x4), some (.inl (x5 + 1)), some (.inl x6)] [] H) := by
  refine Eq.trans (e1 hG PT_6 k6_71 _ _ _) ?_
  show G 6 74 [some (.inr (.inr x0)), some (.inr (.inr x1)), some (.inl x2), some (.inl x3), some (.inl x4), some (.inl (x5 + 1)), some (.inl x6)] [] H = _
  refine Eq.trans (e1 hG PT_6 k6_74 _ _ _) ?_
  rfl
-- StepsAhead$Products.findOthers([III)V
theorem PT_7 : PT 7 = pt7 := rfl
theorem k7_0 : lkp pt7 0 = iP 1 (fIld 2) := rfl
theorem k7_1 : lkp pt7 1 = iP 3 (fIst 4) := rfl
theorem k7_3 : lkp pt7 3 = iP 5 (fIld 4) := rfl
theorem k7_5 : lkp pt7 5 = iP 6 (fIld 3) := rfl
theorem k7_6 : lkp pt7 6 = iB 9 66 (b2 (fun x y => decide (y ≤ x))) := rfl
theorem k7_9 : lkp pt7 9 = iP 10 (fAld 0) := rfl
theorem k7_10 : lkp pt7 10 = iRR 13 (gtR 13) := rfl
theorem k7_13 : lkp pt7 13 = iP 15 (fIld 4) := rfl
theorem k7_15 : lkp pt7 15 = iRI 16 qAI := rfl
theorem k7_16 : lkp pt7 16 = iP 18 (fIst 5) := rfl
theorem k7_18 : lkp pt7 18 = iP 19 (fK (.inl 0)) := rfl
theorem k7_19 : lkp pt7 19 = iP 21 (fIst 6) := rfl
theorem k7_21 : lkp pt7 21 = iP 23 (fIld 6) := rfl
theorem k7_23 : lkp pt7 23 = iP 25 (fIld 5) := rfl
theorem k7_25 : lkp pt7 25 = iB 28 60 (b2 (fun x y => decide (y ≤ x))) := rfl
theorem k7_28 : lkp pt7 28 = iP 29 (fAld 0) := rfl
theorem k7_29 : lkp pt7 29 = iRR 32 (gtR 12) := rfl
theorem k7_32 : lkp pt7 32 = iP 34 (fIld 6) := rfl
theorem k7_34 : lkp pt7 34 = iRR 35 qAR := rfl
theorem k7_35 : lkp pt7 35 = iP 37 (fIld 4) := rfl
theorem k7_37 : lkp pt7 37 = iP 38 (fAld 0) := rfl
theorem k7_38 : lkp pt7 38 = iP 39 (fAld 0) := rfl
theorem k7_39 : lkp pt7 39 = iP 40 (fAld 1) := rfl
theorem k7_40 : lkp pt7 40 = iP 42 (fIld 4) := rfl
theorem k7_42 : lkp pt7 42 = iRI 43 qAI := rfl
theorem k7_43 : lkp pt7 43 = iP 45 (fIld 6) := rfl
theorem k7_45 : lkp pt7 45 = iCK 48 5 8 3 3 1 := rfl
theorem k7_48 : lkp pt7 48 = iP 50 (fIld 5) := rfl
theorem k7_50 : lkp pt7 50 = iCK 53 5 8 3 3 1 := rfl
theorem k7_53 : lkp pt7 53 = iW 54 wAI := rfl
theorem k7_54 : lkp pt7 54 = iP 57 (fInc 6 1) := rfl
theorem k7_57 : lkp pt7 57 = iP 21 fGo := rfl
theorem k7_60 : lkp pt7 60 = iP 63 (fInc 4 1) := rfl
theorem k7_63 : lkp pt7 63 = iP 3 fGo := rfl
theorem k7_66 : lkp pt7 66 = iRet rV := rfl
theorem b7_0 {G : AG} (hG : FIX G) (x0 : Nat) (x1 : Nat) (x2 : Int32) (x3 : Int32) (H : Hp) : G 7 0 [some (.inr (.inr x0)), some (.inr (.inr x1)), some (.inl x2), some (.inl x3), none, none, none] [] H = (G 7 3 [some (.inr (.inr x0)), some (.inr (.inr x1)), some (.inl x2), some (.inl x3), some (.inl x2), none, none] [] H) := by
  refine Eq.trans (e1 hG PT_7 k7_0 _ _ _) ?_
  show G 7 1 [some (.inr (.inr x0)), some (.inr (.inr x1)), some (.inl x2), some (.inl x3), none, none, none] [.inl x2] H = _
  refine Eq.trans (e1 hG PT_7 k7_1 _ _ _) ?_
  rfl
theorem b7_3 {G : AG} (hG : FIX G) (x0 : Nat) (x1 : Nat) (x2 : Int32) (x3 : Int32) (x4 : Int32) (o5 : Option AV) (o6 : Option AV) (H : Hp) : G 7 3 [some (.inr (.inr x0)), some (.inr (.inr x1)), some (.inl x2), some (.inl x3), some (.inl x4), o5, o6] [] H = (bif decide ((x3 : Int32) ≤ (x4 : Int32)) then some (none, H) else (hgR H x0 13).bind fun r1 => (hAI H r1 x4).bind fun i2 => G 7 21 [some (.inr (.inr x0)), some (.inr (.inr x1)), some (.inl x2), some (.inl x3), some (.inl x4), some (.inl i2), some (.inl 0)] [] H) := by
  refine Eq.trans (e1 hG PT_7 k7_3 _ _ _) ?_
  show G 7 5 [some (.inr (.inr x0)), some (.inr (.inr x1)), some (.inl x2), some (.inl x3), some (.inl x4), o5, o6] [.inl x4] H = _
  refine Eq.trans (e1 hG PT_7 k7_5 _ _ _) ?_
  show G 7 6 [some (.inr (.inr x0)), some (.inr (.inr x1)), some (.inl x2), some (.inl x3), some (.inl x4), o5, o6] [.inl x3, .inl x4] H = _
  refine Eq.trans (e1 hG PT_7 k7_6 _ _ _) ?_
  refine bfc ?_ ?_
  · show G 7 66 [some (.inr (.inr x0)), some (.inr (.inr x1)), some (.inl x2), some (.inl x3), some (.inl x4), o5, o6] [] H = _
    exact e1 hG PT_7 k7_66 _ _ _
  · show G 7 9 [some (.inr (.inr x0)), some (.inr (.inr x1)), some (.inl x2), some (.inl x3), some (.inl x4), o5, o6] [] H = _
    refine Eq.trans (e1 hG PT_7 k7_9 _ _ _) ?_
    show G 7 10 [some (.inr (.inr x0)), some (.inr (.inr x1)), some (.inl x2), some (.inl x3), some (.inl x4), o5, o6] [.inr (.inr x0)] H = _
    refine Eq.trans (e1 hG PT_7 k7_10 _ _ _) ?_
    refine bdc fun r1 => ?_
    show G 7 13 [some (.inr (.inr x0)), some (.inr (.inr x1)), some (.inl x2), some (.inl x3), some (.inl x4), o5, o6] [.inr (.inr r1)] H = _
    refine Eq.trans (e1 hG PT_7 k7_13 _ _ _) ?_
    show G 7 15 [some (.inr (.inr x0)), some (.inr (.inr x1)), some (.inl x2), some (.inl x3), some (.inl x4), o5, o6] [.inl x4, .inr (.inr r1)] H = _
    refine Eq.trans (e1 hG PT_7 k7_15 _ _ _) ?_
    refine bdc fun i2 => ?_
    show G 7 16 [some (.inr (.inr x0)), some (.inr (.inr x1)), some (.inl x2), some (.inl x3), some (.inl x4), o5, o6] [.inl i2] H = _
    refine Eq.trans (e1 hG PT_7 k7_16 _ _ _) ?_
    show G 7 18 [some (.inr (.inr x0)), some (.inr (.inr x1)), some (.inl x2), some (.inl x3), some (.inl x4), some (.inl i2), o6] [] H = _
    refine Eq.trans (e1 hG PT_7 k7_18 _ _ _) ?_
    show G 7 19 [some (.inr (.inr x0)), some (.inr (.inr x1)), some (.inl x2), some (.inl x3), some (.inl x4), some (.inl i2), o6] [.inl 0] H = _
    refine Eq.trans (e1 hG PT_7 k7_19 _ _ _) ?_
    rfl
theorem b7_21 {G : AG} (hG : FIX G) (x0 : Nat) (x1 : Nat) (x2 : Int32) (x3 : Int32) (x4 : Int32) (x5 : Int32) (x6 : Int32) (H : Hp) : G 7 21 [some (.inr (.inr x0)), some (.inr (.inr x1)), some (.inl x2), some (.inl x3), some (.inl x4), some (.inl x5), some (.inl x6)] [] H = (bif decide ((x5 : Int32) ≤ (x6 : Int32)) then G 7 3 [some (.inr (.inr x0)), some (.inr (.inr x1)), some (.inl x2), some (.inl x3), some (.inl (x4 + 1)), some (.inl x5), some (.inl x6)] [] H else (hgR H x0 12).bind fun r1 => (hAR H r1 x6).bind fun r2 => (hAI H x1 x4).bind fun i3 => bif Nat.beq (H.1 x0).1 5 then (G 8 0 [some (.inr (.inr x0)), some (.inl i3), some (.inl x6)] [] H).bind fun u4 => (asI u4.1).bind fun i5 => bif Nat.beq (u4.2.1 x0).1 5 then (G 8 0 [some (.inr (.inr x0)), some (.inl i5), some (.inl x5)] [] u4.2).bind fun u6 => (asI u6.1).bind fun i7 => (hSI u6.2 r2 x4 i7).bind fun H8 => G 7 21 [some (.inr (.inr x0)), some (.inr (.inr x1)), some (.inl x2), some (.inl x3), some (.inl x4), some (.inl x5), some (.inl (x6 + 1))] [] H8 else none else none) := by
  refine Eq.trans (e1 hG PT_7 k7_21 _ _ _) ?_
  show G 7 23 [some (.inr (.inr x0)), some (.inr (.inr x1)), some (.inl x2), some (.inl x3), some (.inl x4), some (.inl x5), some (.inl x6)] [.inl x6] H = _
  refine Eq.trans (e1 hG PT_7 k7_23 _ _ _) ?_
  show G 7 25 [some (.inr (.inr x0)), some (.inr (.inr x1)), some (.inl x2), some (.inl x3), some (.inl x4), some (.inl x5), some (.inl x6)] [.inl x5, .inl x6] H = _
  refine Eq.trans (e1 hG PT_7 k7_25 _ _ _) ?_
  refine bfc ?_ ?_
  · show G 7 60 [some (.inr (.inr x0)), some (.inr (.inr x1)), some (.inl x2), some (.inl x3), some (.inl x4), some (.inl x5), some (.inl x6)] [] H = _
    refine Eq.trans (e1 hG PT_7 k7_60 _ _ _) ?_
    show G 7 63 [some (.inr (.inr x0)), some (.inr (.inr x1)), some (.inl x2), some (.inl x3), some (.inl (x4 + 1)), some (.inl x5), some (.inl x6)] [] H = _
    refine Eq.trans (e1 hG PT_7 k7_63 _ _ _) ?_
    rfl
  · show G 7 28 [some (.inr (.inr x0)), some (.inr (.inr x1)), some (.inl x2), some (.inl x3), some (.inl x4), some (.inl x5), some (.inl x6)] [] H = _
    refine Eq.trans (e1 hG PT_7 k7_28 _ _ _) ?_
    show G 7 29 [some (.inr (.inr x0)), some (.inr (.inr x1)), some (.inl x2), some (.inl x3), some (.inl x4), some (.inl x5), some (.inl x6)] [.inr (.inr x0)] H = _
    refine Eq.trans (e1 hG PT_7 k7_29 _ _ _) ?_
    refine bdc fun r1 => ?_
    show G 7 32 [some (.inr (.inr x0)), some (.inr (.inr x1)), some (.inl x2), some (.inl x3), some (.inl x4), some (.inl x5), some (.inl x6)] [.inr (.inr r1)] H = _
    refine Eq.trans (e1 hG PT_7 k7_32 _ _ _) ?_
    show G 7 34 [some (.inr (.inr x0)), some (.inr (.inr x1)), some (.inl x2), some (.inl x3), some (.inl x4), some (.inl x5), some (.inl x6)] [.inl x6, .inr (.inr r1)] H = _
    refine Eq.trans (e1 hG PT_7 k7_34 _ _ _) ?_
    refine bdc fun r2 => ?_
    show G 7 35 [some (.inr (.inr x0)), some (.inr (.inr x1)), some (.inl x2), some (.inl x3), some (.inl x4), some (.inl x5), some (.inl x6)] [.inr (.inr r2)] H = _
    refine Eq.trans (e1 hG PT_7 k7_35 _ _ _) ?_
    show G 7 37 [some (.inr (.inr x0)), some (.inr (.inr x1)), some (.inl x2), some (.inl x3), some (.inl x4), some (.inl x5), some (.inl x6)] [.inl x4, .inr (.inr r2)] H = _
    refine Eq.trans (e1 hG PT_7 k7_37 _ _ _) ?_
    show G 7 38 [some (.inr (.inr x0)), some (.inr (.inr x1)), some (.inl x2), some (.inl x3), some (.inl x4), some (.inl x5), some (.inl x6)] [.inr (.inr x0), .inl x4, .inr (.inr r2)] H = _
    refine Eq.trans (e1 hG PT_7 k7_38 _ _ _) ?_
    show G 7 39 [some (.inr (.inr x0)), some (.inr (.inr x1)), some (.inl x2), some (.inl x3), some (.inl x4), some (.inl x5), some (.inl x6)] [.inr (.inr x0), .inr (.inr x0), .inl x4, .inr (.inr r2)] H = _
    refine Eq.trans (e1 hG PT_7 k7_39 _ _ _) ?_
    show G 7 40 [some (.inr (.inr x0)), some (.inr (.inr x1)), some (.inl x2), some (.inl x3), some (.inl x4), some (.inl x5), some (.inl x6)] [.inr (.inr x1), .inr (.inr x0), .inr (.inr x0), .inl x4, .inr (.inr r2)] H = _
    refine Eq.trans (e1 hG PT_7 k7_40 _ _ _) ?_
    show G 7 42 [some (.inr (.inr x0)), some (.inr (.inr x1)), some (.inl x2), some (.inl x3), some (.inl x4), some (.inl x5), some (.inl x6)] [.inl x4, .inr (.inr x1), .inr (.inr x0), .inr (.inr x0), .inl x4, .inr (.inr r2)] H = _
    refine Eq.trans (e1 hG PT_7 k7_42 _ _ _) ?_
    refine bdc fun i3 => ?_
    show G 7 43 [some (.inr (.inr x0)), some (.inr (.inr x1)), some (.inl x2), some (.inl x3), some (.inl x4), some (.inl x5), some (.inl x6)] [.inl i3, .inr (.inr x0), .inr (.inr x0), .inl x4, .inr (.inr r2)] H = _
    refine Eq.trans (e1 hG PT_7 k7_43 _ _ _) ?_
    show G 7 45 [some (.inr (.inr x0)), some (.inr (.inr x1)), some (.inl x2), some (.inl x3), some (.inl x4), some (.inl x5), some (.inl x6)] [.inl x6, .inl i3, .inr (.inr x0), .inr (.inr x0), .inl x4, .inr (.inr r2)] H = _
    refine Eq.trans (e1 hG PT_7 k7_45 _ _ _) ?_
    refine bfc ?_ ?_
    · refine bdc fun u4 => ?_
      refine bdc fun i5 => ?_
      show G 7 48 [some (.inr (.inr x0)), some (.inr (.inr x1)), some (.inl x2), some (.inl x3), some (.inl x4), some (.inl x5), some (.inl x6)] [.inl i5, .inr (.inr x0), .inl x4, .inr (.inr r2)] u4.2 = _
      refine Eq.trans (e1 hG PT_7 k7_48 _ _ _) ?_
      show G 7 50 [some (.inr (.inr x0)), some (.inr (.inr x1)), some (.inl x2), some (.inl x3), some (.inl x4), some (.inl x5), some (.inl x6)] [.inl x5, .inl i5, .inr (.inr x0), .inl x4, .inr (.inr r2)] u4.2 = _
      refine Eq.trans (e1 hG PT_7 k7_50 _ _ _) ?_
      refine bfc ?_ ?_
      · refine bdc fun u6 => ?_
        refine bdc fun i7 => ?_
        show G 7 53 [some (.inr (.inr x0)), some (.inr (.inr x1)), some (.inl x2), some (.inl x3), some (.inl x4), some (.inl x5), some (.inl x6)] [.inl i7, .inl x4, .inr (.inr r2)] u6.2 = _
        refine Eq.trans (e1 hG PT_7 k7_53 _ _ _) ?_
        refine bdc fun H8 => ?_
        show G 7 54 [some (.inr (.inr x0)), some (.inr (.inr x1)), some (.inl x2), some (.inl x3), some (.inl x4), some (.inl x5), some (.inl x6)] [] H8 = _
        refine Eq.trans (e1 hG PT_7 k7_54 _ _ _) ?_
        show G 7 57 [some (.inr (.inr x0)), some (.inr (.inr x1)), some (.inl x2), some (.inl x3), some (.inl x4), some (.inl x5), some (.inl (x6 + 1))] [] H8 = _
        refine Eq.trans (e1 hG PT_7 k7_57 _ _ _) ?_
        rfl
      · rfl
    · rfl
-- StepsAhead$Products.timesVariable(II)I
theorem PT_8 : PT 8 = pt8 := rfl
theorem k8_0 : lkp pt8 0 = iP 1 (fIld 1) := rfl
theorem k8_1 : lkp pt8 1 = iB 4 20 (b1 (fun x => decide (x < 0))) := rfl
theorem k8_4 : lkp pt8 4 = iP 5 (fIld 1) := rfl
theorem k8_5 : lkp pt8 5 = iP 8 (fK (.inl 252)) := rfl
theorem k8_8 : lkp pt8 8 = iB 11 20 (b2 (fun x y => decide (y ≤ x))) := rfl
theorem k8_11 : lkp pt8 11 = iP 12 (fIld 2) := rfl
theorem k8_12 : lkp pt8 12 = iB 15 20 (b1 (fun x => decide (x < 0))) := rfl
theorem k8_15 : lkp pt8 15 = iP 16 (fIld 2) := rfl
theorem k8_16 : lkp pt8 16 = iP 17 (fK (.inl 5)) := rfl
theorem k8_17 : lkp pt8 17 = iB 20 22 (b2 (fun x y => decide (x < y))) := rfl
theorem k8_20 : lkp pt8 20 = iP 21 (fK (.inl (-1))) := rfl
theorem k8_21 : lkp pt8 21 = iRet rI := rfl
theorem k8_22 : lkp pt8 22 = iP 23 (fAld 0) := rfl
theorem k8_23 : lkp pt8 23 = iRR 26 (gtR 12) := rfl
theorem k8_26 : lkp pt8 26 = iP 27 (fIld 2) := rfl
theorem k8_27 : lkp pt8 27 = iRR 28 qAR := rfl
theorem k8_28 : lkp pt8 28 = iP 29 (fIld 1) := rfl
theorem k8_29 : lkp pt8 29 = iRI 30 qAI := rfl
theorem k8_30 : lkp pt8 30 = iRet rI := rfl
theorem b8_0 {G : AG} (hG : FIX G) (x0 : Nat) (x1 : Int32) (x2 : Int32) (H : Hp) : G 8 0 [some (.inr (.inr x0)), some (.inl x1), some (.inl x2)] [] H = (bif decide ((x1 : Int32) < 0) then G 8 20 [some (.inr (.inr x0)), some (.inl x1), some (.inl x2)] [] H else bif decide ((252 : Int32) ≤ (x1 : Int32)) then G 8 20 [some (.inr (.inr x0)), some (.inl x1), some (.inl x2)] [] H else bif decide ((x2 : Int32) < 0) then G 8 20 [some (.inr (.inr x0)), some (.inl x1), some (.inl x2)] [] H else bif decide ((x2 : Int32) < (5 : Int32)) then (hgR H x0 12).bind fun r1 => (hAR H r1 x2).bind fun r2 => (hAI H r2 x1).bind fun i3 => some (some (.inl i3), H) else G 8 20 [some (.inr (.inr x0)), some (.inl x1), some (.inl x2)] [] H) := by
  refine Eq.trans (e1 hG PT_8 k8_0 _ _ _) ?_
  show G 8 1 [some (.inr (.inr x0)), some (.inl x1), some (.inl x2)] [.inl x1] H = _
  refine Eq.trans (e1 hG PT_8 k8_1 _ _ _) ?_
  refine bfc ?_ ?_
  · rfl
  · show G 8 4 [some (.inr (.inr x0)), some (.inl x1), some (.inl x2)] [] H = _
    refine Eq.trans (e1 hG PT_8 k8_4 _ _ _) ?_
    show G 8 5 [some (.inr (.inr x0)), some (.inl x1), some (.inl x2)] [.inl x1] H = _
    refine Eq.trans (e1 hG PT_8 k8_5 _ _ _) ?_
    show G 8 8 [some (.inr (.inr x0)), some (.inl x1), some (.inl x2)] [.inl 252, .inl x1] H = _
    refine Eq.trans (e1 hG PT_8 k8_8 _ _ _) ?_
    refine bfc ?_ ?_
    · rfl
    · show G 8 11 [some (.inr (.inr x0)), some (.inl x1), some (.inl x2)] [] H = _
      refine Eq.trans (e1 hG PT_8 k8_11 _ _ _) ?_
      show G 8 12 [some (.inr (.inr x0)), some (.inl x1), some (.inl x2)] [.inl x2] H = _
      refine Eq.trans (e1 hG PT_8 k8_12 _ _ _) ?_
      refine bfc ?_ ?_
      · rfl
      · show G 8 15 [some (.inr (.inr x0)), some (.inl x1), some (.inl x2)] [] H = _
        refine Eq.trans (e1 hG PT_8 k8_15 _ _ _) ?_
        show G 8 16 [some (.inr (.inr x0)), some (.inl x1), some (.inl x2)] [.inl x2] H = _
        refine Eq.trans (e1 hG PT_8 k8_16 _ _ _) ?_
        show G 8 17 [some (.inr (.inr x0)), some (.inl x1), some (.inl x2)] [.inl 5, .inl x2] H = _
        refine Eq.trans (e1 hG PT_8 k8_17 _ _ _) ?_
        refine bfc ?_ ?_
        · show G 8 22 [some (.inr (.inr x0)), some (.inl x1), some (.inl x2)] [] H = _
          refine Eq.trans (e1 hG PT_8 k8_22 _ _ _) ?_
          show G 8 23 [some (.inr (.inr x0)), some (.inl x1), some (.inl x2)] [.inr (.inr x0)] H = _
          refine Eq.trans (e1 hG PT_8 k8_23 _ _ _) ?_
          refine bdc fun r1 => ?_
          show G 8 26 [some (.inr (.inr x0)), some (.inl x1), some (.inl x2)] [.inr (.inr r1)] H = _
          refine Eq.trans (e1 hG PT_8 k8_26 _ _ _) ?_
          show G 8 27 [some (.inr (.inr x0)), some (.inl x1), some (.inl x2)] [.inl x2, .inr (.inr r1)] H = _
          refine Eq.trans (e1 hG PT_8 k8_27 _ _ _) ?_
          refine bdc fun r2 => ?_
          show G 8 28 [some (.inr (.inr x0)), some (.inl x1), some (.inl x2)] [.inr (.inr r2)] H = _
          refine Eq.trans (e1 hG PT_8 k8_28 _ _ _) ?_
          show G 8 29 [some (.inr (.inr x0)), some (.inl x1), some (.inl x2)] [.inl x1, .inr (.inr r2)] H = _
          refine Eq.trans (e1 hG PT_8 k8_29 _ _ _) ?_
          refine bdc fun i3 => ?_
          show G 8 30 [some (.inr (.inr x0)), some (.inl x1), some (.inl x2)] [.inl i3] H = _
          exact e1 hG PT_8 k8_30 _ _ _
        · rfl
theorem b8_20 {G : AG} (hG : FIX G) (x0 : Nat) (x1 : Int32) (x2 : Int32) (H : Hp) : G 8 20 [some (.inr (.inr x0)), some (.inl x1), some (.inl x2)] [] H = (some (some (.inl ((-1))), H)) := by
  refine Eq.trans (e1 hG PT_8 k8_20 _ _ _) ?_
  show G 8 21 [some (.inr (.inr x0)), some (.inl x1), some (.inl x2)] [.inl (-1)] H = _
  exact e1 hG PT_8 k8_21 _ _ _
-- StepsAhead$Runner.<init>()V
theorem PT_9 : PT 9 = pt9 := rfl
theorem k9_0 : lkp pt9 0 = iP 1 (fAld 0) := rfl
theorem k9_1 : lkp pt9 1 = iW 4 wObj := rfl
theorem k9_4 : lkp pt9 4 = iP 5 (fAld 0) := rfl
theorem k9_5 : lkp pt9 5 = iP 6 (fK (.inl 1)) := rfl
theorem k9_6 : lkp pt9 6 = iW 9 (ptI 33) := rfl
theorem k9_9 : lkp pt9 9 = iP 10 (fAld 0) := rfl
theorem k9_10 : lkp pt9 10 = iP 11 (fK (.inl 0)) := rfl
theorem k9_11 : lkp pt9 11 = iW 14 (ptI 34) := rfl
theorem k9_14 : lkp pt9 14 = iP 15 (fAld 0) := rfl
theorem k9_15 : lkp pt9 15 = iP 16 (fK (.inl 0)) := rfl
theorem k9_16 : lkp pt9 16 = iW 19 (ptI 35) := rfl
theorem k9_19 : lkp pt9 19 = iP 20 (fAld 0) := rfl
theorem k9_20 : lkp pt9 20 = iP 21 (fK (.inl 0)) := rfl
theorem k9_21 : lkp pt9 21 = iW 24 (ptI 36) := rfl
theorem k9_24 : lkp pt9 24 = iP 25 (fAld 0) := rfl
theorem k9_25 : lkp pt9 25 = iP 26 (fK (.inl 0)) := rfl
theorem k9_26 : lkp pt9 26 = iW 29 (ptZ 37) := rfl
theorem k9_29 : lkp pt9 29 = iP 30 (fAld 0) := rfl
theorem k9_30 : lkp pt9 30 = iP 31 (fK (.inr (.inr 0))) := rfl
theorem k9_31 : lkp pt9 31 = iW 34 (ptR 38) := rfl
theorem k9_34 : lkp pt9 34 = iP 35 (fAld 0) := rfl
theorem k9_35 : lkp pt9 35 = iP 36 (fK (.inl 0)) := rfl
theorem k9_36 : lkp pt9 36 = iW 39 (ptI 39) := rfl
theorem k9_39 : lkp pt9 39 = iRet rV := rfl
theorem b9_0 {G : AG} (hG : FIX G) (x0 : Nat) (H : Hp) : G 9 0 [some (.inr (.inr x0))] [] H = (((bif Nat.beq x0 0 || false then none else some H)).bind fun H1 => (hpI H1 x0 33 1).bind fun H2 => (hpI H2 x0 34 0).bind fun H3 => (hpI H3 x0 35 0).bind fun H4 => (hpI H4 x0 36 0).bind fun H5 => (hpZ H5 x0 37 0).bind fun H6 => (hpR H6 x0 38 0).bind fun H7 => (hpI H7 x0 39 0).bind fun H8 => some (none, H8)) := by
  refine Eq.trans (e1 hG PT_9 k9_0 _ _ _) ?_
  show G 9 1 [some (.inr (.inr x0))] [.inr (.inr x0)] H = _
  refine Eq.trans (e1 hG PT_9 k9_1 _ _ _) ?_
  refine bdc fun H1 => ?_
  show G 9 4 [some (.inr (.inr x0))] [] H1 = _
  refine Eq.trans (e1 hG PT_9 k9_4 _ _ _) ?_
  show G 9 5 [some (.inr (.inr x0))] [.inr (.inr x0)] H1 = _
  refine Eq.trans (e1 hG PT_9 k9_5 _ _ _) ?_
  show G 9 6 [some (.inr (.inr x0))] [.inl 1, .inr (.inr x0)] H1 = _
  refine Eq.trans (e1 hG PT_9 k9_6 _ _ _) ?_
  refine bdc fun H2 => ?_
  show G 9 9 [some (.inr (.inr x0))] [] H2 = _
  refine Eq.trans (e1 hG PT_9 k9_9 _ _ _) ?_
  show G 9 10 [some (.inr (.inr x0))] [.inr (.inr x0)] H2 = _
  refine Eq.trans (e1 hG PT_9 k9_10 _ _ _) ?_
  show G 9 11 [some (.inr (.inr x0))] [.inl 0, .inr (.inr x0)] H2 = _
  refine Eq.trans (e1 hG PT_9 k9_11 _ _ _) ?_
  refine bdc fun H3 => ?_
  show G 9 14 [some (.inr (.inr x0))] [] H3 = _
  refine Eq.trans (e1 hG PT_9 k9_14 _ _ _) ?_
  show G 9 15 [some (.inr (.inr x0))] [.inr (.inr x0)] H3 = _
  refine Eq.trans (e1 hG PT_9 k9_15 _ _ _) ?_
  show G 9 16 [some (.inr (.inr x0))] [.inl 0, .inr (.inr x0)] H3 = _
  refine Eq.trans (e1 hG PT_9 k9_16 _ _ _) ?_
  refine bdc fun H4 => ?_
  show G 9 19 [some (.inr (.inr x0))] [] H4 = _
  refine Eq.trans (e1 hG PT_9 k9_19 _ _ _) ?_
  show G 9 20 [some (.inr (.inr x0))] [.inr (.inr x0)] H4 = _
  refine Eq.trans (e1 hG PT_9 k9_20 _ _ _) ?_
  show G 9 21 [some (.inr (.inr x0))] [.inl 0, .inr (.inr x0)] H4 = _
  refine Eq.trans (e1 hG PT_9 k9_21 _ _ _) ?_
  refine bdc fun H5 => ?_
  show G 9 24 [some (.inr (.inr x0))] [] H5 = _
  refine Eq.trans (e1 hG PT_9 k9_24 _ _ _) ?_
  show G 9 25 [some (.inr (.inr x0))] [.inr (.inr x0)] H5 = _
  refine Eq.trans (e1 hG PT_9 k9_25 _ _ _) ?_
  show G 9 26 [some (.inr (.inr x0))] [.inl 0, .inr (.inr x0)] H5 = _
  refine Eq.trans (e1 hG PT_9 k9_26 _ _ _) ?_
  refine bdc fun H6 => ?_
  show G 9 29 [some (.inr (.inr x0))] [] H6 = _
  refine Eq.trans (e1 hG PT_9 k9_29 _ _ _) ?_
  show G 9 30 [some (.inr (.inr x0))] [.inr (.inr x0)] H6 = _
  refine Eq.trans (e1 hG PT_9 k9_30 _ _ _) ?_
  show G 9 31 [some (.inr (.inr x0))] [.inr (.inr 0), .inr (.inr x0)] H6 = _
  refine Eq.trans (e1 hG PT_9 k9_31 _ _ _) ?_
  refine bdc fun H7 => ?_
  show G 9 34 [some (.inr (.inr x0))] [] H7 = _
  refine Eq.trans (e1 hG PT_9 k9_34 _ _ _) ?_
  show G 9 35 [some (.inr (.inr x0))] [.inr (.inr x0)] H7 = _
  refine Eq.trans (e1 hG PT_9 k9_35 _ _ _) ?_
  show G 9 36 [some (.inr (.inr x0))] [.inl 0, .inr (.inr x0)] H7 = _
  refine Eq.trans (e1 hG PT_9 k9_36 _ _ _) ?_
  refine bdc fun H8 => ?_
  show G 9 39 [some (.inr (.inr x0))] [] H8 = _
  exact e1 hG PT_9 k9_39 _ _ _
-- StepsAhead$Routine.<init>(I)V
theorem PT_10 : PT 10 = pt10 := rfl
theorem k10_0 : lkp pt10 0 = iP 1 (fAld 0) := rfl
theorem k10_1 : lkp pt10 1 = iW 4 wObj := rfl
theorem k10_4 : lkp pt10 4 = iP 5 (fAld 0) := rfl
theorem k10_5 : lkp pt10 5 = iP 7 (fK (.inl 24)) := rfl
theorem k10_7 : lkp pt10 7 = iW 10 (wNa 23) := rfl
theorem k10_10 : lkp pt10 10 = iW 13 (ptR 22) := rfl
theorem k10_13 : lkp pt10 13 = iP 14 (fAld 0) := rfl
theorem k10_14 : lkp pt10 14 = iP 15 (fK (.inl 0)) := rfl
theorem k10_15 : lkp pt10 15 = iW 18 (ptI 23) := rfl
theorem k10_18 : lkp pt10 18 = iP 19 (fAld 0) := rfl
theorem k10_19 : lkp pt10 19 = iP 21 (fK (.inl 24)) := rfl
theorem k10_21 : lkp pt10 21 = iW 23 (wNa 20) := rfl
theorem k10_23 : lkp pt10 23 = iW 26 (ptR 24) := rfl
theorem k10_26 : lkp pt10 26 = iP 27 (fAld 0) := rfl
theorem k10_27 : lkp pt10 27 = iP 28 (fK (.inl 0)) := rfl
theorem k10_28 : lkp pt10 28 = iW 31 (ptI 25) := rfl
theorem k10_31 : lkp pt10 31 = iP 32 (fAld 0) := rfl
theorem k10_32 : lkp pt10 32 = iP 33 (fK (.inl 0)) := rfl
theorem k10_33 : lkp pt10 33 = iW 36 (ptI 26) := rfl
theorem k10_36 : lkp pt10 36 = iP 37 (fAld 0) := rfl
theorem k10_37 : lkp pt10 37 = iP 38 (fK (.inl 2)) := rfl
theorem k10_38 : lkp pt10 38 = iP 40 (fK (.inl 36)) := rfl
theorem k10_40 : lkp pt10 40 = iW 44 (wMu 26 21) := rfl
theorem k10_44 : lkp pt10 44 = iW 47 (ptR 27) := rfl
theorem k10_47 : lkp pt10 47 = iP 48 (fAld 0) := rfl
theorem k10_48 : lkp pt10 48 = iP 49 (fK (.inl 2)) := rfl
theorem k10_49 : lkp pt10 49 = iW 51 (wNa 20) := rfl
theorem k10_51 : lkp pt10 51 = iW 54 (ptR 28) := rfl
theorem k10_54 : lkp pt10 54 = iP 55 (fAld 0) := rfl
theorem k10_55 : lkp pt10 55 = iP 56 (fK (.inl 5)) := rfl
theorem k10_56 : lkp pt10 56 = iW 58 (wNa 21) := rfl
theorem k10_58 : lkp pt10 58 = iW 61 (ptR 29) := rfl
theorem k10_61 : lkp pt10 61 = iP 62 (fAld 0) := rfl
theorem k10_62 : lkp pt10 62 = iP 63 (fK (.inl 5)) := rfl
theorem k10_63 : lkp pt10 63 = iW 65 (wNa 21) := rfl
theorem k10_65 : lkp pt10 65 = iW 68 (ptR 30) := rfl
theorem k10_68 : lkp pt10 68 = iP 69 (fAld 0) := rfl
theorem k10_69 : lkp pt10 69 = iP 70 (fK (.inr (.inr 0))) := rfl
theorem k10_70 : lkp pt10 70 = iW 73 (ptR 31) := rfl
theorem k10_73 : lkp pt10 73 = iP 74 (fAld 0) := rfl
theorem k10_74 : lkp pt10 74 = iP 75 (fK (.inl 0)) := rfl
theorem k10_75 : lkp pt10 75 = iW 78 (ptI 32) := rfl
theorem k10_78 : lkp pt10 78 = iP 79 (fAld 0) := rfl
theorem k10_79 : lkp pt10 79 = iP 80 (fIld 1) := rfl
theorem k10_80 : lkp pt10 80 = iW 83 (ptI 21) := rfl
theorem k10_83 : lkp pt10 83 = iRet rV := rfl
theorem b10_0 {G : AG} (hG : FIX G) (x0 : Nat) (x1 : Int32) (H : Hp) : G 10 0 [some (.inr (.inr x0)), some (.inl x1)] [] H = (((bif Nat.beq x0 0 || false then none else some H)).bind fun H1 => (hNa H1 23 24).bind fun H2 => (hpR H2 x0 22 H1.2.1.1).bind fun H3 => (hpI H3 x0 23 0).bind fun H4 => (hNa H4 20 24).bind fun H5 => (hpR H5 x0 24 H4.2.1.1).bind fun H6 => (hpI H6 x0 25 0).bind fun H7 => (hpI H7 x0 26 0).bind fun H8 => ((bif Nat.ble 4 H8.2.1.1 && (decide ((0 : Int32) ≤ 2) && (decide ((0 : Int32) ≤ 36) && (Nat.ble (2 : Int32).toNatClampNeg 10000 && Nat.ble (36 : Int32).toNatClampNeg 10000))) then some (hMu H8 26 21 (2 : Int32).toNatClampNeg (36 : Int32).toNatClampNeg) else none)).bind fun H9 => (hpR H9 x0 27 H8.2.1.1).bind fun H10 => (hNa H10 20 2).bind fun H11 => (hpR H11 x0 28 H10.2.1.1).bind fun H12 => (hNa H12 21 5).bind fun H13 => (hpR H13 x0 29 H12.2.1.1).bind fun H14 => (hNa H14 21 5).bind fun H15 => (hpR H15 x0 30 H14.2.1.1).bind fun H16 => (hpR H16 x0 31 0).bind fun H17 => (hpI H17 x0 32 0).bind fun H18 => (hpI H18 x0 21 x1).bind fun H19 => some (none, H19)) := by
  refine Eq.trans (e1 hG PT_10 k10_0 _ _ _) ?_
  show G 10 1 [some (.inr (.inr x0)), some (.inl x1)] [.inr (.inr x0)] H = _
  refine Eq.trans (e1 hG PT_10 k10_1 _ _ _) ?_
  refine bdc fun H1 => ?_
  show G 10 4 [some (.inr (.inr x0)), some (.inl x1)] [] H1 = _
  refine Eq.trans (e1 hG PT_10 k10_4 _ _ _) ?_
  show G 10 5 [some (.inr (.inr x0)), some (.inl x1)] [.inr (.inr x0)] H1 = _
  refine Eq.trans (e1 hG PT_10 k10_5 _ _ _) ?_
  show G 10 7 [some (.inr (.inr x0)), some (.inl x1)] [.inl 24, .inr (.inr x0)] H1 = _
  refine Eq.trans (e1 hG PT_10 k10_7 _ _ _) ?_
  refine bdc fun H2 => ?_
  show G 10 10 [some (.inr (.inr x0)), some (.inl x1)] [.inr (.inr H1.2.1.1), .inr (.inr x0)] H2 = _
  refine Eq.trans (e1 hG PT_10 k10_10 _ _ _) ?_
  refine bdc fun H3 => ?_
  show G 10 13 [some (.inr (.inr x0)), some (.inl x1)] [] H3 = _
  refine Eq.trans (e1 hG PT_10 k10_13 _ _ _) ?_
  show G 10 14 [some (.inr (.inr x0)), some (.inl x1)] [.inr (.inr x0)] H3 = _
  refine Eq.trans (e1 hG PT_10 k10_14 _ _ _) ?_
  show G 10 15 [some (.inr (.inr x0)), some (.inl x1)] [.inl 0, .inr (.inr x0)] H3 = _
  refine Eq.trans (e1 hG PT_10 k10_15 _ _ _) ?_
  refine bdc fun H4 => ?_
  show G 10 18 [some (.inr (.inr x0)), some (.inl x1)] [] H4 = _
  refine Eq.trans (e1 hG PT_10 k10_18 _ _ _) ?_
  show G 10 19 [some (.inr (.inr x0)), some (.inl x1)] [.inr (.inr x0)] H4 = _
  refine Eq.trans (e1 hG PT_10 k10_19 _ _ _) ?_
  show G 10 21 [some (.inr (.inr x0)), some (.inl x1)] [.inl 24, .inr (.inr x0)] H4 = _
  refine Eq.trans (e1 hG PT_10 k10_21 _ _ _) ?_
  refine bdc fun H5 => ?_
  show G 10 23 [some (.inr (.inr x0)), some (.inl x1)] [.inr (.inr H4.2.1.1), .inr (.inr x0)] H5 = _
  refine Eq.trans (e1 hG PT_10 k10_23 _ _ _) ?_
  refine bdc fun H6 => ?_
  show G 10 26 [some (.inr (.inr x0)), some (.inl x1)] [] H6 = _
  refine Eq.trans (e1 hG PT_10 k10_26 _ _ _) ?_
  show G 10 27 [some (.inr (.inr x0)), some (.inl x1)] [.inr (.inr x0)] H6 = _
  refine Eq.trans (e1 hG PT_10 k10_27 _ _ _) ?_
  show G 10 28 [some (.inr (.inr x0)), some (.inl x1)] [.inl 0, .inr (.inr x0)] H6 = _
  refine Eq.trans (e1 hG PT_10 k10_28 _ _ _) ?_
  refine bdc fun H7 => ?_
  show G 10 31 [some (.inr (.inr x0)), some (.inl x1)] [] H7 = _
  refine Eq.trans (e1 hG PT_10 k10_31 _ _ _) ?_
  show G 10 32 [some (.inr (.inr x0)), some (.inl x1)] [.inr (.inr x0)] H7 = _
  refine Eq.trans (e1 hG PT_10 k10_32 _ _ _) ?_
  show G 10 33 [some (.inr (.inr x0)), some (.inl x1)] [.inl 0, .inr (.inr x0)] H7 = _
  refine Eq.trans (e1 hG PT_10 k10_33 _ _ _) ?_
  refine bdc fun H8 => ?_
  show G 10 36 [some (.inr (.inr x0)), some (.inl x1)] [] H8 = _
  refine Eq.trans (e1 hG PT_10 k10_36 _ _ _) ?_
  show G 10 37 [some (.inr (.inr x0)), some (.inl x1)] [.inr (.inr x0)] H8 = _
  refine Eq.trans (e1 hG PT_10 k10_37 _ _ _) ?_
  show G 10 38 [some (.inr (.inr x0)), some (.inl x1)] [.inl 2, .inr (.inr x0)] H8 = _
  refine Eq.trans (e1 hG PT_10 k10_38 _ _ _) ?_
  show G 10 40 [some (.inr (.inr x0)), some (.inl x1)] [.inl 36, .inl 2, .inr (.inr x0)] H8 = _
  refine Eq.trans (e1 hG PT_10 k10_40 _ _ _) ?_
  refine bdc fun H9 => ?_
  show G 10 44 [some (.inr (.inr x0)), some (.inl x1)] [.inr (.inr H8.2.1.1), .inr (.inr x0)] H9 = _
  refine Eq.trans (e1 hG PT_10 k10_44 _ _ _) ?_
  refine bdc fun H10 => ?_
  show G 10 47 [some (.inr (.inr x0)), some (.inl x1)] [] H10 = _
  refine Eq.trans (e1 hG PT_10 k10_47 _ _ _) ?_
  show G 10 48 [some (.inr (.inr x0)), some (.inl x1)] [.inr (.inr x0)] H10 = _
  refine Eq.trans (e1 hG PT_10 k10_48 _ _ _) ?_
  show G 10 49 [some (.inr (.inr x0)), some (.inl x1)] [.inl 2, .inr (.inr x0)] H10 = _
  refine Eq.trans (e1 hG PT_10 k10_49 _ _ _) ?_
  refine bdc fun H11 => ?_
  show G 10 51 [some (.inr (.inr x0)), some (.inl x1)] [.inr (.inr H10.2.1.1), .inr (.inr x0)] H11 = _
  refine Eq.trans (e1 hG PT_10 k10_51 _ _ _) ?_
  refine bdc fun H12 => ?_
  show G 10 54 [some (.inr (.inr x0)), some (.inl x1)] [] H12 = _
  refine Eq.trans (e1 hG PT_10 k10_54 _ _ _) ?_
  show G 10 55 [some (.inr (.inr x0)), some (.inl x1)] [.inr (.inr x0)] H12 = _
  refine Eq.trans (e1 hG PT_10 k10_55 _ _ _) ?_
  show G 10 56 [some (.inr (.inr x0)), some (.inl x1)] [.inl 5, .inr (.inr x0)] H12 = _
  refine Eq.trans (e1 hG PT_10 k10_56 _ _ _) ?_
  refine bdc fun H13 => ?_
  show G 10 58 [some (.inr (.inr x0)), some (.inl x1)] [.inr (.inr H12.2.1.1), .inr (.inr x0)] H13 = _
  refine Eq.trans (e1 hG PT_10 k10_58 _ _ _) ?_
  refine bdc fun H14 => ?_
  show G 10 61 [some (.inr (.inr x0)), some (.inl x1)] [] H14 = _
  refine Eq.trans (e1 hG PT_10 k10_61 _ _ _) ?_
  show G 10 62 [some (.inr (.inr x0)), some (.inl x1)] [.inr (.inr x0)] H14 = _
  refine Eq.trans (e1 hG PT_10 k10_62 _ _ _) ?_
  show G 10 63 [some (.inr (.inr x0)), some (.inl x1)] [.inl 5, .inr (.inr x0)] H14 = _
  refine Eq.trans (e1 hG PT_10 k10_63 _ _ _) ?_
  refine bdc fun H15 => ?_
  show G 10 65 [some (.inr (.inr x0)), some (.inl x1)] [.inr (.inr H14.2.1.1), .inr (.inr x0)] H15 = _
  refine Eq.trans (e1 hG PT_10 k10_65 _ _ _) ?_
  refine bdc fun H16 => ?_
  show G 10 68 [some (.inr (.inr x0)), some (.inl x1)] [] H16 = _
  refine Eq.trans (e1 hG PT_10 k10_68 _ _ _) ?_
  show G 10 69 [some (.inr (.inr x0)), some (.inl x1)] [.inr (.inr x0)] H16 = _
  refine Eq.trans (e1 hG PT_10 k10_69 _ _ _) ?_
  show G 10 70 [some (.inr (.inr x0)), some (.inl x1)] [.inr (.inr 0), .inr (.inr x0)] H16 = _
  refine Eq.trans (e1 hG PT_10 k10_70 _ _ _) ?_
  refine bdc fun H17 => ?_
  show G 10 73 [some (.inr (.inr x0)), some (.inl x1)] [] H17 = _
  refine Eq.trans (e1 hG PT_10 k10_73 _ _ _) ?_
  show G 10 74 [some (.inr (.inr x0)), some (.inl x1)] [.inr (.inr x0)] H17 = _
  refine Eq.trans (e1 hG PT_10 k10_74 _ _ _) ?_
  show G 10 75 [some (.inr (.inr x0)), some (.inl x1)] [.inl 0, .inr (.inr x0)] H17 = _
  refine Eq.trans (e1 hG PT_10 k10_75 _ _ _) ?_
  refine bdc fun H18 => ?_
  show G 10 78 [some (.inr (.inr x0)), some (.inl x1)] [] H18 = _
  refine Eq.trans (e1 hG PT_10 k10_78 _ _ _) ?_
  show G 10 79 [some (.inr (.inr x0)), some (.inl x1)] [.inr (.inr x0)] H18 = _
  refine Eq.trans (e1 hG PT_10 k10_79 _ _ _) ?_
  show G 10 80 [some (.inr (.inr x0)), some (.inl x1)] [.inl x1, .inr (.inr x0)] H18 = _
  refine Eq.trans (e1 hG PT_10 k10_80 _ _ _) ?_
  refine bdc fun H19 => ?_
  show G 10 83 [some (.inr (.inr x0)), some (.inl x1)] [] H19 = _
  exact e1 hG PT_10 k10_83 _ _ _
-- StepsAhead.routine()I
theorem PT_11 : PT 11 = pt11 := rfl
theorem k11_0 : lkp pt11 0 = iP 1 (fAld 0) := rfl
theorem k11_1 : lkp pt11 1 = iRI 4 (gtI 44) := rfl
theorem k11_4 : lkp pt11 4 = iP 6 (fK (.inl 8)) := rfl
theorem k11_6 : lkp pt11 6 = iB 9 12 (b2 (fun x y => decide (x < y))) := rfl
theorem k11_9 : lkp pt11 9 = iP 11 (fK (.inl (-1000003))) := rfl
theorem k11_11 : lkp pt11 11 = iRet rI := rfl
theorem k11_12 : lkp pt11 12 = iP 13 (fAld 0) := rfl
theorem k11_13 : lkp pt11 13 = iP 14 fDup := rfl
theorem k11_14 : lkp pt11 14 = iRI 17 (gtI 44) := rfl
theorem k11_17 : lkp pt11 17 = iP 18 (fK (.inl 1)) := rfl
theorem k11_18 : lkp pt11 18 = iP 19 (f2I (fun x y => x + y)) := rfl
theorem k11_19 : lkp pt11 19 = iW 22 (ptI 44) := rfl
theorem k11_22 : lkp pt11 22 = iP 23 (fAld 0) := rfl
theorem k11_23 : lkp pt11 23 = iRI 26 (gtI 44) := rfl
theorem k11_26 : lkp pt11 26 = iP 27 (fK (.inl 1)) := rfl
theorem k11_27 : lkp pt11 27 = iP 28 (f2I (fun x y => x - y)) := rfl
theorem k11_28 : lkp pt11 28 = iRet rI := rfl
theorem b11_0 {G : AG} (hG : FIX G) (x0 : Nat) (H : Hp) : G 11 0 [some (.inr (.inr x0))] [] H = ((hgI H x0 44).bind fun i1 => bif decide ((i1 : Int32) < (8 : Int32)) then (hgI H x0 44).bind fun i2 => (hpI H x0 44 ((i2 + 1))).bind fun H3 => (hgI H3 x0 44).bind fun i4 => some (some (.inl ((i4 - 1))), H3) else some (some (.inl ((-1000003))), H)) := by
  refine Eq.trans (e1 hG PT_11 k11_0 _ _ _) ?_
  show G 11 1 [some (.inr (.inr x0))] [.inr (.inr x0)] H = _
  refine Eq.trans (e1 hG PT_11 k11_1 _ _ _) ?_
  refine bdc fun i1 => ?_
  show G 11 4 [some (.inr (.inr x0))] [.inl i1] H = _
  refine Eq.trans (e1 hG PT_11 k11_4 _ _ _) ?_
  show G 11 6 [some (.inr (.inr x0))] [.inl 8, .inl i1] H = _
  refine Eq.trans (e1 hG PT_11 k11_6 _ _ _) ?_
  refine bfc ?_ ?_
  · show G 11 12 [some (.inr (.inr x0))] [] H = _
    refine Eq.trans (e1 hG PT_11 k11_12 _ _ _) ?_
    show G 11 13 [some (.inr (.inr x0))] [.inr (.inr x0)] H = _
    refine Eq.trans (e1 hG PT_11 k11_13 _ _ _) ?_
    show G 11 14 [some (.inr (.inr x0))] [.inr (.inr x0), .inr (.inr x0)] H = _
    refine Eq.trans (e1 hG PT_11 k11_14 _ _ _) ?_
    refine bdc fun i2 => ?_
    show G 11 17 [some (.inr (.inr x0))] [.inl i2, .inr (.inr x0)] H = _
    refine Eq.trans (e1 hG PT_11 k11_17 _ _ _) ?_
    show G 11 18 [some (.inr (.inr x0))] [.inl 1, .inl i2, .inr (.inr x0)] H = _
    refine Eq.trans (e1 hG PT_11 k11_18 _ _ _) ?_
    show G 11 19 [some (.inr (.inr x0))] [.inl (i2 + 1), .inr (.inr x0)] H = _
    refine Eq.trans (e1 hG PT_11 k11_19 _ _ _) ?_
    refine bdc fun H3 => ?_
    show G 11 22 [some (.inr (.inr x0))] [] H3 = _
    refine Eq.trans (e1 hG PT_11 k11_22 _ _ _) ?_
    show G 11 23 [some (.inr (.inr x0))] [.inr (.inr x0)] H3 = _
    refine Eq.trans (e1 hG PT_11 k11_23 _ _ _) ?_
    refine bdc fun i4 => ?_
    show G 11 26 [some (.inr (.inr x0))] [.inl i4] H3 = _
    refine Eq.trans (e1 hG PT_11 k11_26 _ _ _) ?_
    show G 11 27 [some (.inr (.inr x0))] [.inl 1, .inl i4] H3 = _
    refine Eq.trans (e1 hG PT_11 k11_27 _ _ _) ?_
    show G 11 28 [some (.inr (.inr x0))] [.inl (i4 - 1)] H3 = _
    exact e1 hG PT_11 k11_28 _ _ _
  · show G 11 9 [some (.inr (.inr x0))] [] H = _
    refine Eq.trans (e1 hG PT_11 k11_9 _ _ _) ?_
    show G 11 11 [some (.inr (.inr x0))] [.inl (-1000003)] H = _
    exact e1 hG PT_11 k11_11 _ _ _
-- StepsAhead.expression(IIIIIII)I
theorem PT_12 : PT 12 = pt12 := rfl
theorem k12_0 : lkp pt12 0 = iP 1 (fIld 2) := rfl
theorem k12_1 : lkp pt12 1 = iC 4 13 1 1 1 := rfl
theorem k12_4 : lkp pt12 4 = iB 7 50 (b1 (fun x => decide (x = 0))) := rfl
theorem k12_7 : lkp pt12 7 = iP 8 (fIld 3) := rfl
theorem k12_8 : lkp pt12 8 = iC 11 13 1 1 1 := rfl
theorem k12_11 : lkp pt12 11 = iB 14 50 (b1 (fun x => decide (x = 0))) := rfl
theorem k12_14 : lkp pt12 14 = iP 16 (fIld 4) := rfl
theorem k12_16 : lkp pt12 16 = iC 19 13 1 1 1 := rfl
theorem k12_19 : lkp pt12 19 = iB 22 50 (b1 (fun x => decide (x = 0))) := rfl
theorem k12_22 : lkp pt12 22 = iP 24 (fIld 5) := rfl
theorem k12_24 : lkp pt12 24 = iC 27 13 1 1 1 := rfl
theorem k12_27 : lkp pt12 27 = iB 30 50 (b1 (fun x => decide (x = 0))) := rfl
theorem k12_30 : lkp pt12 30 = iP 32 (fIld 6) := rfl
theorem k12_32 : lkp pt12 32 = iC 35 13 1 1 1 := rfl
theorem k12_35 : lkp pt12 35 = iB 38 50 (b1 (fun x => decide (x = 0))) := rfl
theorem k12_38 : lkp pt12 38 = iP 40 (fIld 7) := rfl
theorem k12_40 : lkp pt12 40 = iC 43 13 1 1 1 := rfl
theorem k12_43 : lkp pt12 43 = iB 46 50 (b1 (fun x => decide (x = 0))) := rfl
theorem k12_46 : lkp pt12 46 = iP 47 (fK (.inl 1)) := rfl
theorem k12_47 : lkp pt12 47 = iP 51 fGo := rfl
theorem k12_50 : lkp pt12 50 = iP 51 (fK (.inl 0)) := rfl
theorem k12_51 : lkp pt12 51 = iP 53 (fIst 8) := rfl
theorem k12_53 : lkp pt12 53 = iP 54 (fIld 1) := rfl
theorem k12_54 : lkp pt12 54 = iB 57 67 (b1 (fun x => decide (x < 0))) := rfl
theorem k12_57 : lkp pt12 57 = iP 58 (fIld 1) := rfl
theorem k12_58 : lkp pt12 58 = iP 59 (fK (.inl 1)) := rfl
theorem k12_59 : lkp pt12 59 = iB 62 67 (b2 (fun x y => decide (y < x))) := rfl
theorem k12_62 : lkp pt12 62 = iP 64 (fIld 8) := rfl
theorem k12_64 : lkp pt12 64 = iB 67 70 (b1 (fun x => decide (x ≠ 0))) := rfl
theorem k12_67 : lkp pt12 67 = iP 69 (fK (.inl (-1000001))) := rfl
theorem k12_69 : lkp pt12 69 = iRet rI := rfl
theorem k12_70 : lkp pt12 70 = iP 71 (fIld 1) := rfl
theorem k12_71 : lkp pt12 71 = iB 74 81 (b1 (fun x => decide (x ≠ 0))) := rfl
theorem k12_74 : lkp pt12 74 = iP 75 (fAld 0) := rfl
theorem k12_75 : lkp pt12 75 = iRR 78 (gtR 45) := rfl
theorem k12_78 : lkp pt12 78 = iP 85 fGo := rfl
theorem k12_81 : lkp pt12 81 = iP 82 (fAld 0) := rfl
theorem k12_82 : lkp pt12 82 = iRR 85 (gtR 46) := rfl
theorem k12_85 : lkp pt12 85 = iP 87 (fAst 9) := rfl
theorem k12_87 : lkp pt12 87 = iP 89 (fAld 9) := rfl
theorem k12_89 : lkp pt12 89 = iP 90 (fK (.inl 0)) := rfl
theorem k12_90 : lkp pt12 90 = iP 91 (fIld 2) := rfl
theorem k12_91 : lkp pt12 91 = iW 92 wAI := rfl
theorem k12_92 : lkp pt12 92 = iP 94 (fAld 9) := rfl
theorem k12_94 : lkp pt12 94 = iP 95 (fK (.inl 1)) := rfl
theorem k12_95 : lkp pt12 95 = iP 96 (fIld 3) := rfl
theorem k12_96 : lkp pt12 96 = iW 97 wAI := rfl
theorem k12_97 : lkp pt12 97 = iP 99 (fAld 9) := rfl
theorem k12_99 : lkp pt12 99 = iP 100 (fK (.inl 2)) := rfl
theorem k12_100 : lkp pt12 100 = iP 102 (fIld 4) := rfl
theorem k12_102 : lkp pt12 102 = iW 103 wAI := rfl
theorem k12_103 : lkp pt12 103 = iP 105 (fAld 9) := rfl
theorem k12_105 : lkp pt12 105 = iP 106 (fK (.inl 3)) := rfl
theorem k12_106 : lkp pt12 106 = iP 108 (fIld 5) := rfl
theorem k12_108 : lkp pt12 108 = iW 109 wAI := rfl
theorem k12_109 : lkp pt12 109 = iP 111 (fAld 9) := rfl
theorem k12_111 : lkp pt12 111 = iP 112 (fK (.inl 4)) := rfl
theorem k12_112 : lkp pt12 112 = iP 114 (fIld 6) := rfl
theorem k12_114 : lkp pt12 114 = iW 115 wAI := rfl
theorem k12_115 : lkp pt12 115 = iP 117 (fAld 9) := rfl
theorem k12_117 : lkp pt12 117 = iP 118 (fK (.inl 5)) := rfl
theorem k12_118 : lkp pt12 118 = iP 120 (fIld 7) := rfl
theorem k12_120 : lkp pt12 120 = iW 121 wAI := rfl
theorem k12_121 : lkp pt12 121 = iP 122 (fK (.inl 1)) := rfl
theorem k12_122 : lkp pt12 122 = iRet rI := rfl
theorem b12_0 {G : AG} (hG : FIX G) (x0 : Nat) (x1 : Int32) (x2 : Int32) (x3 : Int32) (x4 : Int32) (x5 : Int32) (x6 : Int32) (x7 : Int32) (H : Hp) : G 12 0 [some (.inr (.inr x0)), some (.inl x1), some (.inl x2), some (.inl x3), some (.inl x4), some (.inl x5), some (.inl x6), some (.inl x7), none, none] [] H = ((G 13 0 [some (.inl x2)] [] H).bind fun u1 => (asI u1.1).bind fun i2 => bif decide ((i2 : Int32) = 0) then G 12 50 [some (.inr (.inr x0)), some (.inl x1), some (.inl x2), some (.inl x3), some (.inl x4), some (.inl x5), some (.inl x6), some (.inl x7), none, none] [] u1.2 else (G 13 0 [some (.inl x3)] [] u1.2).bind fun u3 => (asI u3.1).bind fun i4 => bif decide ((i4 : Int32) = 0) then G 12 50 [some (.inr (.inr x0)), some (.inl x1), some (.inl x2), some (.inl x3), some (.inl x4), some (.inl x5), some (.inl x6), some (.inl x7), none, none] [] u3.2 else (G 13 0 [some (.inl x4)] [] u3.2).bind fun u5 => (asI u5.1).bind fun i6 => bif decide ((i6 : Int32) = 0) then G 12 50 [some (.inr (.inr x0)), some (.inl x1), some (.inl x2), some (.inl x3), some (.inl x4), some (.inl x5), some (.inl x6), some (.inl x7), none, none] [] u5.2 else (G 13 0 [some (.inl x5)] [] u5.2).bind fun u7 => (asI u7.1).bind fun i8 => bif decide ((i8 : Int32) = 0) then G 12 50 [some (.inr (.inr x0)), some (.inl x1), some (.inl x2), some (.inl x3), some (.inl x4), some (.inl x5), some (.inl x6), some (.inl x7), none, none] [] u7.2 else (G 13 0 [some (.inl x6)] [] u7.2).bind fun u9 => (asI u9.1).bind fun i10 => bif decide ((i10 : Int32) = 0) then G 12 50 [some (.inr (.inr x0)), some (.inl x1), some (.inl x2), some (.inl x3), some (.inl x4), some (.inl x5), some (.inl x6), some (.inl x7), none, none] [] u9.2 else (G 13 0 [some (.inl x7)] [] u9.2).bind fun u11 => (asI u11.1).bind fun i12 => bif decide ((i12 : Int32) = 0) then G 12 50 [some (.inr (.inr x0)), some (.inl x1), some (.inl x2), some (.inl x3), some (.inl x4), some (.inl x5), some (.inl x6), some (.inl x7), none, none] [] u11.2 else G 12 51 [some (.inr (.inr x0)), some (.inl x1), some (.inl x2), some (.inl x3), some (.inl x4), some (.inl x5), some (.inl x6), some (.inl x7), none, none] [.inl 1] u11.2) := by
  refine Eq.trans (e1 hG PT_12 k12_0 _ _ _) ?_
  show G 12 1 [some (.inr (.inr x0)), some (.inl x1), some (.inl x2), some (.inl x3), some (.inl x4), some (.inl x5), some (.inl x6), some (.inl x7), none, none] [.inl x2] H = _
  refine Eq.trans (e1 hG PT_12 k12_1 _ _ _) ?_
  refine bdc fun u1 => ?_
  refine bdc fun i2 => ?_
  show G 12 4 [some (.inr (.inr x0)), some (.inl x1), some (.inl x2), some (.inl x3), some (.inl x4), some (.inl x5), some (.inl x6), some (.inl x7), none, none] [.inl i2] u1.2 = _
  refine Eq.trans (e1 hG PT_12 k12_4 _ _ _) ?_
  refine bfc ?_ ?_
  · rfl
  · show G 12 7 [some (.inr (.inr x0)), some (.inl x1), some (.inl x2), some (.inl x3), some (.inl x4), some (.inl x5), some (.inl x6), some (.inl x7), none, none] [] u1.2 = _
    refine Eq.trans (e1 hG PT_12 k12_7 _ _ _) ?_
    show G 12 8 [some (.inr (.inr x0)), some (.inl x1), some (.inl x2), some (.inl x3), some (.inl x4), some (.inl x5), some (.inl x6), some (.inl x7), none, none] [.inl x3] u1.2 = _
    refine Eq.trans (e1 hG PT_12 k12_8 _ _ _) ?_
    refine bdc fun u3 => ?_
    refine bdc fun i4 => ?_
    show G 12 11 [some (.inr (.inr x0)), some (.inl x1), some (.inl x2), some (.inl x3), some (.inl x4), some (.inl x5), some (.inl x6), some (.inl x7), none, none] [.inl i4] u3.2 = _
    refine Eq.trans (e1 hG PT_12 k12_11 _ _ _) ?_
    refine bfc ?_ ?_
    · rfl
    · show G 12 14 [some (.inr (.inr x0)), some (.inl x1), some (.inl x2), some (.inl x3), some (.inl x4), some (.inl x5), some (.inl x6), some (.inl x7), none, none] [] u3.2 = _
      refine Eq.trans (e1 hG PT_12 k12_14 _ _ _) ?_
      show G 12 16 [some (.inr (.inr x0)), some (.inl x1), some (.inl x2), some (.inl x3), some (.inl x4), some (.inl x5), some (.inl x6), some (.inl x7), none, none] [.inl x4] u3.2 = _
      refine Eq.trans (e1 hG PT_12 k12_16 _ _ _) ?_
      refine bdc fun u5 => ?_
      refine bdc fun i6 => ?_
      show G 12 19 [some (.inr (.inr x0)), some (.inl x1), some (.inl x2), some (.inl x3), some (.inl x4), some (.inl x5), some (.inl x6), some (.inl x7), none, none] [.inl i6] u5.2 = _
      refine Eq.trans (e1 hG PT_12 k12_19 _ _ _) ?_
      refine bfc ?_ ?_
      · rfl
      · show G 12 22 [some (.inr (.inr x0)), some (.inl x1), some (.inl x2), some (.inl x3), some (.inl x4), some (.inl x5), some (.inl x6), some (.inl x7), none, none] [] u5.2 = _
        refine Eq.trans (e1 hG PT_12 k12_22 _ _ _) ?_
        show G 12 24 [some (.inr (.inr x0)), some (.inl x1), some (.inl x2), some (.inl x3), some (.inl x4), some (.inl x5), some (.inl x6), some (.inl x7), none, none] [.inl x5] u5.2 = _
        refine Eq.trans (e1 hG PT_12 k12_24 _ _ _) ?_
        refine bdc fun u7 => ?_
        refine bdc fun i8 => ?_
        show G 12 27 [some (.inr (.inr x0)), some (.inl x1), some (.inl x2), some (.inl x3), some (.inl x4), some (.inl x5), some (.inl x6), some (.inl x7), none, none] [.inl i8] u7.2 = _
        refine Eq.trans (e1 hG PT_12 k12_27 _ _ _) ?_
        refine bfc ?_ ?_
        · rfl
        · show G 12 30 [some (.inr (.inr x0)), some (.inl x1), some (.inl x2), some (.inl x3), some (.inl x4), some (.inl x5), some (.inl x6), some (.inl x7), none, none] [] u7.2 = _
          refine Eq.trans (e1 hG PT_12 k12_30 _ _ _) ?_
          show G 12 32 [some (.inr (.inr x0)), some (.inl x1), some (.inl x2), some (.inl x3), some (.inl x4), some (.inl x5), some (.inl x6), some (.inl x7), none, none] [.inl x6] u7.2 = _
          refine Eq.trans (e1 hG PT_12 k12_32 _ _ _) ?_
          refine bdc fun u9 => ?_
          refine bdc fun i10 => ?_
          show G 12 35 [some (.inr (.inr x0)), some (.inl x1), some (.inl x2), some (.inl x3), some (.inl x4), some (.inl x5), some (.inl x6), some (.inl x7), none, none] [.inl i10] u9.2 = _
          refine Eq.trans (e1 hG PT_12 k12_35 _ _ _) ?_
          refine bfc ?_ ?_
          · rfl
          · show G 12 38 [some (.inr (.inr x0)), some (.inl x1), some (.inl x2), some (.inl x3), some (.inl x4), some (.inl x5), some (.inl x6), some (.inl x7), none, none] [] u9.2 = _
            refine Eq.trans (e1 hG PT_12 k12_38 _ _ _) ?_
            show G 12 40 [some (.inr (.inr x0)), some (.inl x1), some (.inl x2), some (.inl x3), some (.inl x4), some (.inl x5), some (.inl x6), some (.inl x7), none, none] [.inl x7] u9.2 = _
            refine Eq.trans (e1 hG PT_12 k12_40 _ _ _) ?_
            refine bdc fun u11 => ?_
            refine bdc fun i12 => ?_
            show G 12 43 [some (.inr (.inr x0)), some (.inl x1), some (.inl x2), some (.inl x3), some (.inl x4), some (.inl x5), some (.inl x6), some (.inl x7), none, none] [.inl i12] u11.2 = _
            refine Eq.trans (e1 hG PT_12 k12_43 _ _ _) ?_
            refine bfc ?_ ?_
            · rfl
            · show G 12 46 [some (.inr (.inr x0)), some (.inl x1), some (.inl x2), some (.inl x3), some (.inl x4), some (.inl x5), some (.inl x6), some (.inl x7), none, none] [] u11.2 = _
              refine Eq.trans (e1 hG PT_12 k12_46 _ _ _) ?_
              show G 12 47 [some (.inr (.inr x0)), some (.inl x1), some (.inl x2), some (.inl x3), some (.inl x4), some (.inl x5), some (.inl x6), some (.inl x7), none, none] [.inl 1] u11.2 = _
              refine Eq.trans (e1 hG PT_12 k12_47 _ _ _) ?_
              rfl
theorem b12_50 {G : AG} (hG : FIX G) (x0 : Nat) (x1 : Int32) (x2 : Int32) (x3 : Int32) (x4 : Int32) (x5 : Int32) (x6 : Int32) (x7 : Int32) (H : Hp) : G 12 50 [some (.inr (.inr x0)), some (.inl x1), some (.inl x2), some (.inl x3), some (.inl x4), some (.inl x5), some (.inl x6), some (.inl x7), none, none] [] H = (G 12 51 [some (.inr (.inr x0)), some (.inl x1), some (.inl x2), some (.inl x3), some (.inl x4), some (.inl x5), some (.inl x6), some (.inl x7), none, none] [.inl 0] H) := by
  refine Eq.trans (e1 hG PT_12 k12_50 _ _ _) ?_
  rfl
theorem b12_51 {G : AG} (hG : FIX G) (x0 : Nat) (x1 : Int32) (x2 : Int32) (x3 : Int32) (x4 : Int32) (x5 : Int32) (x6 : Int32) (x7 : Int32) (s0 : Int32) (H : Hp) : G 12 51 [some (.inr (.inr x0)), some (.inl x1), some (.inl x2), some (.inl x3), some (.inl x4), some (.inl x5), some (.inl x6), some (.inl x7), none, none] [.inl s0] H = (bif decide ((x1 : Int32) < 0) then G 12 67 [some (.inr (.inr x0)), some (.inl x1), some (.inl x2), some (.inl x3), some (.inl x4), some (.inl x5), some (.inl x6), some (.inl x7), some (.inl s0), none] [] H else bif decide ((1 : Int32) < (x1 : Int32)) then G 12 67 [some (.inr (.inr x0)), some (.inl x1), some (.inl x2), some (.inl x3), some (.inl x4), some (.inl x5), some (.inl x6), some (.inl x7), some (.inl s0), none] [] H else bif decide ((s0 : Int32) ≠ 0) then bif decide ((x1 : Int32) ≠ 0) then (hgR H x0 46).bind fun r1 => G 12 85 [some (.inr (.inr x0)), some (.inl x1), some (.inl x2), some (.inl x3), some (.inl x4), some (.inl x5), some (.inl x6), some (.inl x7), some (.inl s0), none] [.inr (.inr r1)] H else (hgR H x0 45).bind fun r2 => G 12 85 [some (.inr (.inr x0)), some (.inl x1), some (.inl x2), some (.inl x3), some (.inl x4), some (.inl x5), some (.inl x6), some (.inl x7), some (.inl s0), none] [.inr (.inr r2)] H else G 12 67 [some (.inr (.inr x0)), some (.inl x1), some (.inl x2), some (.inl x3), some (.inl x4), some (.inl x5), some (.inl x6), some (.inl x7), some (.inl s0), none] [] H) := by
  refine Eq.trans (e1 hG PT_12 k12_51 _ _ _) ?_
  show G 12 53 [some (.inr (.inr x0)), some (.inl x1), some (.inl x2), some (.inl x3), some (.inl x4), some (.inl x5), some (.inl x6), some (.inl x7), some (.inl s0), none] [] H = _
  refine Eq.trans (e1 hG PT_12 k12_53 _ _ _) ?_
  show G 12 54 [some (.inr (.inr x0)), some (.inl x1), some (.inl x2), some (.inl x3), some (.inl x4), some (.inl x5), some (.inl x6), some (.inl x7), some (.inl s0), none] [.inl x1] H = _
  refine Eq.trans (e1 hG PT_12 k12_54 _ _ _) ?_
  refine bfc ?_ ?_
  · rfl
  · show G 12 57 [some (.inr (.inr x0)), some (.inl x1), some (.inl x2), some (.inl x3), some (.inl x4), some (.inl x5), some (.inl x6), some (.inl x7), some (.inl s0), none] [] H = _
    refine Eq.trans (e1 hG PT_12 k12_57 _ _ _) ?_
    show G 12 58 [some (.inr (.inr x0)), some (.inl x1), some (.inl x2), some (.inl x3), some (.inl x4), some (.inl x5), some (.inl x6), some (.inl x7), some (.inl s0), none] [.inl x1] H = _
    refine Eq.trans (e1 hG PT_12 k12_58 _ _ _) ?_
    show G 12 59 [some (.inr (.inr x0)), some (.inl x1), some (.inl x2), some (.inl x3), some (.inl x4), some (.inl x5), some (.inl x6), some (.inl x7), some (.inl s0), none] [.inl 1, .inl x1] H = _
    refine Eq.trans (e1 hG PT_12 k12_59 _ _ _) ?_
    refine bfc ?_ ?_
    · rfl
    · show G 12 62 [some (.inr (.inr x0)), some (.inl x1), some (.inl x2), some (.inl x3), some (.inl x4), some (.inl x5), some (.inl x6), some (.inl x7), some (.inl s0), none] [] H = _
      refine Eq.trans (e1 hG PT_12 k12_62 _ _ _) ?_
      show G 12 64 [some (.inr (.inr x0)), some (.inl x1), some (.inl x2), some (.inl x3), some (.inl x4), some (.inl x5), some (.inl x6), some (.inl x7), some (.inl s0), none] [.inl s0] H = _
      refine Eq.trans (e1 hG PT_12 k12_64 _ _ _) ?_
      refine bfc ?_ ?_
      · show G 12 70 [some (.inr (.inr x0)), some (.inl x1), some (.inl x2), some (.inl x3), some (.inl x4), some (.inl x5), some (.inl x6), some (.inl x7), some (.inl s0), none] [] H = _
        refine Eq.trans (e1 hG PT_12 k12_70 _ _ _) ?_
        show G 12 71 [some (.inr (.inr x0)), some (.inl x1), some (.inl x2), some (.inl x3), some (.inl x4), some (.inl x5), some (.inl x6), some (.inl x7), some (.inl s0), none] [.inl x1] H = _
        refine Eq.trans (e1 hG PT_12 k12_71 _ _ _) ?_
        refine bfc ?_ ?_
        · show G 12 81 [some (.inr (.inr x0)), some (.inl x1), some (.inl x2), some (.inl x3), some (.inl x4), some (.inl x5), some (.inl x6), some (.inl x7), some (.inl s0), none] [] H = _
          refine Eq.trans (e1 hG PT_12 k12_81 _ _ _) ?_
          show G 12 82 [some (.inr (.inr x0)), some (.inl x1), some (.inl x2), some (.inl x3), some (.inl x4), some (.inl x5), some (.inl x6), some (.inl x7), some (.inl s0), none] [.inr (.inr x0)] H = _
          refine Eq.trans (e1 hG PT_12 k12_82 _ _ _) ?_
          refine bdc fun r1 => ?_
          rfl
        · show G 12 74 [some (.inr (.inr x0)), some (.inl x1), some (.inl x2), some (.inl x3), some (.inl x4), some (.inl x5), some (.inl x6), some (.inl x7), some (.inl s0), none] [] H = _
          refine Eq.trans (e1 hG PT_12 k12_74 _ _ _) ?_
          show G 12 75 [some (.inr (.inr x0)), some (.inl x1), some (.inl x2), some (.inl x3), some (.inl x4), some (.inl x5), some (.inl x6), some (.inl x7), some (.inl s0), none] [.inr (.inr x0)] H = _
          refine Eq.trans (e1 hG PT_12 k12_75 _ _ _) ?_
          refine bdc fun r2 => ?_
          show G 12 78 [some (.inr (.inr x0)), some (.inl x1), some (.inl x2), some (.inl x3), some (.inl x4), some (.inl x5), some (.inl x6), some (.inl x7), some (.inl s0), none] [.inr (.inr r2)] H = _
          refine Eq.trans (e1 hG PT_12 k12_78 _ _ _) ?_
          rfl
      · rfl
theorem b12_67 {G : AG} (hG : FIX G) (x0 : Nat) (x1 : Int32) (x2 : Int32) (x3 : Int32) (x4 : Int32) (x5 : Int32) (x6 : Int32) (x7 : Int32) (x8 : Int32) (H : Hp) : G 12 67 [some (.inr (.inr x0)), some (.inl x1), some (.inl x2), some (.inl x3), some (.inl x4), some (.inl x5), some (.inl x6), some (.inl x7), some (.inl x8), none] [] H = (some (some (.inl ((-1000001))), H)) := by
  refine Eq.trans (e1 hG PT_12 k12_67 _ _ _) ?_
  show G 12 69 [some (.inr (.inr x0)), some (.inl x1), some (.inl x2), some (.inl x3), some (.inl x4), some (.inl x5), some (.inl x6), some (.inl x7), some (.inl x8), none] [.inl (-1000001)] H = _
  exact e1 hG PT_12 k12_69 _ _ _
theorem b12_85 {G : AG} (hG : FIX G) (x0 : Nat) (x1 : Int32) (x2 : Int32) (x3 : Int32) (x4 : Int32) (x5 : Int32) (x6 : Int32) (x7 : Int32) (x8 : Int32) (s0 : Nat) (H : Hp) : G 12 85 [some (.inr (.inr x0)), some (.inl x1), some (.inl x2), some (.inl x3), some (.inl x4), some (.inl x5), some (.inl x6), some (.inl x7), some (.inl x8), none] [.inr (.inr s0)] H = ((hSI H s0 0 x2).bind fun H1 => (hSI H1 s0 1 x3).bind fun H2 => (hSI H2 s0 2 x4).bind fun H3 => (hSI H3 s0 3 x5).bind fun H4 => (hSI H4 s0 4 x6).bind fun H5 => (hSI H5 s0 5 x7).bind fun H6 => some (some (.inl 1), H6)) := by
  refine Eq.trans (e1 hG PT_12 k12_85 _ _ _) ?_
  show G 12 87 [some (.inr (.inr x0)), some (.inl x1), some (.inl x2), some (.inl x3), some (.inl x4), some (.inl x5), some (.inl x6), some (.inl x7), some (.inl x8), some (.inr (.inr s0))] [] H = _
  refine Eq.trans (e1 hG PT_12 k12_87 _ _ _) ?_
  show G 12 89 [some (.inr (.inr x0)), some (.inl x1), some (.inl x2), some (.inl x3), some (.inl x4), some (.inl x5), some (.inl x6), some (.inl x7), some (.inl x8), some (.inr (.inr s0))] [.inr (.inr s0)] H = _
  refine Eq.trans (e1 hG PT_12 k12_89 _ _ _) ?_
  show G 12 90 [some (.inr (.inr x0)), some (.inl x1), some (.inl x2), some (.inl x3), some (.inl x4), some (.inl x5), some (.inl x6), some (.inl x7), some (.inl x8), some (.inr (.inr s0))] [.inl 0, .inr (.inr s0)] H = _
  refine Eq.trans (e1 hG PT_12 k12_90 _ _ _) ?_
  show G 12 91 [some (.inr (.inr x0)), some (.inl x1), some (.inl x2), some (.inl x3), some (.inl x4), some (.inl x5), some (.inl x6), some (.inl x7), some (.inl x8), some (.inr (.inr s0))] [.inl x2, .inl 0, .inr (.inr s0)] H = _
  refine Eq.trans (e1 hG PT_12 k12_91 _ _ _) ?_
  refine bdc fun H1 => ?_
  show G 12 92 [some (.inr (.inr x0)), some (.inl x1), some (.inl x2), some (.inl x3), some (.inl x4), some (.inl x5), some (.inl x6), some (.inl x7), some (.inl x8), some (.inr (.inr s0))] [] H1 = _
  refine Eq.trans (e1 hG PT_12 k12_92 _ _ _) ?_
  show G 12 94 [some (.inr (.inr x0)), some (.inl x1), some (.inl x2), some (.inl x3), some (.inl x4), some (.inl x5), some (.inl x6), some (.inl x7), some (.inl x8), some (.inr (.inr s0))] [.inr (.inr s0)] H1 = _
  refine Eq.trans (e1 hG PT_12 k12_94 _ _ _) ?_
  show G 12 95 [some (.inr (.inr x0)), some (.inl x1), some (.inl x2), some (.inl x3), some (.inl x4), some (.inl x5), some (.inl x6), some (.inl x7), some (.inl x8), some (.inr (.inr s0))] [.inl 1, .inr (.inr s0)] H1 = _
  refine Eq.trans (e1 hG PT_12 k12_95 _ _ _) ?_
  show G 12 96 [some (.inr (.inr x0)), some (.inl x1), some (.inl x2), some (.inl x3), some (.inl x4), some (.inl x5), some (.inl x6), some (.inl x7), some (.inl x8), some (.inr (.inr s0))] [.inl x3, .inl 1, .inr (.inr s0)] H1 = _
  refine Eq.trans (e1 hG PT_12 k12_96 _ _ _) ?_
  refine bdc fun H2 => ?_
  show G 12 97 [some (.inr (.inr x0)), some (.inl x1), some (.inl x2), some (.inl x3), some (.inl x4), some (.inl x5), some (.inl x6), some (.inl x7), some (.inl x8), some (.inr (.inr s0))] [] H2 = _
  refine Eq.trans (e1 hG PT_12 k12_97 _ _ _) ?_
  show G 12 99 [some (.inr (.inr x0)), some (.inl x1), some (.inl x2), some (.inl x3), some (.inl x4), some (.inl x5), some (.inl x6), some (.inl x7), some (.inl x8), some (.inr (.inr s0))] [.inr (.inr s0)] H2 = _
  refine Eq.trans (e1 hG PT_12 k12_99 _ _ _) ?_
  show G 12 100 [some (.inr (.inr x0)), some (.inl x1), some (.inl x2), some (.inl x3), some (.inl x4), some (.inl x5), some (.inl x6), some (.inl x7), some (.inl x8), some (.inr (.inr s0))] [.inl 2, .inr (.inr s0)] H2 = _
  refine Eq.trans (e1 hG PT_12 k12_100 _ _ _) ?_
  show G 12 102 [some (.inr (.inr x0)), some (.inl x1), some (.inl x2), some (.inl x3), some (.inl x4), some (.inl x5), some (.inl x6), some (.inl x7), some (.inl x8), some (.inr (.inr s0))] [.inl x4, .inl 2, .inr (.inr s0)] H2 = _
  refine Eq.trans (e1 hG PT_12 k12_102 _ _ _) ?_
  refine bdc fun H3 => ?_
  show G 12 103 [some (.inr (.inr x0)), some (.inl x1), some (.inl x2), some (.inl x3), some (.inl x4), some (.inl x5), some (.inl x6), some (.inl x7), some (.inl x8), some (.inr (.inr s0))] [] H3 = _
  refine Eq.trans (e1 hG PT_12 k12_103 _ _ _) ?_
  show G 12 105 [some (.inr (.inr x0)), some (.inl x1), some (.inl x2), some (.inl x3), some (.inl x4), some (.inl x5), some (.inl x6), some (.inl x7), some (.inl x8), some (.inr (.inr s0))] [.inr (.inr s0)] H3 = _
  refine Eq.trans (e1 hG PT_12 k12_105 _ _ _) ?_
  show G 12 106 [some (.inr (.inr x0)), some (.inl x1), some (.inl x2), some (.inl x3), some (.inl x4), some (.inl x5), some (.inl x6), some (.inl x7), some (.inl x8), some (.inr (.inr s0))] [.inl 3, .inr (.inr s0)] H3 = _
  refine Eq.trans (e1 hG PT_12 k12_106 _ _ _) ?_
  show G 12 108 [some (.inr (.inr x0)), some (.inl x1), some (.inl x2), some (.inl x3), some (.inl x4), some (.inl x5), some (.inl x6), some (.inl x7), some (.inl x8), some (.inr (.inr s0))] [.inl x5, .inl 3, .inr (.inr s0)] H3 = _
  refine Eq.trans (e1 hG PT_12 k12_108 _ _ _) ?_
  refine bdc fun H4 => ?_
  show G 12 109 [some (.inr (.inr x0)), some (.inl x1), some (.inl x2), some (.inl x3), some (.inl x4), some (.inl x5), some (.inl x6), some (.inl x7), some (.inl x8), some (.inr (.inr s0))] [] H4 = _
  refine Eq.trans (e1 hG PT_12 k12_109 _ _ _) ?_
  show G 12 111 [some (.inr (.inr x0)), some (.inl x1), some (.inl x2), some (.inl x3), some (.inl x4), some (.inl x5), some (.inl x6), some (.inl x7), some (.inl x8), some (.inr (.inr s0))] [.inr (.inr s0)] H4 = _
  refine Eq.trans (e1 hG PT_12 k12_111 _ _ _) ?_
  show G 12 112 [some (.inr (.inr x0)), some (.inl x1), some (.inl x2), some (.inl x3), some (.inl x4), some (.inl x5), some (.inl x6), some (.inl x7), some (.inl x8), some (.inr (.inr s0))] [.inl 4, .inr (.inr s0)] H4 = _
  refine Eq.trans (e1 hG PT_12 k12_112 _ _ _) ?_
  show G 12 114 [some (.inr (.inr x0)), some (.inl x1), some (.inl x2), some (.inl x3), some (.inl x4), some (.inl x5), some (.inl x6), some (.inl x7), some (.inl x8), some (.inr (.inr s0))] [.inl x6, .inl 4, .inr (.inr s0)] H4 = _
  refine Eq.trans (e1 hG PT_12 k12_114 _ _ _) ?_
  refine bdc fun H5 => ?_
  show G 12 115 [some (.inr (.inr x0)), some (.inl x1), some (.inl x2), some (.inl x3), some (.inl x4), some (.inl x5), some (.inl x6), some (.inl x7), some (.inl x8), some (.inr (.inr s0))] [] H5 = _
  refine Eq.trans (e1 hG PT_12 k12_115 _ _ _) ?_
  show G 12 117 [some (.inr (.inr x0)), some (.inl x1), some (.inl x2), some (.inl x3), some (.inl x4), some (.inl x5), some (.inl x6), some (.inl x7), some (.inl x8), some (.inr (.inr s0))] [.inr (.inr s0)] H5 = _
  refine Eq.trans (e1 hG PT_12 k12_117 _ _ _) ?_
  show G 12 118 [some (.inr (.inr x0)), some (.inl x1), some (.inl x2), some (.inl x3), some (.inl x4), some (.inl x5), some (.inl x6), some (.inl x7), some (.inl x8), some (.inr (.inr s0))] [.inl 5, .inr (.inr s0)] H5 = _
  refine Eq.trans (e1 hG PT_12 k12_118 _ _ _) ?_
  show G 12 120 [some (.inr (.inr x0)), some (.inl x1), some (.inl x2), some (.inl x3), some (.inl x4), some (.inl x5), some (.inl x6), some (.inl x7), some (.inl x8), some (.inr (.inr s0))] [.inl x7, .inl 5, .inr (.inr s0)] H5 = _
  refine Eq.trans (e1 hG PT_12 k12_120 _ _ _) ?_
  refine bdc fun H6 => ?_
  show G 12 121 [some (.inr (.inr x0)), some (.inl x1), some (.inl x2), some (.inl x3), some (.inl x4), some (.inl x5), some (.inl x6), some (.inl x7), some (.inl x8), some (.inr (.inr s0))] [] H6 = _
  refine Eq.trans (e1 hG PT_12 k12_121 _ _ _) ?_
  show G 12 122 [some (.inr (.inr x0)), some (.inl x1), some (.inl x2), some (.inl x3), some (.inl x4), some (.inl x5), some (.inl x6), some (.inl x7), some (.inl x8), some (.inr (.inr s0))] [.inl 1] H6 = _
  exact e1 hG PT_12 k12_122 _ _ _
-- StepsAhead.isFactor(I)Z
theorem PT_13 : PT 13 = pt13 := rfl
theorem k13_0 : lkp pt13 0 = iP 1 (fIld 0) := rfl
theorem k13_1 : lkp pt13 1 = iB 4 13 (b1 (fun x => decide (x < 0))) := rfl
theorem k13_4 : lkp pt13 4 = iP 5 (fIld 0) := rfl
theorem k13_5 : lkp pt13 5 = iP 6 (fK (.inl 2)) := rfl
theorem k13_6 : lkp pt13 6 = iB 9 13 (b2 (fun x y => decide (y < x))) := rfl
theorem k13_9 : lkp pt13 9 = iP 10 (fK (.inl 1)) := rfl
theorem k13_10 : lkp pt13 10 = iP 14 fGo := rfl
theorem k13_13 : lkp pt13 13 = iP 14 (fK (.inl 0)) := rfl
theorem k13_14 : lkp pt13 14 = iRet rZ := rfl
theorem b13_0 {G : AG} (hG : FIX G) (x0 : Int32) (H : Hp) : G 13 0 [some (.inl x0)] [] H = (bif decide ((x0 : Int32) < 0) then G 13 13 [some (.inl x0)] [] H else bif decide ((2 : Int32) < (x0 : Int32)) then G 13 13 [some (.inl x0)] [] H else G 13 14 [some (.inl x0)] [.inl 1] H) := by
  refine Eq.trans (e1 hG PT_13 k13_0 _ _ _) ?_
  show G 13 1 [some (.inl x0)] [.inl x0] H = _
  refine Eq.trans (e1 hG PT_13 k13_1 _ _ _) ?_
  refine bfc ?_ ?_
  · rfl
  · show G 13 4 [some (.inl x0)] [] H = _
    refine Eq.trans (e1 hG PT_13 k13_4 _ _ _) ?_
    show G 13 5 [some (.inl x0)] [.inl x0] H = _
    refine Eq.trans (e1 hG PT_13 k13_5 _ _ _) ?_
    show G 13 6 [some (.inl x0)] [.inl 2, .inl x0] H = _
    refine Eq.trans (e1 hG PT_13 k13_6 _ _ _) ?_
    refine bfc ?_ ?_
    · rfl
    · show G 13 9 [some (.inl x0)] [] H = _
      refine Eq.trans (e1 hG PT_13 k13_9 _ _ _) ?_
      show G 13 10 [some (.inl x0)] [.inl 1] H = _
      refine Eq.trans (e1 hG PT_13 k13_10 _ _ _) ?_
      rfl
theorem b13_13 {G : AG} (hG : FIX G) (x0 : Int32) (H : Hp) : G 13 13 [some (.inl x0)] [] H = (G 13 14 [some (.inl x0)] [.inl 0] H) := by
  refine Eq.trans (e1 hG PT_13 k13_13 _ _ _) ?_
  rfl
theorem b13_14 {G : AG} (hG : FIX G) (x0 : Int32) (s0 : Int32) (H : Hp) : G 13 14 [some (.inl x0)] [.inl s0] H = (retZ s0 H) := by
  exact e1 hG PT_13 k13_14 _ _ _
-- StepsAhead.work(II)I
theorem PT_14 : PT 14 = pt14 := rfl
theorem k14_0 : lkp pt14 0 = iP 1 (fAld 0) := rfl
theorem k14_1 : lkp pt14 1 = iP 2 (fIld 1) := rfl
theorem k14_2 : lkp pt14 2 = iCK 5 11 15 2 2 3 := rfl
theorem k14_5 : lkp pt14 5 = iP 6 (fAst 3) := rfl
theorem k14_6 : lkp pt14 6 = iP 7 (fAld 3) := rfl
theorem k14_7 : lkp pt14 7 = iB 10 21 bN := rfl
theorem k14_10 : lkp pt14 10 = iP 11 (fIld 2) := rfl
theorem k14_11 : lkp pt14 11 = iP 12 (fK (.inl 1)) := rfl
theorem k14_12 : lkp pt14 12 = iB 15 21 (b2 (fun x y => decide (x < y))) := rfl
theorem k14_15 : lkp pt14 15 = iP 16 (fIld 2) := rfl
theorem k14_16 : lkp pt14 16 = iP 18 (fK (.inl 99)) := rfl
theorem k14_18 : lkp pt14 18 = iB 21 24 (b2 (fun x y => decide (x ≤ y))) := rfl
theorem k14_21 : lkp pt14 21 = iP 23 (fK (.inl (-1000001))) := rfl
theorem k14_23 : lkp pt14 23 = iRet rI := rfl
theorem k14_24 : lkp pt14 24 = iP 25 (fAld 3) := rfl
theorem k14_25 : lkp pt14 25 = iCK 28 7 16 1 1 1 := rfl
theorem k14_28 : lkp pt14 28 = iB 31 34 (b1 (fun x => decide (x = 0))) := rfl
theorem k14_31 : lkp pt14 31 = iP 33 (fK (.inl (-1000003))) := rfl
theorem k14_33 : lkp pt14 33 = iRet rI := rfl
theorem k14_34 : lkp pt14 34 = iP 35 (fAld 0) := rfl
theorem k14_35 : lkp pt14 35 = iP 36 (fAld 3) := rfl
theorem k14_36 : lkp pt14 36 = iW 39 (wNew 10 5) := rfl
theorem k14_39 : lkp pt14 39 = iP 40 fDup := rfl
theorem k14_40 : lkp pt14 40 = iP 41 (fAld 3) := rfl
theorem k14_41 : lkp pt14 41 = iRI 44 (gtI 23) := rfl
theorem k14_44 : lkp pt14 44 = iP 45 (fAld 3) := rfl
theorem k14_45 : lkp pt14 45 = iCK 48 7 17 3 1 1 := rfl
theorem k14_48 : lkp pt14 48 = iP 49 (fIld 2) := rfl
theorem k14_49 : lkp pt14 49 = iCK 52 10 19 4 4 0 := rfl
theorem k14_52 : lkp pt14 52 = iCK 55 11 21 3 3 1 := rfl
theorem k14_55 : lkp pt14 55 = iRet rI := rfl
theorem b14_0 {G : AG} (hG : FIX G) (x0 : Nat) (x1 : Int32) (x2 : Int32) (H : Hp) : G 14 0 [some (.inr (.inr x0)), some (.inl x1), some (.inl x2), none] [] H = (bif Nat.beq (H.1 x0).1 11 then (G 15 0 [some (.inr (.inr x0)), some (.inl x1)] [] H).bind fun u1 => (asR u1.1).bind fun r2 => bif Nat.beq r2 0 then G 14 21 [some (.inr (.inr x0)), some (.inl x1), some (.inl x2), some (.inr (.inr r2))] [] u1.2 else bif decide ((x2 : Int32) < (1 : Int32)) then G 14 21 [some (.inr (.inr x0)), some (.inl x1), some (.inl x2), some (.inr (.inr r2))] [] u1.2 else bif decide ((x2 : Int32) ≤ (99 : Int32)) then bif Nat.beq (u1.2.1 r2).1 7 then (G 16 0 [some (.inr (.inr r2))] [] u1.2).bind fun u3 => (asI u3.1).bind fun i4 => bif decide ((i4 : Int32) = 0) then (hNw u3.2 10 5).bind fun H5 => (hgI H5 r2 23).bind fun i6 => bif Nat.beq (H5.1 r2).1 7 then (G 17 0 [some (.inr (.inr r2)), none, none] [] H5).bind fun u7 => (asI u7.1).bind fun i8 => bif Nat.beq (u7.2.1 u3.2.2.1.1).1 10 then (G 19 0 [some (.inr (.inr u3.2.2.1.1)), some (.inl i6), some (.inl i8), some (.inl x2)] [] u7.2).bind fun u9 => (asV u9.1).bind fun _ => bif Nat.beq (u9.2.1 x0).1 11 then (G 21 0 [some (.inr (.inr x0)), some (.inr (.inr r2)), some (.inr (.inr u3.2.2.1.1))] [] u9.2).bind fun u10 => (asI u10.1).bind fun i11 => some (some (.inl i11), u10.2) else none else none else none else some (some (.inl ((-1000003))), u3.2) else none else G 14 21 [some (.inr (.inr x0)), some (.inl x1), some (.inl x2), some (.inr (.inr r2))] [] u1.2 else none) := by
  refine Eq.trans (e1 hG PT_14 k14_0 _ _ _) ?_
  show G 14 1 [some (.inr (.inr x0)), some (.inl x1), some (.inl x2), none] [.inr (.inr x0)] H = _
  refine Eq.trans (e1 hG PT_14 k14_1 _ _ _) ?_
  show G 14 2 [some (.inr (.inr x0)), some (.inl x1), some (.inl x2), none] [.inl x1, .inr (.inr x0)] H = _
  refine Eq.trans (e1 hG PT_14 k14_2 _ _ _) ?_
  refine bfc ?_ ?_
  · refine bdc fun u1 => ?_
    refine bdc fun r2 => ?_
    show G 14 5 [some (.inr (.inr x0)), some (.inl x1), some (.inl x2), none] [.inr (.inr r2)] u1.2 = _
    refine Eq.trans (e1 hG PT_14 k14_5 _ _ _) ?_
    show G 14 6 [some (.inr (.inr x0)), some (.inl x1), some (.inl x2), some (.inr (.inr r2))] [] u1.2 = _
    refine Eq.trans (e1 hG PT_14 k14_6 _ _ _) ?_
    show G 14 7 [some (.inr (.inr x0)), some (.inl x1), some (.inl x2), some (.inr (.inr r2))] [.inr (.inr r2)] u1.2 = _
    refine Eq.trans (e1 hG PT_14 k14_7 _ _ _) ?_
    refine bfc ?_ ?_
    · rfl
    · show G 14 10 [some (.inr (.inr x0)), some (.inl x1), some (.inl x2), some (.inr (.inr r2))] [] u1.2 = _
      refine Eq.trans (e1 hG PT_14 k14_10 _ _ _) ?_
      show G 14 11 [some (.inr (.inr x0)), some (.inl x1), some (.inl x2), some (.inr (.inr r2))] [.inl x2] u1.2 = _
      refine Eq.trans (e1 hG PT_14 k14_11 _ _ _) ?_
      show G 14 12 [some (.inr (.inr x0)), some (.inl x1), some (.inl x2), some (.inr (.inr r2))] [.inl 1, .inl x2] u1.2 = _
      refine Eq.trans (e1 hG PT_14 k14_12 _ _ _) ?_
      refine bfc ?_ ?_
      · rfl
      · show G 14 15 [some (.inr (.inr x0)), some (.inl x1), some (.inl x2), some (.inr (.inr r2))] [] u1.2 = _
        refine Eq.trans (e1 hG PT_14 k14_15 _ _ _) ?_
        show G 14 16 [some (.inr (.inr x0)), some (.inl x1), some (.inl x2), some (.inr (.inr r2))] [.inl x2] u1.2 = _
        refine Eq.trans (e1 hG PT_14 k14_16 _ _ _) ?_
        show G 14 18 [some (.inr (.inr x0)), some (.inl x1), some (.inl x2), some (.inr (.inr r2))] [.inl 99, .inl x2] u1.2 = _
        refine Eq.trans (e1 hG PT_14 k14_18 _ _ _) ?_
        refine bfc ?_ ?_
        · show G 14 24 [some (.inr (.inr x0)), some (.inl x1), some (.inl x2), some (.inr (.inr r2))] [] u1.2 = _
          refine Eq.trans (e1 hG PT_14 k14_24 _ _ _) ?_
          show G 14 25 [some (.inr (.inr x0)), some (.inl x1), some (.inl x2), some (.inr (.inr r2))] [.inr (.inr r2)] u1.2 = _
          refine Eq.trans (e1 hG PT_14 k14_25 _ _ _) ?_
          refine bfc ?_ ?_
          · refine bdc fun u3 => ?_
            refine bdc fun i4 => ?_
            show G 14 28 [some (.inr (.inr x0)), some (.inl x1), some (.inl x2), some (.inr (.inr r2))] [.inl i4] u3.2 = _
            refine Eq.trans (e1 hG PT_14 k14_28 _ _ _) ?_
            refine bfc ?_ ?_
            · show G 14 34 [some (.inr (.inr x0)), some (.inl x1), some (.inl x2), some (.inr (.inr r2))] [] u3.2 = _
              refine Eq.trans (e1 hG PT_14 k14_34 _ _ _) ?_
              show G 14 35 [some (.inr (.inr x0)), some (.inl x1), some (.inl x2), some (.inr (.inr r2))] [.inr (.inr x0)] u3.2 = _
              refine Eq.trans (e1 hG PT_14 k14_35 _ _ _) ?_
              show G 14 36 [some (.inr (.inr x0)), some (.inl x1), some (.inl x2), some (.inr (.inr r2))] [.inr (.inr r2), .inr (.inr x0)] u3.2 = _
              refine Eq.trans (e1 hG PT_14 k14_36 _ _ _) ?_
              refine bdc fun H5 => ?_
              show G 14 39 [some (.inr (.inr x0)), some (.inl x1), some (.inl x2), some (.inr (.inr r2))] [.inr (.inr u3.2.2.1.1), .inr (.inr r2), .inr (.inr x0)] H5 = _
              refine Eq.trans (e1 hG PT_14 k14_39 _ _ _) ?_
              show G 14 40 [some (.inr (.inr x0)), some (.inl x1), some (.inl x2), some (.inr (.inr r2))] [.inr (.inr u3.2.2.1.1), .inr (.inr u3.2.2.1.1), .inr (.inr r2), .inr (.inr x0)] H5 = _
              refine Eq.trans (e1 hG PT_14 k14_40 _ _ _) ?_
              show G 14 41 [some (.inr (.inr x0)), some (.inl x1), some (.inl x2), some (.inr (.inr r2))] [.inr (.inr r2), .inr (.inr u3.2.2.1.1), .inr (.inr u3.2.2.1.1), .inr (.inr r2), .inr (.inr x0)] H5 = _
              refine Eq.trans (e1 hG PT_14 k14_41 _ _ _) ?_
              refine bdc fun i6 => ?_
              show G 14 44 [some (.inr (.inr x0)), some (.inl x1), some (.inl x2), some (.inr (.inr r2))] [.inl i6, .inr (.inr u3.2.2.1.1), .inr (.inr u3.2.2.1.1), .inr (.inr r2), .inr (.inr x0)] H5 = _
              refine Eq.trans (e1 hG PT_14 k14_44 _ _ _) ?_
              show G 14 45 [some (.inr (.inr x0)), some (.inl x1), some (.inl x2), some (.inr (.inr r2))] [.inr (.inr r2), .inl i6, .inr (.inr u3.2.2.1.1), .inr (.inr u3.2.2.1.1), .inr (.inr r2), .inr (.inr x0)] H5 = _
              refine Eq.trans (e1 hG PT_14 k14_45 _ _ _) ?_
              refine bfc ?_ ?_
              · refine bdc fun u7 => ?_
                refine bdc fun i8 => ?_
                show G 14 48 [some (.inr (.inr x0)), some (.inl x1), some (.inl x2), some (.inr (.inr r2))] [.inl i8, .inl i6, .inr (.inr u3.2.2.1.1), .inr (.inr u3.2.2.1.1), .inr (.inr r2), .inr (.inr x0)] u7.2 = _
                refine Eq.trans (e1 hG PT_14 k14_48 _ _ _) ?_
                show G 14 49 [some (.inr (.inr x0)), some (.inl x1), some (.inl x2), some (.inr (.inr r2))] [.inl x2, .inl i8, .inl i6, .inr (.inr u3.2.2.1.1), .inr (.inr u3.2.2.1.1), .inr (.inr r2), .inr (.inr x0)] u7.2 = _
                refine Eq.trans (e1 hG PT_14 k14_49 _ _ _) ?_
                refine bfc ?_ ?_
                · refine bdc fun u9 => ?_
                  refine bdc fun _ => ?_
                  show G 14 52 [some (.inr (.inr x0)), some (.inl x1), some (.inl x2), some (.inr (.inr r2))] [.inr (.inr u3.2.2.1.1), .inr (.inr r2), .inr (.inr x0)] u9.2 = _
                  refine Eq.trans (e1 hG PT_14 k14_52 _ _ _) ?_
                  refine bfc ?_ ?_
                  · refine bdc fun u10 => ?_
                    refine bdc fun i11 => ?_
                    show G 14 55 [some (.inr (.inr x0)), some (.inl x1), some (.inl x2), some (.inr (.inr r2))] [.inl i11] u10.2 = _
                    exact e1 hG PT_14 k14_55 _ _ _
                  · rfl
                · rfl
              · rfl
            · show G 14 31 [some (.inr (.inr x0)), some (.inl x1), some (.inl x2), some (.inr (.inr r2))] [] u3.2 = _
              refine Eq.trans (e1 hG PT_14 k14_31 _ _ _) ?_
              show G 14 33 [some (.inr (.inr x0)), some (.inl x1), some (.inl x2), some (.inr (.inr r2))] [.inl (-1000003)] u3.2 = _
              exact e1 hG PT_14 k14_33 _ _ _
          · rfl
        · rfl
  · rfl
theorem b14_21 {G : AG} (hG : FIX G) (x0 : Nat) (x1 : Int32) (x2 : Int32) (x3 : Nat) (H : Hp) : G 14 21 [some (.inr (.inr x0)), some (.inl x1), some (.inl x2), some (.inr (.inr x3))] [] H = (some (some (.inl ((-1000001))), H)) := by
  refine Eq.trans (e1 hG PT_14 k14_21 _ _ _) ?_
  show G 14 23 [some (.inr (.inr x0)), some (.inl x1), some (.inl x2), some (.inr (.inr x3))] [.inl (-1000001)] H = _
  exact e1 hG PT_14 k14_23 _ _ _
-- StepsAhead.found(I)LStepsAhead$Routine;
theorem PT_15 : PT 15 = pt15 := rfl
theorem k15_0 : lkp pt15 0 = iP 1 (fIld 1) := rfl
theorem k15_1 : lkp pt15 1 = iB 4 18 (b1 (fun x => decide (x < 0))) := rfl
theorem k15_4 : lkp pt15 4 = iP 5 (fIld 1) := rfl
theorem k15_5 : lkp pt15 5 = iP 6 (fAld 0) := rfl
theorem k15_6 : lkp pt15 6 = iRI 9 (gtI 44) := rfl
theorem k15_9 : lkp pt15 9 = iB 12 18 (b2 (fun x y => decide (y ≤ x))) := rfl
theorem k15_12 : lkp pt15 12 = iP 13 (fIld 1) := rfl
theorem k15_13 : lkp pt15 13 = iP 15 (fK (.inl 8)) := rfl
theorem k15_15 : lkp pt15 15 = iB 18 22 (b2 (fun x y => decide (x < y))) := rfl
theorem k15_18 : lkp pt15 18 = iP 19 (fK (.inr (.inr 0))) := rfl
theorem k15_19 : lkp pt15 19 = iP 28 fGo := rfl
theorem k15_22 : lkp pt15 22 = iP 23 (fAld 0) := rfl
theorem k15_23 : lkp pt15 23 = iRR 26 (gtR 43) := rfl
theorem k15_26 : lkp pt15 26 = iP 27 (fIld 1) := rfl
theorem k15_27 : lkp pt15 27 = iRR 28 qAR := rfl
theorem k15_28 : lkp pt15 28 = iRet rA := rfl
theorem b15_0 {G : AG} (hG : FIX G) (x0 : Nat) (x1 : Int32) (H : Hp) : G 15 0 [some (.inr (.inr x0)), some (.inl x1)] [] H = (bif decide ((x1 : Int32) < 0) then G 15 18 [some (.inr (.inr x0)), some (.inl x1)] [] H else (hgI H x0 44).bind fun i1 => bif decide ((i1 : Int32) ≤ (x1 : Int32)) then G 15 18 [some (.inr (.inr x0)), some (.inl x1)] [] H else bif decide ((x1 : Int32) < (8 : Int32)) then (hgR H x0 43).bind fun r2 => (hAR H r2 x1).bind fun r3 => G 15 28 [some (.inr (.inr x0)), some (.inl x1)] [.inr (.inr r3)] H else G 15 18 [some (.inr (.inr x0)), some (.inl x1)] [] H) := by
  refine Eq.trans (e1 hG PT_15 k15_0 _ _ _) ?_
  show G 15 1 [some (.inr (.inr x0)), some (.inl x1)] [.inl x1] H = _
  refine Eq.trans (e1 hG PT_15 k15_1 _ _ _) ?_
  refine bfc ?_ ?_
  · rfl
  · show G 15 4 [some (.inr (.inr x0)), some (.inl x1)] [] H = _
    refine Eq.trans (e1 hG PT_15 k15_4 _ _ _) ?_
    show G 15 5 [some (.inr (.inr x0)), some (.inl x1)] [.inl x1] H = _
    refine Eq.trans (e1 hG PT_15 k15_5 _ _ _) ?_
    show G 15 6 [some (.inr (.inr x0)), some (.inl x1)] [.inr (.inr x0), .inl x1] H = _
    refine Eq.trans (e1 hG PT_15 k15_6 _ _ _) ?_
    refine bdc fun i1 => ?_
    show G 15 9 [some (.inr (.inr x0)), some (.inl x1)] [.inl i1, .inl x1] H = _
    refine Eq.trans (e1 hG PT_15 k15_9 _ _ _) ?_
    refine bfc ?_ ?_
    · rfl
    · show G 15 12 [some (.inr (.inr x0)), some (.inl x1)] [] H = _
      refine Eq.trans (e1 hG PT_15 k15_12 _ _ _) ?_
      show G 15 13 [some (.inr (.inr x0)), some (.inl x1)] [.inl x1] H = _
      refine Eq.trans (e1 hG PT_15 k15_13 _ _ _) ?_
      show G 15 15 [some (.inr (.inr x0)), some (.inl x1)] [.inl 8, .inl x1] H = _
      refine Eq.trans (e1 hG PT_15 k15_15 _ _ _) ?_
      refine bfc ?_ ?_
      · show G 15 22 [some (.inr (.inr x0)), some (.inl x1)] [] H = _
        refine Eq.trans (e1 hG PT_15 k15_22 _ _ _) ?_
        show G 15 23 [some (.inr (.inr x0)), some (.inl x1)] [.inr (.inr x0)] H = _
        refine Eq.trans (e1 hG PT_15 k15_23 _ _ _) ?_
        refine bdc fun r2 => ?_
        show G 15 26 [some (.inr (.inr x0)), some (.inl x1)] [.inr (.inr r2)] H = _
        refine Eq.trans (e1 hG PT_15 k15_26 _ _ _) ?_
        show G 15 27 [some (.inr (.inr x0)), some (.inl x1)] [.inl x1, .inr (.inr r2)] H = _
        refine Eq.trans (e1 hG PT_15 k15_27 _ _ _) ?_
        refine bdc fun r3 => ?_
        rfl
      · rfl
theorem b15_18 {G : AG} (hG : FIX G) (x0 : Nat) (x1 : Int32) (H : Hp) : G 15 18 [some (.inr (.inr x0)), some (.inl x1)] [] H = (G 15 28 [some (.inr (.inr x0)), some (.inl x1)] [.inr (.inr 0)] H) := by
  refine Eq.trans (e1 hG PT_15 k15_18 _ _ _) ?_
  show G 15 19 [some (.inr (.inr x0)), some (.inl x1)] [.inr (.inr 0)] H = _
  refine Eq.trans (e1 hG PT_15 k15_19 _ _ _) ?_
  rfl
theorem b15_28 {G : AG} (hG : FIX G) (x0 : Nat) (x1 : Int32) (s0 : Nat) (H : Hp) : G 15 28 [some (.inr (.inr x0)), some (.inl x1)] [.inr (.inr s0)] H = (some (some (.inr (.inr s0)), H)) := by
  exact e1 hG PT_15 k15_28 _ _ _
-- StepsAhead$Routine.hasNoRoom()Z
theorem PT_16 : PT 16 = pt16 := rfl
theorem k16_0 : lkp pt16 0 = iP 1 (fAld 0) := rfl
theorem k16_1 : lkp pt16 1 = iRI 4 (gtI 23) := rfl
theorem k16_4 : lkp pt16 4 = iP 6 (fK (.inl 24)) := rfl
theorem k16_6 : lkp pt16 6 = iB 9 13 (b2 (fun x y => decide (x < y))) := rfl
theorem k16_9 : lkp pt16 9 = iP 10 (fK (.inl 1)) := rfl
theorem k16_10 : lkp pt16 10 = iP 14 fGo := rfl
theorem k16_13 : lkp pt16 13 = iP 14 (fK (.inl 0)) := rfl
theorem k16_14 : lkp pt16 14 = iRet rZ := rfl
theorem b16_0 {G : AG} (hG : FIX G) (x0 : Nat) (H : Hp) : G 16 0 [some (.inr (.inr x0))] [] H = ((hgI H x0 23).bind fun i1 => bif decide ((i1 : Int32) < (24 : Int32)) then G 16 14 [some (.inr (.inr x0))] [.inl 0] H else G 16 14 [some (.inr (.inr x0))] [.inl 1] H) := by
  refine Eq.trans (e1 hG PT_16 k16_0 _ _ _) ?_
  show G 16 1 [some (.inr (.inr x0))] [.inr (.inr x0)] H = _
  refine Eq.trans (e1 hG PT_16 k16_1 _ _ _) ?_
  refine bdc fun i1 => ?_
  show G 16 4 [some (.inr (.inr x0))] [.inl i1] H = _
  refine Eq.trans (e1 hG PT_16 k16_4 _ _ _) ?_
  show G 16 6 [some (.inr (.inr x0))] [.inl 24, .inl i1] H = _
  refine Eq.trans (e1 hG PT_16 k16_6 _ _ _) ?_
  refine bfc ?_ ?_
  · show G 16 13 [some (.inr (.inr x0))] [] H = _
    refine Eq.trans (e1 hG PT_16 k16_13 _ _ _) ?_
    rfl
  · show G 16 9 [some (.inr (.inr x0))] [] H = _
    refine Eq.trans (e1 hG PT_16 k16_9 _ _ _) ?_
    show G 16 10 [some (.inr (.inr x0))] [.inl 1] H = _
    refine Eq.trans (e1 hG PT_16 k16_10 _ _ _) ?_
    rfl
theorem b16_14 {G : AG} (hG : FIX G) (x0 : Nat) (s0 : Int32) (H : Hp) : G 16 14 [some (.inr (.inr x0))] [.inl s0] H = (retZ s0 H) := by
  exact e1 hG PT_16 k16_14 _ _ _
-- StepsAhead$Routine.openLoops()I
theorem PT_17 : PT 17 = pt17 := rfl
theorem k17_0 : lkp pt17 0 = iP 1 (fK (.inl 0)) := rfl
theorem k17_1 : lkp pt17 1 = iP 2 (fIst 1) := rfl
theorem k17_2 : lkp pt17 2 = iP 3 (fK (.inl 0)) := rfl
theorem k17_3 : lkp pt17 3 = iP 4 (fIst 2) := rfl
theorem k17_4 : lkp pt17 4 = iP 5 (fIld 2) := rfl
theorem k17_5 : lkp pt17 5 = iP 6 (fAld 0) := rfl
theorem k17_6 : lkp pt17 6 = iRI 9 (gtI 25) := rfl
theorem k17_9 : lkp pt17 9 = iB 12 43 (b2 (fun x y => decide (y ≤ x))) := rfl
theorem k17_12 : lkp pt17 12 = iP 13 (fIld 2) := rfl
theorem k17_13 : lkp pt17 13 = iP 15 (fK (.inl 24)) := rfl
theorem k17_15 : lkp pt17 15 = iB 18 43 (b2 (fun x y => decide (y ≤ x))) := rfl
theorem k17_18 : lkp pt17 18 = iP 19 (fAld 0) := rfl
theorem k17_19 : lkp pt17 19 = iP 20 (fAld 0) := rfl
theorem k17_20 : lkp pt17 20 = iRR 23 (gtR 24) := rfl
theorem k17_23 : lkp pt17 23 = iP 24 (fIld 2) := rfl
theorem k17_24 : lkp pt17 24 = iRI 25 qAI := rfl
theorem k17_25 : lkp pt17 25 = iCK 28 7 18 2 2 3 := rfl
theorem k17_28 : lkp pt17 28 = iRI 31 (qInst [3] [1, 2, 4, 10]) := rfl
theorem k17_31 : lkp pt17 31 = iB 34 37 (b1 (fun x => decide (x = 0))) := rfl
theorem k17_34 : lkp pt17 34 = iP 37 (fInc 1 1) := rfl
theorem k17_37 : lkp pt17 37 = iP 40 (fInc 2 1) := rfl
theorem k17_40 : lkp pt17 40 = iP 4 fGo := rfl
theorem k17_43 : lkp pt17 43 = iP 44 (fIld 1) := rfl
theorem k17_44 : lkp pt17 44 = iRet rI := rfl
theorem b17_0 {G : AG} (hG : FIX G) (x0 : Nat) (H : Hp) : G 17 0 [some (.inr (.inr x0)), none, none] [] H = (G 17 4 [some (.inr (.inr x0)), some (.inl 0), some (.inl 0)] [] H) := by
  refine Eq.trans (e1 hG PT_17 k17_0 _ _ _) ?_
  show G 17 1 [some (.inr (.inr x0)), none, none] [.inl 0] H = _
  refine Eq.trans (e1 hG PT_17 k17_1 _ _ _) ?_
  show G 17 2 [some (.inr (.inr x0)), some (.inl 0), none] [] H = _
  refine Eq.trans (e1 hG PT_17 k17_2 _ _ _) ?_
  show G 17 3 [some (.inr (.inr x0)), some (.inl 0), none] [.inl 0] H = _
  refine Eq.trans (e1 hG PT_17 k17_3 _ _ _) ?_
  rfl
theorem b17_4 {G : AG} (hG : FIX G) (x0 : Nat) (x1 : Int32) (x2 : Int32) (H : Hp) : G 17 4 [some (.inr (.inr x0)), some (.inl x1), some (.inl x2)] [] H = ((hgI H x0 25).bind fun i1 => bif decide ((i1 : Int32) ≤ (x2 : Int32)) then G 17 43 [some (.inr (.inr x0)), some (.inl x1), some (.inl x2)] [] H else bif decide ((24 : Int32) ≤ (x2 : Int32)) then G 17 43 [some (.inr (.inr x0)), some (.inl x1), some (.inl x2)] [] H else (hgR H x0 24).bind fun r2 => (hAI H r2 x2).bind fun i3 => bif Nat.beq (H.1 x0).1 7 then (G 18 0 [some (.inr (.inr x0)), some (.inl i3)] [] H).bind fun u4 => (asR u4.1).bind fun r5 => ((bif Nat.beq r5 0 then some (0 : Int32) else bif [3].any (Nat.beq (u4.2.1 r5).1) then some 1 else bif [1, 2, 4, 10].any (Nat.beq (u4.2.1 r5).1) then some 0 else none)).bind fun i6 => bif decide ((i6 : Int32) = 0) then G 17 37 [some (.inr (.inr x0)), some (.inl x1), some (.inl x2)] [] u4.2 else G 17 37 [some (.inr (.inr x0)), some (.inl (x1 + 1)), some (.inl x2)] [] u4.2 else none) := by
  refine Eq.trans (e1 hG PT_17 k17_4 _ _ _) ?_
  show G 17 5 [some (.inr (.inr x0)), some (.inl x1), some (.inl x2)] [.inl x2] H = _
  refine Eq.trans (e1 hG PT_17 k17_5 _ _ _) ?_
  show G 17 6 [some (.inr (.inr x0)), some (.inl x1), some (.inl x2)] [.inr (.inr x0), .inl x2] H = _
  refine Eq.trans (e1 hG PT_17 k17_6 _ _ _) ?_
  refine bdc fun i1 => ?_
  show G 17 9 [some (.inr (.inr x0)), some (.inl x1), some (.inl x2)] [.inl i1, .inl x2] H = _
  refine Eq.trans (e1 hG PT_17 k17_9 _ _ _) ?_
  refine bfc ?_ ?_
  · rfl
  · show G 17 12 [some (.inr (.inr x0)), some (.inl x1), some (.inl x2)] [] H = _
    refine Eq.trans (e1 hG PT_17 k17_12 _ _ _) ?_
    show G 17 13 [some (.inr (.inr x0)), some (.inl x1), some (.inl x2)] [.inl x2] H = _
    refine Eq.trans (e1 hG PT_17 k17_13 _ _ _) ?_
    show G 17 15 [some (.inr (.inr x0)), some (.inl x1), some (.inl x2)] [.inl 24, .inl x2] H = _
    refine Eq.trans (e1 hG PT_17 k17_15 _ _ _) ?_
    refine bfc ?_ ?_
    · rfl
    · show G 17 18 [some (.inr (.inr x0)), some (.inl x1), some (.inl x2)] [] H = _
      refine Eq.trans (e1 hG PT_17 k17_18 _ _ _) ?_
      show G 17 19 [some (.inr (.inr x0)), some (.inl x1), some (.inl x2)] [.inr (.inr x0)] H = _
      refine Eq.trans (e1 hG PT_17 k17_19 _ _ _) ?_
      show G 17 20 [some (.inr (.inr x0)), some (.inl x1), some (.inl x2)] [.inr (.inr x0), .inr (.inr x0)] H = _
      refine Eq.trans (e1 hG PT_17 k17_20 _ _ _) ?_
      refine bdc fun r2 => ?_
      show G 17 23 [some (.inr (.inr x0)), some (.inl x1), some (.inl x2)] [.inr (.inr r2), .inr (.inr x0)] H = _
      refine Eq.trans (e1 hG PT_17 k17_23 _ _ _) ?_
      show G 17 24 [some (.inr (.inr x0)), some (.inl x1), some (.inl x2)] [.inl x2, .inr (.inr r2), .inr (.inr x0)] H = _
      refine Eq.trans (e1 hG PT_17 k17_24 _ _ _) ?_
      refine bdc fun i3 => ?_
      show G 17 25 [some (.inr (.inr x0)), some (.inl x1), some (.inl x2)] [.inl i3, .inr (.inr x0)] H = _
      refine Eq.trans (e1 hG PT_17 k17_25 _ _ _) ?_
      refine bfc ?_ ?_
      · refine bdc fun u4 => ?_
        refine bdc fun r5 => ?_
        show G 17 28 [some (.inr (.inr x0)), some (.inl x1), some (.inl x2)] [.inr (.inr r5)] u4.2 = _
        refine Eq.trans (e1 hG PT_17 k17_28 _ _ _) ?_
        refine bdc fun i6 => ?_
        show G 17 31 [some (.inr (.inr x0)), some (.inl x1), some (.inl x2)] [.inl i6] u4.2 = _
        refine Eq.trans (e1 hG PT_17 k17_31 _ _ _) ?_
        refine bfc ?_ ?_
        · rfl
        · show G 17 34 [some (.inr (.inr x0)), some (.inl x1), some (.inl x2)] [] u4.2 = _
          refine Eq.trans (e1 hG PT_17 k17_34 _ _ _) ?_
          rfl
      · rfl
theorem b17_37 {G : AG} (hG : FIX G) (x0 : Nat) (x1 : Int32) (x2 : Int32) (H : Hp) : G 17 37 [some (.inr (.inr x0)), some (.inl x1), some (.inl x2)] [] H = (G 17 4 [some (.inr (.inr x0)), some (.inl x1), some (.inl (x2 + 1))] [] H) := by
  refine Eq.trans (e1 hG PT_17 k17_37 _ _ _) ?_
  show G 17 40 [some (.inr (.inr x0)), some (.inl x1), some (.inl (x2 + 1))] [] H = _
  refine Eq.trans (e1 hG PT_17 k17_40 _ _ _) ?_
  rfl
theorem b17_43 {G : AG} (hG : FIX G) (x0 : Nat) (x1 : Int32) (x2 : Int32) (H : Hp) : G 17 43 [some (.inr (.inr x0)), some (.inl x1), some (.inl x2)] [] H = (some (some (.inl x1), H)) := by
  refine Eq.trans (e1 hG PT_17 k17_43 _ _ _) ?_
  show G 17 44 [some (.inr (.inr x0)), some (.inl x1), some (.inl x2)] [.inl x1] H = _
  exact e1 hG PT_17 k17_44 _ _ _
-- StepsAhead$Routine.opAt(I)LStepsAhead$Op;
theorem PT_18 : PT 18 = pt18 := rfl
theorem k18_0 : lkp pt18 0 = iP 1 (fIld 1) := rfl
theorem k18_1 : lkp pt18 1 = iB 4 18 (b1 (fun x => decide (x < 0))) := rfl
theorem k18_4 : lkp pt18 4 = iP 5 (fIld 1) := rfl
theorem k18_5 : lkp pt18 5 = iP 6 (fAld 0) := rfl
theorem k18_6 : lkp pt18 6 = iRI 9 (gtI 23) := rfl
theorem k18_9 : lkp pt18 9 = iB 12 18 (b2 (fun x y => decide (y ≤ x))) := rfl
theorem k18_12 : lkp pt18 12 = iP 13 (fIld 1) := rfl
theorem k18_13 : lkp pt18 13 = iP 15 (fK (.inl 24)) := rfl
theorem k18_15 : lkp pt18 15 = iB 18 22 (b2 (fun x y => decide (x < y))) := rfl
theorem k18_18 : lkp pt18 18 = iP 19 (fK (.inr (.inr 0))) := rfl
theorem k18_19 : lkp pt18 19 = iP 28 fGo := rfl
theorem k18_22 : lkp pt18 22 = iP 23 (fAld 0) := rfl
theorem k18_23 : lkp pt18 23 = iRR 26 (gtR 22) := rfl
theorem k18_26 : lkp pt18 26 = iP 27 (fIld 1) := rfl
theorem k18_27 : lkp pt18 27 = iRR 28 qAR := rfl
theorem k18_28 : lkp pt18 28 = iRet rA := rfl
theorem b18_0 {G : AG} (hG : FIX G) (x0 : Nat) (x1 : Int32) (H : Hp) : G 18 0 [some (.inr (.inr x0)), some (.inl x1)] [] H = (bif decide ((x1 : Int32) < 0) then G 18 18 [some (.inr (.inr x0)), some (.inl x1)] [] H else (hgI H x0 23).bind fun i1 => bif decide ((i1 : Int32) ≤ (x1 : Int32)) then G 18 18 [some (.inr (.inr x0)), some (.inl x1)] [] H else bif decide ((x1 : Int32) < (24 : Int32)) then (hgR H x0 22).bind fun r2 => (hAR H r2 x1).bind fun r3 => G 18 28 [some (.inr (.inr x0)), some (.inl x1)] [.inr (.inr r3)] H else G 18 18 [some (.inr (.inr x0)), some (.inl x1)] [] H) := by
  refine Eq.trans (e1 hG PT_18 k18_0 _ _ _) ?_
  show G 18 1 [some (.inr (.inr x0)), some (.inl x1)] [.inl x1] H = _
  refine Eq.trans (e1 hG PT_18 k18_1 _ _ _) ?_
  refine bfc ?_ ?_
  · rfl
  · show G 18 4 [some (.inr (.inr x0)), some (.inl x1)] [] H = _
    refine Eq.trans (e1 hG PT_18 k18_4 _ _ _) ?_
    show G 18 5 [some (.inr (.inr x0)), some (.inl x1)] [.inl x1] H = _
    refine Eq.trans (e1 hG PT_18 k18_5 _ _ _) ?_
    show G 18 6 [some (.inr (.inr x0)), some (.inl x1)] [.inr (.inr x0), .inl x1] H = _
    refine Eq.trans (e1 hG PT_18 k18_6 _ _ _) ?_
    refine bdc fun i1 => ?_
    show G 18 9 [some (.inr (.inr x0)), some (.inl x1)] [.inl i1, .inl x1] H = _
    refine Eq.trans (e1 hG PT_18 k18_9 _ _ _) ?_
    refine bfc ?_ ?_
    · rfl
    · show G 18 12 [some (.inr (.inr x0)), some (.inl x1)] [] H = _
      refine Eq.trans (e1 hG PT_18 k18_12 _ _ _) ?_
      show G 18 13 [some (.inr (.inr x0)), some (.inl x1)] [.inl x1] H = _
      refine Eq.trans (e1 hG PT_18 k18_13 _ _ _) ?_
      show G 18 15 [some (.inr (.inr x0)), some (.inl x1)] [.inl 24, .inl x1] H = _
      refine Eq.trans (e1 hG PT_18 k18_15 _ _ _) ?_
      refine bfc ?_ ?_
      · show G 18 22 [some (.inr (.inr x0)), some (.inl x1)] [] H = _
        refine Eq.trans (e1 hG PT_18 k18_22 _ _ _) ?_
        show G 18 23 [some (.inr (.inr x0)), some (.inl x1)] [.inr (.inr x0)] H = _
        refine Eq.trans (e1 hG PT_18 k18_23 _ _ _) ?_
        refine bdc fun r2 => ?_
        show G 18 26 [some (.inr (.inr x0)), some (.inl x1)] [.inr (.inr r2)] H = _
        refine Eq.trans (e1 hG PT_18 k18_26 _ _ _) ?_
        show G 18 27 [some (.inr (.inr x0)), some (.inl x1)] [.inl x1, .inr (.inr r2)] H = _
        refine Eq.trans (e1 hG PT_18 k18_27 _ _ _) ?_
        refine bdc fun r3 => ?_
        rfl
      · rfl
theorem b18_18 {G : AG} (hG : FIX G) (x0 : Nat) (x1 : Int32) (H : Hp) : G 18 18 [some (.inr (.inr x0)), some (.inl x1)] [] H = (G 18 28 [some (.inr (.inr x0)), some (.inl x1)] [.inr (.inr 0)] H) := by
  refine Eq.trans (e1 hG PT_18 k18_18 _ _ _) ?_
  show G 18 19 [some (.inr (.inr x0)), some (.inl x1)] [.inr (.inr 0)] H = _
  refine Eq.trans (e1 hG PT_18 k18_19 _ _ _) ?_
  rfl
theorem b18_28 {G : AG} (hG : FIX G) (x0 : Nat) (x1 : Int32) (s0 : Nat) (H : Hp) : G 18 28 [some (.inr (.inr x0)), some (.inl x1)] [.inr (.inr s0)] H = (some (some (.inr (.inr s0)), H)) := by
  exact e1 hG PT_18 k18_28 _ _ _
-- StepsAhead$Work.<init>(III)V
theorem PT_19 : PT 19 = pt19 := rfl
theorem k19_0 : lkp pt19 0 = iP 1 (fAld 0) := rfl
theorem k19_1 : lkp pt19 1 = iP 2 (fK (.inl 1)) := rfl
theorem k19_2 : lkp pt19 2 = iP 3 (fIld 1) := rfl
theorem k19_3 : lkp pt19 3 = iP 4 (fIld 2) := rfl
theorem k19_4 : lkp pt19 4 = iP 5 (fK (.inl (-1))) := rfl
theorem k19_5 : lkp pt19 5 = iCK 8 10 20 5 5 0 := rfl
theorem k19_8 : lkp pt19 8 = iP 9 (fAld 0) := rfl
theorem k19_9 : lkp pt19 9 = iP 10 (fIld 3) := rfl
theorem k19_10 : lkp pt19 10 = iW 13 (ptI 42) := rfl
theorem k19_13 : lkp pt19 13 = iRet rV := rfl
theorem b19_0 {G : AG} (hG : FIX G) (x0 : Nat) (x1 : Int32) (x2 : Int32) (x3 : Int32) (H : Hp) : G 19 0 [some (.inr (.inr x0)), some (.inl x1), some (.inl x2), some (.inl x3)] [] H = (bif Nat.beq (H.1 x0).1 10 then (G 20 0 [some (.inr (.inr x0)), some (.inl 1), some (.inl x1), some (.inl x2), some (.inl ((-1)))] [] H).bind fun u1 => (asV u1.1).bind fun _ => (hpI u1.2 x0 42 x3).bind fun H2 => some (none, H2) else none) := by
  refine Eq.trans (e1 hG PT_19 k19_0 _ _ _) ?_
  show G 19 1 [some (.inr (.inr x0)), some (.inl x1), some (.inl x2), some (.inl x3)] [.inr (.inr x0)] H = _
  refine Eq.trans (e1 hG PT_19 k19_1 _ _ _) ?_
  show G 19 2 [some (.inr (.inr x0)), some (.inl x1), some (.inl x2), some (.inl x3)] [.inl 1, .inr (.inr x0)] H = _
  refine Eq.trans (e1 hG PT_19 k19_2 _ _ _) ?_
  show G 19 3 [some (.inr (.inr x0)), some (.inl x1), some (.inl x2), some (.inl x3)] [.inl x1, .inl 1, .inr (.inr x0)] H = _
  refine Eq.trans (e1 hG PT_19 k19_3 _ _ _) ?_
  show G 19 4 [some (.inr (.inr x0)), some (.inl x1), some (.inl x2), some (.inl x3)] [.inl x2, .inl x1, .inl 1, .inr (.inr x0)] H = _
  refine Eq.trans (e1 hG PT_19 k19_4 _ _ _) ?_
  show G 19 5 [some (.inr (.inr x0)), some (.inl x1), some (.inl x2), some (.inl x3)] [.inl (-1), .inl x2, .inl x1, .inl 1, .inr (.inr x0)] H = _
  refine Eq.trans (e1 hG PT_19 k19_5 _ _ _) ?_
  refine bfc ?_ ?_
  · refine bdc fun u1 => ?_
    refine bdc fun _ => ?_
    show G 19 8 [some (.inr (.inr x0)), some (.inl x1), some (.inl x2), some (.inl x3)] [] u1.2 = _
    refine Eq.trans (e1 hG PT_19 k19_8 _ _ _) ?_
    show G 19 9 [some (.inr (.inr x0)), some (.inl x1), some (.inl x2), some (.inl x3)] [.inr (.inr x0)] u1.2 = _
    refine Eq.trans (e1 hG PT_19 k19_9 _ _ _) ?_
    show G 19 10 [some (.inr (.inr x0)), some (.inl x1), some (.inl x2), some (.inl x3)] [.inl x3, .inr (.inr x0)] u1.2 = _
    refine Eq.trans (e1 hG PT_19 k19_10 _ _ _) ?_
    refine bdc fun H2 => ?_
    show G 19 13 [some (.inr (.inr x0)), some (.inl x1), some (.inl x2), some (.inl x3)] [] H2 = _
    exact e1 hG PT_19 k19_13 _ _ _
  · rfl
-- StepsAhead$Op.<init>(IIII)V
theorem PT_20 : PT 20 = pt20 := rfl
theorem k20_0 : lkp pt20 0 = iP 1 (fAld 0) := rfl
theorem k20_1 : lkp pt20 1 = iW 4 wObj := rfl
theorem k20_4 : lkp pt20 4 = iP 5 (fAld 0) := rfl
theorem k20_5 : lkp pt20 5 = iP 6 (fIld 1) := rfl
theorem k20_6 : lkp pt20 6 = iW 9 (ptI 1) := rfl
theorem k20_9 : lkp pt20 9 = iP 10 (fAld 0) := rfl
theorem k20_10 : lkp pt20 10 = iP 11 (fIld 2) := rfl
theorem k20_11 : lkp pt20 11 = iW 14 (ptI 2) := rfl
theorem k20_14 : lkp pt20 14 = iP 15 (fAld 0) := rfl
theorem k20_15 : lkp pt20 15 = iP 16 (fIld 3) := rfl
theorem k20_16 : lkp pt20 16 = iW 19 (ptI 3) := rfl
theorem k20_19 : lkp pt20 19 = iP 20 (fAld 0) := rfl
theorem k20_20 : lkp pt20 20 = iP 22 (fIld 4) := rfl
theorem k20_22 : lkp pt20 22 = iW 25 (ptI 4) := rfl
theorem k20_25 : lkp pt20 25 = iRet rV := rfl
theorem b20_0 {G : AG} (hG : FIX G) (x0 : Nat) (x1 : Int32) (x2 : Int32) (x3 : Int32) (x4 : Int32) (H : Hp) : G 20 0 [some (.inr (.inr x0)), some (.inl x1), some (.inl x2), some (.inl x3), some (.inl x4)] [] H = (((bif Nat.beq x0 0 || false then none else some H)).bind fun H1 => (hpI H1 x0 1 x1).bind fun H2 => (hpI H2 x0 2 x2).bind fun H3 => (hpI H3 x0 3 x3).bind fun H4 => (hpI H4 x0 4 x4).bind fun H5 => some (none, H5)) := by
  refine Eq.trans (e1 hG PT_20 k20_0 _ _ _) ?_
  show G 20 1 [some (.inr (.inr x0)), some (.inl x1), some (.inl x2), some (.inl x3), some (.inl x4)] [.inr (.inr x0)] H = _
  refine Eq.trans (e1 hG PT_20 k20_1 _ _ _) ?_
  refine bdc fun H1 => ?_
  show G 20 4 [some (.inr (.inr x0)), some (.inl x1), some (.inl x2), some (.inl x3), some (.inl x4)] [] H1 = _
  refine Eq.trans (e1 hG PT_20 k20_4 _ _ _) ?_
  show G 20 5 [some (.inr (.inr x0)), some (.inl x1), some (.inl x2), some (.inl x3), some (.inl x4)] [.inr (.inr x0)] H1 = _
  refine Eq.trans (e1 hG PT_20 k20_5 _ _ _) ?_
  show G 20 6 [some (.inr (.inr x0)), some (.inl x1), some (.inl x2), some (.inl x3), some (.inl x4)] [.inl x1, .inr (.inr x0)] H1 = _
  refine Eq.trans (e1 hG PT_20 k20_6 _ _ _) ?_
  refine bdc fun H2 => ?_
  show G 20 9 [some (.inr (.inr x0)), some (.inl x1), some (.inl x2), some (.inl x3), some (.inl x4)] [] H2 = _
  refine Eq.trans (e1 hG PT_20 k20_9 _ _ _) ?_
  show G 20 10 [some (.inr (.inr x0)), some (.inl x1), some (.inl x2), some (.inl x3), some (.inl x4)] [.inr (.inr x0)] H2 = _
  refine Eq.trans (e1 hG PT_20 k20_10 _ _ _) ?_
  show G 20 11 [some (.inr (.inr x0)), some (.inl x1), some (.inl x2), some (.inl x3), some (.inl x4)] [.inl x2, .inr (.inr x0)] H2 = _
  refine Eq.trans (e1 hG PT_20 k20_11 _ _ _) ?_
  refine bdc fun H3 => ?_
  show G 20 14 [some (.inr (.inr x0)), some (.inl x1), some (.inl x2), some (.inl x3), some (.inl x4)] [] H3 = _
  refine Eq.trans (e1 hG PT_20 k20_14 _ _ _) ?_
  show G 20 15 [some (.inr (.inr x0)), some (.inl x1), some (.inl x2), some (.inl x3), some (.inl x4)] [.inr (.inr x0)] H3 = _
  refine Eq.trans (e1 hG PT_20 k20_15 _ _ _) ?_
  show G 20 16 [some (.inr (.inr x0)), some (.inl x1), some (.inl x2), some (.inl x3), some (.inl x4)] [.inl x3, .inr (.inr x0)] H3 = _
  refine Eq.trans (e1 hG PT_20 k20_16 _ _ _) ?_
  refine bdc fun H4 => ?_
  show G 20 19 [some (.inr (.inr x0)), some (.inl x1), some (.inl x2), some (.inl x3), some (.inl x4)] [] H4 = _
  refine Eq.trans (e1 hG PT_20 k20_19 _ _ _) ?_
  show G 20 20 [some (.inr (.inr x0)), some (.inl x1), some (.inl x2), some (.inl x3), some (.inl x4)] [.inr (.inr x0)] H4 = _
  refine Eq.trans (e1 hG PT_20 k20_20 _ _ _) ?_
  show G 20 22 [some (.inr (.inr x0)), some (.inl x1), some (.inl x2), some (.inl x3), some (.inl x4)] [.inl x4, .inr (.inr x0)] H4 = _
  refine Eq.trans (e1 hG PT_20 k20_22 _ _ _) ?_
  refine bdc fun H5 => ?_
  show G 20 25 [some (.inr (.inr x0)), some (.inl x1), some (.inl x2), some (.inl x3), some (.inl x4)] [] H5 = _
  exact e1 hG PT_20 k20_25 _ _ _
-- StepsAhead.append(LStepsAhead$Routine;LStepsAhead$Op;)I
theorem PT_21 : PT 21 = pt21 := rfl
theorem k21_0 : lkp pt21 0 = iP 1 (fAld 1) := rfl
theorem k21_1 : lkp pt21 1 = iP 2 (fAld 2) := rfl
theorem k21_2 : lkp pt21 2 = iCK 5 7 22 3 2 0 := rfl
theorem k21_5 : lkp pt21 5 = iP 6 (fAld 0) := rfl
theorem k21_6 : lkp pt21 6 = iP 7 (fAld 1) := rfl
theorem k21_7 : lkp pt21 7 = iRI 10 (gtI 21) := rfl
theorem k21_10 : lkp pt21 10 = iCK 13 11 28 3 2 0 := rfl
theorem k21_13 : lkp pt21 13 = iP 14 (fAld 2) := rfl
theorem k21_14 : lkp pt21 14 = iRI 17 (gtI 2) := rfl
theorem k21_17 : lkp pt21 17 = iRet rI := rfl
theorem b21_0 {G : AG} (hG : FIX G) (x0 : Nat) (x1 : Nat) (x2 : Nat) (H : Hp) : G 21 0 [some (.inr (.inr x0)), some (.inr (.inr x1)), some (.inr (.inr x2))] [] H = (bif Nat.beq (H.1 x1).1 7 then (G 22 0 [some (.inr (.inr x1)), some (.inr (.inr x2)), none] [] H).bind fun u1 => (asV u1.1).bind fun _ => (hgI u1.2 x1 21).bind fun i2 => bif Nat.beq (u1.2.1 x0).1 11 then (G 28 0 [some (.inr (.inr x0)), some (.inl i2), none] [] u1.2).bind fun u3 => (asV u3.1).bind fun _ => (hgI u3.2 x2 2).bind fun i4 => some (some (.inl i4), u3.2) else none else none) := by
  refine Eq.trans (e1 hG PT_21 k21_0 _ _ _) ?_
  show G 21 1 [some (.inr (.inr x0)), some (.inr (.inr x1)), some (.inr (.inr x2))] [.inr (.inr x1)] H = _
  refine Eq.trans (e1 hG PT_21 k21_1 _ _ _) ?_
  show G 21 2 [some (.inr (.inr x0)), some (.inr (.inr x1)), some (.inr (.inr x2))] [.inr (.inr x2), .inr (.inr x1)] H = _
  refine Eq.trans (e1 hG PT_21 k21_2 _ _ _) ?_
  refine bfc ?_ ?_
  · refine bdc fun u1 => ?_
    refine bdc fun _ => ?_
    show G 21 5 [some (.inr (.inr x0)), some (.inr (.inr x1)), some (.inr (.inr x2))] [] u1.2 = _
    refine Eq.trans (e1 hG PT_21 k21_5 _ _ _) ?_
    show G 21 6 [some (.inr (.inr x0)), some (.inr (.inr x1)), some (.inr (.inr x2))] [.inr (.inr x0)] u1.2 = _
    refine Eq.trans (e1 hG PT_21 k21_6 _ _ _) ?_
    show G 21 7 [some (.inr (.inr x0)), some (.inr (.inr x1)), some (.inr (.inr x2))] [.inr (.inr x1), .inr (.inr x0)] u1.2 = _
    refine Eq.trans (e1 hG PT_21 k21_7 _ _ _) ?_
    refine bdc fun i2 => ?_
    show G 21 10 [some (.inr (.inr x0)), some (.inr (.inr x1)), some (.inr (.inr x2))] [.inl i2, .inr (.inr x0)] u1.2 = _
    refine Eq.trans (e1 hG PT_21 k21_10 _ _ _) ?_
    refine bfc ?_ ?_
    · refine bdc fun u3 => ?_
      refine bdc fun _ => ?_
      show G 21 13 [some (.inr (.inr x0)), some (.inr (.inr x1)), some (.inr (.inr x2))] [] u3.2 = _
      refine Eq.trans (e1 hG PT_21 k21_13 _ _ _) ?_
      show G 21 14 [some (.inr (.inr x0)), some (.inr (.inr x1)), some (.inr (.inr x2))] [.inr (.inr x2)] u3.2 = _
      refine Eq.trans (e1 hG PT_21 k21_14 _ _ _) ?_
      refine bdc fun i4 => ?_
      show G 21 17 [some (.inr (.inr x0)), some (.inr (.inr x1)), some (.inr (.inr x2))] [.inl i4] u3.2 = _
      exact e1 hG PT_21 k21_17 _ _ _
    · rfl
  · rfl
-- StepsAhead$Routine.append(LStepsAhead$Op;)V
theorem PT_22 : PT 22 = pt22 := rfl
theorem k22_0 : lkp pt22 0 = iP 1 (fAld 0) := rfl
theorem k22_1 : lkp pt22 1 = iCK 4 7 16 1 1 1 := rfl
theorem k22_4 : lkp pt22 4 = iB 7 8 (b1 (fun x => decide (x = 0))) := rfl
theorem k22_7 : lkp pt22 7 = iRet rV := rfl
theorem k22_8 : lkp pt22 8 = iP 9 (fAld 0) := rfl
theorem k22_9 : lkp pt22 9 = iRR 12 (gtR 22) := rfl
theorem k22_12 : lkp pt22 12 = iP 13 (fAld 0) := rfl
theorem k22_13 : lkp pt22 13 = iRI 16 (gtI 23) := rfl
theorem k22_16 : lkp pt22 16 = iP 17 (fAld 1) := rfl
theorem k22_17 : lkp pt22 17 = iW 18 wAR := rfl
theorem k22_18 : lkp pt22 18 = iP 19 (fAld 0) := rfl
theorem k22_19 : lkp pt22 19 = iP 20 fDup := rfl
theorem k22_20 : lkp pt22 20 = iRI 23 (gtI 23) := rfl
theorem k22_23 : lkp pt22 23 = iP 24 (fK (.inl 1)) := rfl
theorem k22_24 : lkp pt22 24 = iP 25 (f2I (fun x y => x + y)) := rfl
theorem k22_25 : lkp pt22 25 = iW 28 (ptI 23) := rfl
theorem k22_28 : lkp pt22 28 = iP 29 (fAld 0) := rfl
theorem k22_29 : lkp pt22 29 = iCK 32 7 23 4 1 0 := rfl
theorem k22_32 : lkp pt22 32 = iP 33 (fAld 1) := rfl
theorem k22_33 : lkp pt22 33 = iRI 36 (gtI 1) := rfl
theorem k22_36 : lkp pt22 36 = iP 37 (fK (.inl 3)) := rfl
theorem k22_37 : lkp pt22 37 = iB 40 48 (b2 (fun x y => decide (x = y))) := rfl
theorem k22_40 : lkp pt22 40 = iP 41 (fAld 1) := rfl
theorem k22_41 : lkp pt22 41 = iRI 44 (gtI 1) := rfl
theorem k22_44 : lkp pt22 44 = iP 45 (fK (.inl 5)) := rfl
theorem k22_45 : lkp pt22 45 = iB 48 57 (b2 (fun x y => decide (x ≠ y))) := rfl
theorem k22_48 : lkp pt22 48 = iP 49 (fAld 0) := rfl
theorem k22_49 : lkp pt22 49 = iP 50 (fAld 1) := rfl
theorem k22_50 : lkp pt22 50 = iRI 53 (gtI 2) := rfl
theorem k22_53 : lkp pt22 53 = iCK 56 7 24 2 2 0 := rfl
theorem k22_56 : lkp pt22 56 = iRet rV := rfl
theorem k22_57 : lkp pt22 57 = iP 58 (fAld 0) := rfl
theorem k22_58 : lkp pt22 58 = iP 59 (fAld 1) := rfl
theorem k22_59 : lkp pt22 59 = iRI 62 (gtI 4) := rfl
theorem k22_62 : lkp pt22 62 = iCK 65 7 18 2 2 3 := rfl
theorem k22_65 : lkp pt22 65 = iP 66 (fAst 2) := rfl
theorem k22_66 : lkp pt22 66 = iP 67 (fAld 2) := rfl
theorem k22_67 : lkp pt22 67 = iB 70 101 bN := rfl
theorem k22_70 : lkp pt22 70 = iP 71 (fAld 2) := rfl
theorem k22_71 : lkp pt22 71 = iP 72 (fAld 1) := rfl
theorem k22_72 : lkp pt22 72 = iRI 75 (gtI 1) := rfl
theorem k22_75 : lkp pt22 75 = iP 76 (fAld 1) := rfl
theorem k22_76 : lkp pt22 76 = iRI 79 (gtI 2) := rfl
theorem k22_79 : lkp pt22 79 = iCV 82 3 0 [(1, 27, 3), (2, 25, 3), (3, 26, 3), (4, 27, 3), (10, 27, 3)] := rfl
theorem k22_82 : lkp pt22 82 = iP 83 (fAld 1) := rfl
theorem k22_83 : lkp pt22 83 = iRI 86 (gtI 1) := rfl
theorem k22_86 : lkp pt22 86 = iP 88 (fK (.inl 7)) := rfl
theorem k22_88 : lkp pt22 88 = iB 91 101 (b2 (fun x y => decide (x = y))) := rfl
theorem k22_91 : lkp pt22 91 = iP 92 (fAld 0) := rfl
theorem k22_92 : lkp pt22 92 = iP 93 fDup := rfl
theorem k22_93 : lkp pt22 93 = iRI 96 (gtI 25) := rfl
theorem k22_96 : lkp pt22 96 = iP 97 (fK (.inl 1)) := rfl
theorem k22_97 : lkp pt22 97 = iP 98 (f2I (fun x y => x - y)) := rfl
theorem k22_98 : lkp pt22 98 = iW 101 (ptI 25) := rfl
theorem k22_101 : lkp pt22 101 = iRet rV := rfl
theorem b22_0 {G : AG} (hG : FIX G) (x0 : Nat) (x1 : Nat) (H : Hp) : G 22 0 [some (.inr (.inr x0)), some (.inr (.inr x1)), none] [] H = (bif Nat.beq (H.1 x0).1 7 then (G 16 0 [some (.inr (.inr x0))] [] H).bind fun u1 => (asI u1.1).bind fun i2 => bif decide ((i2 : Int32) = 0) then (hgR u1.2 x0 22).bind fun r3 => (hgI u1.2 x0 23).bind fun i4 => (hSR u1.2 r3 i4 x1).bind fun H5 => (hgI H5 x0 23).bind fun i6 => (hpI H5 x0 23 ((i6 + 1))).bind fun H7 => bif Nat.beq (H7.1 x0).1 7 then (G 23 0 [some (.inr (.inr x0)), none, none, none] [] H7).bind fun u8 => (asV u8.1).bind fun _ => (hgI u8.2 x1 1).bind fun i9 => bif decide ((i9 : Int32) = (3 : Int32)) then G 22 48 [some (.inr (.inr x0)), some (.inr (.inr x1)), none] [] u8.2 else (hgI u8.2 x1 1).bind fun i10 => bif decide ((i10 : Int32) ≠ (5 : Int32)) then (hgI u8.2 x1 4).bind fun i11 => bif Nat.beq (u8.2.1 x0).1 7 then (G 18 0 [some (.inr (.inr x0)), some (.inl i11)] [] u8.2).bind fun u12 => (asR u12.1).bind fun r13 => bif Nat.beq r13 0 then G 22 101 [some (.inr (.inr x0)), some (.inr (.inr x1)), some (.inr (.inr r13))] [] u12.2 else (hgI u12.2 x1 1).bind fun i14 => (hgI u12.2 x1 2).bind fun i15 => (slk [(1, 27, 3), (2, 25, 3), (3, 26, 3), (4, 27, 3), (10, 27, 3)] (u12.2.1 r13).1).bind fun w17 => (G w17.1 0 (padA w17.2 [some (.inr (.inr r13)), some (.inl i14), some (.inl i15)]) [] u12.2).bind fun u16 => (asV u16.1).bind fun _ => (hgI u16.2 x1 1).bind fun i18 => bif decide ((i18 : Int32) = (7 : Int32)) then G 22 101 [some (.inr (.inr x0)), some (.inr (.inr x1)), some (.inr (.inr r13))] [] u16.2 else (hgI u16.2 x0 25).bind fun i19 => (hpI u16.2 x0 25 ((i19 - 1))).bind fun H20 => G 22 101 [some (.inr (.inr x0)), some (.inr (.inr x1)), some (.inr (.inr r13))] [] H20 else none else G 22 48 [some (.inr (.inr x0)), some (.inr (.inr x1)), none] [] u8.2 else none else some (none, u1.2) else none) := by
  refine Eq.trans (e1 hG PT_22 k22_0 _ _ _) ?_
  show G 22 1 [some (.inr (.inr x0)), some (.inr (.inr x1)), none] [.inr (.inr x0)] H = _
  refine Eq.trans (e1 hG PT_22 k22_1 _ _ _) ?_
  refine bfc ?_ ?_
  · refine bdc fun u1 => ?_
    refine bdc fun i2 => ?_
    show G 22 4 [some (.inr (.inr x0)), some (.inr (.inr x1)), none] [.inl i2] u1.2 = _
    refine Eq.trans (e1 hG PT_22 k22_4 _ _ _) ?_
    refine bfc ?_ ?_
    · show G 22 8 [some (.inr (.inr x0)), some (.inr (.inr x1)), none] [] u1.2 = _
      refine Eq.trans (e1 hG PT_22 k22_8 _ _ _) ?_
      show G 22 9 [some (.inr (.inr x0)), some (.inr (.inr x1)), none] [.inr (.inr x0)] u1.2 = _
      refine Eq.trans (e1 hG PT_22 k22_9 _ _ _) ?_
      refine bdc fun r3 => ?_
      show G 22 12 [some (.inr (.inr x0)), some (.inr (.inr x1)), none] [.inr (.inr r3)] u1.2 = _
      refine Eq.trans (e1 hG PT_22 k22_12 _ _ _) ?_
      show G 22 13 [some (.inr (.inr x0)), some (.inr (.inr x1)), none] [.inr (.inr x0), .inr (.inr r3)] u1.2 = _
      refine Eq.trans (e1 hG PT_22 k22_13 _ _ _) ?_
      refine bdc fun i4 => ?_
      show G 22 16 [some (.inr (.inr x0)), some (.inr (.inr x1)), none] [.inl i4, .inr (.inr r3)] u1.2 = _
      refine Eq.trans (e1 hG PT_22 k22_16 _ _ _) ?_
      show G 22 17 [some (.inr (.inr x0)), some (.inr (.inr x1)), none] [.inr (.inr x1), .inl i4, .inr (.inr r3)] u1.2 = _
      refine Eq.trans (e1 hG PT_22 k22_17 _ _ _) ?_
      refine bdc fun H5 => ?_
      show G 22 18 [some (.inr (.inr x0)), some (.inr (.inr x1)), none] [] H5 = _
      refine Eq.trans (e1 hG PT_22 k22_18 _ _ _) ?_
      show G 22 19 [some (.inr (.inr x0)), some (.inr (.inr x1)), none] [.inr (.inr x0)] H5 = _
      refine Eq.trans (e1 hG PT_22 k22_19 _ _ _) ?_
      show G 22 20 [some (.inr (.inr x0)), some (.inr (.inr x1)), none] [.inr (.inr x0), .inr (.inr x0)] H5 = _
      refine Eq.trans (e1 hG PT_22 k22_20 _ _ _) ?_
      refine bdc fun i6 => ?_
      show G 22 23 [some (.inr (.inr x0)), some (.inr (.inr x1)), none] [.inl i6, .inr (.inr x0)] H5 = _
      refine Eq.trans (e1 hG PT_22 k22_23 _ _ _) ?_
      show G 22 24 [some (.inr (.inr x0)), some (.inr (.inr x1)), none] [.inl 1, .inl i6, .inr (.inr x0)] H5 = _
      refine Eq.trans (e1 hG PT_22 k22_24 _ _ _) ?_
      show G 22 25 [some (.inr (.inr x0)), some (.inr (.inr x1)), none] [.inl (i6 + 1), .inr (.inr x0)] H5 = _
      refine Eq.trans (e1 hG PT_22 k22_25 _ _ _) ?_
      refine bdc fun H7 => ?_
      show G 22 28 [some (.inr (.inr x0)), some (.inr (.inr x1)), none] [] H7 = _
      refine Eq.trans (e1 hG PT_22 k22_28 _ _ _) ?_
      show G 22 29 [some (.inr (.inr x0)), some (.inr (.inr x1)), none] [.inr (.inr x0)] H7 = _
      refine Eq.trans (e1 hG PT_22 k22_29 _ _ _) ?_
      refine bfc ?_ ?_
      · refine bdc fun u8 => ?_
        refine bdc fun _ => ?_
        show G 22 32 [some (.inr (.inr x0)), some (.inr (.inr x1)), none] [] u8.2 = _
        refine Eq.trans (e1 hG PT_22 k22_32 _ _ _) ?_
        show G 22 33 [some (.inr (.inr x0)), some (.inr (.inr x1)), none] [.inr (.inr x1)] u8.2 = _
        refine Eq.trans (e1 hG PT_22 k22_33 _ _ _) ?_
        refine bdc fun i9 => ?_
        show G 22 36 [some (.inr (.inr x0)), some (.inr (.inr x1)), none] [.inl i9] u8.2 = _
        refine Eq.trans (e1 hG PT_22 k22_36 _ _ _) ?_
        show G 22 37 [some (.inr (.inr x0)), some (.inr (.inr x1)), none] [.inl 3, .inl i9] u8.2 = _
        refine Eq.trans (e1 hG PT_22 k22_37 _ _ _) ?_
        refine bfc ?_ ?_
        · rfl
        · show G 22 40 [some (.inr (.inr x0)), some (.inr (.inr x1)), none] [] u8.2 = _
          refine Eq.trans (e1 hG PT_22 k22_40 _ _ _) ?_
          show G 22 41 [some (.inr (.inr x0)), some (.inr (.inr x1)), none] [.inr (.inr x1)] u8.2 = _
          refine Eq.trans (e1 hG PT_22 k22_41 _ _ _) ?_
          refine bdc fun i10 => ?_
          show G 22 44 [some (.inr (.inr x0)), some (.inr (.inr x1)), none] [.inl i10] u8.2 = _
          refine Eq.trans (e1 hG PT_22 k22_44 _ _ _) ?_
          show G 22 45 [some (.inr (.inr x0)), some (.inr (.inr x1)), none] [.inl 5, .inl i10] u8.2 = _
          refine Eq.trans (e1 hG PT_22 k22_45 _ _ _) ?_
          refine bfc ?_ ?_
          · show G 22 57 [some (.inr (.inr x0)), some (.inr (.inr x1)), none] [] u8.2 = _
            refine Eq.trans (e1 hG PT_22 k22_57 _ _ _) ?_
            show G 22 58 [some (.inr (.inr x0)), some (.inr (.inr x1)), none] [.inr (.inr x0)] u8.2 = _
            refine Eq.trans (e1 hG PT_22 k22_58 _ _ _) ?_
            show G 22 59 [some (.inr (.inr x0)), some (.inr (.inr x1)), none] [.inr (.inr x1), .inr (.inr x0)] u8.2 = _
            refine Eq.trans (e1 hG PT_22 k22_59 _ _ _) ?_
            refine bdc fun i11 => ?_
            show G 22 62 [some (.inr (.inr x0)), some (.inr (.inr x1)), none] [.inl i11, .inr (.inr x0)] u8.2 = _
            refine Eq.trans (e1 hG PT_22 k22_62 _ _ _) ?_
            refine bfc ?_ ?_
            · refine bdc fun u12 => ?_
              refine bdc fun r13 => ?_
              show G 22 65 [some (.inr (.inr x0)), some (.inr (.inr x1)), none] [.inr (.inr r13)] u12.2 = _
              refine Eq.trans (e1 hG PT_22 k22_65 _ _ _) ?_
              show G 22 66 [some (.inr (.inr x0)), some (.inr (.inr x1)), some (.inr (.inr r13))] [] u12.2 = _
              refine Eq.trans (e1 hG PT_22 k22_66 _ _ _) ?_
              show G 22 67 [some (.inr (.inr x0)), some (.inr (.inr x1)), some (.inr (.inr r13))] [.inr (.inr r13)] u12.2 = _
              refine Eq.trans (e1 hG PT_22 k22_67 _ _ _) ?_
              refine bfc ?_ ?_
              · rfl
              · show G 22 70 [some (.inr (.inr x0)), some (.inr (.inr x1)), some (.inr (.inr r13))] [] u12.2 = _
                refine Eq.trans (e1 hG PT_22 k22_70 _ _ _) ?_
                show G 22 71 [some (.inr (.inr x0)), some (.inr (.inr x1)), some (.inr (.inr r13))] [.inr (.inr r13)] u12.2 = _
                refine Eq.trans (e1 hG PT_22 k22_71 _ _ _) ?_
                show G 22 72 [some (.inr (.inr x0)), some (.inr (.inr x1)), some (.inr (.inr r13))] [.inr (.inr x1), .inr (.inr r13)] u12.2 = _
                refine Eq.trans (e1 hG PT_22 k22_72 _ _ _) ?_
                refine bdc fun i14 => ?_
                show G 22 75 [some (.inr (.inr x0)), some (.inr (.inr x1)), some (.inr (.inr r13))] [.inl i14, .inr (.inr r13)] u12.2 = _
                refine Eq.trans (e1 hG PT_22 k22_75 _ _ _) ?_
                show G 22 76 [some (.inr (.inr x0)), some (.inr (.inr x1)), some (.inr (.inr r13))] [.inr (.inr x1), .inl i14, .inr (.inr r13)] u12.2 = _
                refine Eq.trans (e1 hG PT_22 k22_76 _ _ _) ?_
                refine bdc fun i15 => ?_
                show G 22 79 [some (.inr (.inr x0)), some (.inr (.inr x1)), some (.inr (.inr r13))] [.inl i15, .inl i14, .inr (.inr r13)] u12.2 = _
                refine Eq.trans (e1 hG PT_22 k22_79 _ _ _) ?_
                refine bdc fun w17 => ?_
                refine bdc fun u16 => ?_
                refine bdc fun _ => ?_
                show G 22 82 [some (.inr (.inr x0)), some (.inr (.inr x1)), some (.inr (.inr r13))] [] u16.2 = _
                refine Eq.trans (e1 hG PT_22 k22_82 _ _ _) ?_
                show G 22 83 [some (.inr (.inr x0)), some (.inr (.inr x1)), some (.inr (.inr r13))] [.inr (.inr x1)] u16.2 = _
                refine Eq.trans (e1 hG PT_22 k22_83 _ _ _) ?_
                refine bdc fun i18 => ?_
                show G 22 86 [some (.inr (.inr x0)), some (.inr (.inr x1)), some (.inr (.inr r13))] [.inl i18] u16.2 = _
                refine Eq.trans (e1 hG PT_22 k22_86 _ _ _) ?_
                show G 22 88 [some (.inr (.inr x0)), some (.inr (.inr x1)), some (.inr (.inr r13))] [.inl 7, .inl i18] u16.2 = _
                refine Eq.trans (e1 hG PT_22 k22_88 _ _ _) ?_
                refine bfc ?_ ?_
                · rfl
                · show G 22 91 [some (.inr (.inr x0)), some (.inr (.inr x1)), some (.inr (.inr r13))] [] u16.2 = _
                  refine Eq.trans (e1 hG PT_22 k22_91 _ _ _) ?_
                  show G 22 92 [some (.inr (.inr x0)), some (.inr (.inr x1)), some (.inr (.inr r13))] [.inr (.inr x0)] u16.2 = _
                  refine Eq.trans (e1 hG PT_22 k22_92 _ _ _) ?_
                  show G 22 93 [some (.inr (.inr x0)), some (.inr (.inr x1)), some (.inr (.inr r13))] [.inr (.inr x0), .inr (.inr x0)] u16.2 = _
                  refine Eq.trans (e1 hG PT_22 k22_93 _ _ _) ?_
                  refine bdc fun i19 => ?_
                  show G 22 96 [some (.inr (.inr x0)), some (.inr (.inr x1)), some (.inr (.inr r13))] [.inl i19, .inr (.inr x0)] u16.2 = _
                  refine Eq.trans (e1 hG PT_22 k22_96 _ _ _) ?_
                  show G 22 97 [some (.inr (.inr x0)), some (.inr (.inr x1)), some (.inr (.inr r13))] [.inl 1, .inl i19, .inr (.inr x0)] u16.2 = _
                  refine Eq.trans (e1 hG PT_22 k22_97 _ _ _) ?_
                  show G 22 98 [some (.inr (.inr x0)), some (.inr (.inr x1)), some (.inr (.inr r13))] [.inl (i19 - 1), .inr (.inr x0)] u16.2 = _
                  refine Eq.trans (e1 hG PT_22 k22_98 _ _ _) ?_
                  refine bdc fun H20 => ?_
                  rfl
            · rfl
          · rfl
      · rfl
    · show G 22 7 [some (.inr (.inr x0)), some (.inr (.inr x1)), none] [] u1.2 = _
      exact e1 hG PT_22 k22_7 _ _ _
  · rfl
theorem b22_48 {G : AG} (hG : FIX G) (x0 : Nat) (x1 : Nat) (H : Hp) : G 22 48 [some (.inr (.inr x0)), some (.inr (.inr x1)), none] [] H = ((hgI H x1 2).bind fun i1 => bif Nat.beq (H.1 x0).1 7 then (G 24 0 [some (.inr (.inr x0)), some (.inl i1)] [] H).bind fun u2 => (asV u2.1).bind fun _ => some (none, u2.2) else none) := by
  refine Eq.trans (e1 hG PT_22 k22_48 _ _ _) ?_
  show G 22 49 [some (.inr (.inr x0)), some (.inr (.inr x1)), none] [.inr (.inr x0)] H = _
  refine Eq.trans (e1 hG PT_22 k22_49 _ _ _) ?_
  show G 22 50 [some (.inr (.inr x0)), some (.inr (.inr x1)), none] [.inr (.inr x1), .inr (.inr x0)] H = _
  refine Eq.trans (e1 hG PT_22 k22_50 _ _ _) ?_
  refine bdc fun i1 => ?_
  show G 22 53 [some (.inr (.inr x0)), some (.inr (.inr x1)), none] [.inl i1, .inr (.inr x0)] H = _
  refine Eq.trans (e1 hG PT_22 k22_53 _ _ _) ?_
  refine bfc ?_ ?_
  · refine bdc fun u2 => ?_
    refine bdc fun _ => ?_
    show G 22 56 [some (.inr (.inr x0)), some (.inr (.inr x1)), none] [] u2.2 = _
    exact e1 hG PT_22 k22_56 _ _ _
  · rfl
theorem b22_101 {G : AG} (hG : FIX G) (x0 : Nat) (x1 : Nat) (x2 : Nat) (H : Hp) : G 22 101 [some (.inr (.inr x0)), some (.inr (.inr x1)), some (.inr (.inr x2))] [] H = (some (none, H)) := by
  exact e1 hG PT_22 k22_101 _ _ _
-- StepsAhead$Routine.noteCalls()V
theorem PT_23 : PT 23 = pt23 := rfl
theorem k23_0 : lkp pt23 0 = iP 1 (fAld 0) := rfl
theorem k23_1 : lkp pt23 1 = iP 2 (fK (.inl 0)) := rfl
theorem k23_2 : lkp pt23 2 = iW 5 (ptI 26) := rfl
theorem k23_5 : lkp pt23 5 = iP 6 (fK (.inl 0)) := rfl
theorem k23_6 : lkp pt23 6 = iP 7 (fIst 1) := rfl
theorem k23_7 : lkp pt23 7 = iP 8 (fIld 1) := rfl
theorem k23_8 : lkp pt23 8 = iP 9 (fAld 0) := rfl
theorem k23_9 : lkp pt23 9 = iRI 12 (gtI 23) := rfl
theorem k23_12 : lkp pt23 12 = iB 15 57 (b2 (fun x y => decide (y ≤ x))) := rfl
theorem k23_15 : lkp pt23 15 = iP 16 (fAld 0) := rfl
theorem k23_16 : lkp pt23 16 = iP 17 (fIld 1) := rfl
theorem k23_17 : lkp pt23 17 = iCK 20 7 18 2 2 3 := rfl
theorem k23_20 : lkp pt23 20 = iP 21 (fAst 3) := rfl
theorem k23_21 : lkp pt23 21 = iP 22 (fAld 3) := rfl
theorem k23_22 : lkp pt23 22 = iRI 25 (qInst [1] [2, 3, 4, 10]) := rfl
theorem k23_25 : lkp pt23 25 = iB 28 51 (b1 (fun x => decide (x = 0))) := rfl
theorem k23_28 : lkp pt23 28 = iP 29 (fAld 3) := rfl
theorem k23_29 : lkp pt23 29 = iRR 32 (qCast [1]) := rfl
theorem k23_32 : lkp pt23 32 = iP 33 (fAst 2) := rfl
theorem k23_33 : lkp pt23 33 = iP 34 (fAld 0) := rfl
theorem k23_34 : lkp pt23 34 = iP 35 fDup := rfl
theorem k23_35 : lkp pt23 35 = iRI 38 (gtI 26) := rfl
theorem k23_38 : lkp pt23 38 = iP 39 (fK (.inl 1)) := rfl
theorem k23_39 : lkp pt23 39 = iP 40 (fAld 2) := rfl
theorem k23_40 : lkp pt23 40 = iRR 43 (gtR 6) := rfl
theorem k23_43 : lkp pt23 43 = iRI 46 (gtI 21) := rfl
theorem k23_46 : lkp pt23 46 = iP 47 (f2I (fun x y => x <<< (y &&& 31))) := rfl
theorem k23_47 : lkp pt23 47 = iP 48 (f2I (fun x y => x ||| y)) := rfl
theorem k23_48 : lkp pt23 48 = iW 51 (ptI 26) := rfl
theorem k23_51 : lkp pt23 51 = iP 54 (fInc 1 1) := rfl
theorem k23_54 : lkp pt23 54 = iP 7 fGo := rfl
theorem k23_57 : lkp pt23 57 = iRet rV := rfl
theorem b23_0 {G : AG} (hG : FIX G) (x0 : Nat) (H : Hp) : G 23 0 [some (.inr (.inr x0)), none, none, none] [] H = ((hpI H x0 26 0).bind fun H1 => G 23 7 [some (.inr (.inr x0)), some (.inl 0), none, none] [] H1) := by
  refine Eq.trans (e1 hG PT_23 k23_0 _ _ _) ?_
  show G 23 1 [some (.inr (.inr x0)), none, none, none] [.inr (.inr x0)] H = _
  refine Eq.trans (e1 hG PT_23 k23_1 _ _ _) ?_
  show G 23 2 [some (.inr (.inr x0)), none, none, none] [.inl 0, .inr (.inr x0)] H = _
  refine Eq.trans (e1 hG PT_23 k23_2 _ _ _) ?_
  refine bdc fun H1 => ?_
  show G 23 5 [some (.inr (.inr x0)), none, none, none] [] H1 = _
  refine Eq.trans (e1 hG PT_23 k23_5 _ _ _) ?_
  show G 23 6 [some (.inr (.inr x0)), none, none, none] [.inl 0] H1 = _
  refine Eq.trans (e1 hG PT_23 k23_6 _ _ _) ?_
  rfl
theorem b23_7_n {G : AG} (hG : FIX G) (x0 : Nat) (x1 : Int32) (o3 : Option AV) (H : Hp) : G 23 7 [some (.inr (.inr x0)), some (.inl x1), none, o3] [] H = ((hgI H x0 23).bind fun i1 => bif decide ((i1 : Int32) ≤ (x1 : Int32)) then some (none, H) else bif Nat.beq (H.1 x0).1 7 then (G 18 0 [some (.inr (.inr x0)), some (.inl x1)] [] H).bind fun u2 => (asR u2.1).bind fun r3 => ((bif Nat.beq r3 0 then some (0 : Int32) else bif [1].any (Nat.beq (u2.2.1 r3).1) then some 1 else bif [2, 3, 4, 10].any (Nat.beq (u2.2.1 r3).1) then some 0 else none)).bind fun i4 => bif decide ((i4 : Int32) = 0) then G 23 51 [some (.inr (.inr x0)), some (.inl x1), none, some (.inr (.inr r3))] [] u2.2 else ((bif Nat.beq r3 0 || [1].any (Nat.beq (u2.2.1 r3).1) then some r3 else none)).bind fun r5 => (hgI u2.2 x0 26).bind fun i6 => (hgR u2.2 r5 6).bind fun r7 => (hgI u2.2 r7 21).bind fun i8 => (hpI u2.2 x0 26 ((i6 ||| (1 <<< (i8 &&& 31))))).bind fun H9 => G 23 51 [some (.inr (.inr x0)), some (.inl x1), some (.inr (.inr r5)), some (.inr (.inr r3))] [] H9 else none) := by
  refine Eq.trans (e1 hG PT_23 k23_7 _ _ _) ?_
  show G 23 8 [some (.inr (.inr x0)), some (.inl x1), none, o3] [.inl x1] H = _
  refine Eq.trans (e1 hG PT_23 k23_8 _ _ _) ?_
  show G 23 9 [some (.inr (.inr x0)), some (.inl x1), none, o3] [.inr (.inr x0), .inl x1] H = _
  refine Eq.trans (e1 hG PT_23 k23_9 _ _ _) ?_
  refine bdc fun i1 => ?_
  show G 23 12 [some (.inr (.inr x0)), some (.inl x1), none, o3] [.inl i1, .inl x1] H = _
  refine Eq.trans (e1 hG PT_23 k23_12 _ _ _) ?_
  refine bfc ?_ ?_
  · show G 23 57 [some (.inr (.inr x0)), some (.inl x1), none, o3] [] H = _
    exact e1 hG PT_23 k23_57 _ _ _
  · show G 23 15 [some (.inr (.inr x0)), some (.inl x1), none, o3] [] H = _
    refine Eq.trans (e1 hG PT_23 k23_15 _ _ _) ?_
    show G 23 16 [some (.inr (.inr x0)), some (.inl x1), none, o3] [.inr (.inr x0)] H = _
    refine Eq.trans (e1 hG PT_23 k23_16 _ _ _) ?_
    show G 23 17 [some (.inr (.inr x0)), some (.inl x1), none, o3] [.inl x1, .inr (.inr x0)] H = _
    refine Eq.trans (e1 hG PT_23 k23_17 _ _ _) ?_
    refine bfc ?_ ?_
    · refine bdc fun u2 => ?_
      refine bdc fun r3 => ?_
      show G 23 20 [some (.inr (.inr x0)), some (.inl x1), none, o3] [.inr (.inr r3)] u2.2 = _
      refine Eq.trans (e1 hG PT_23 k23_20 _ _ _) ?_
      show G 23 21 [some (.inr (.inr x0)), some (.inl x1), none, some (.inr (.inr r3))] [] u2.2 = _
      refine Eq.trans (e1 hG PT_23 k23_21 _ _ _) ?_
      show G 23 22 [some (.inr (.inr x0)), some (.inl x1), none, some (.inr (.inr r3))] [.inr (.inr r3)] u2.2 = _
      refine Eq.trans (e1 hG PT_23 k23_22 _ _ _) ?_
      refine bdc fun i4 => ?_
      show G 23 25 [some (.inr (.inr x0)), some (.inl x1), none, some (.inr (.inr r3))] [.inl i4] u2.2 = _
      refine Eq.trans (e1 hG PT_23 k23_25 _ _ _) ?_
      refine bfc ?_ ?_
      · rfl
      · show G 23 28 [some (.inr (.inr x0)), some (.inl x1), none, some (.inr (.inr r3))] [] u2.2 = _
        refine Eq.trans (e1 hG PT_23 k23_28 _ _ _) ?_
        show G 23 29 [some (.inr (.inr x0)), some (.inl x1), none, some (.inr (.inr r3))] [.inr (.inr r3)] u2.2 = _
        refine Eq.trans (e1 hG PT_23 k23_29 _ _ _) ?_
        refine bdc fun r5 => ?_
        show G 23 32 [some (.inr (.inr x0)), some (.inl x1), none, some (.inr (.inr r3))] [.inr (.inr r5)] u2.2 = _
        refine Eq.trans (e1 hG PT_23 k23_32 _ _ _) ?_
        show G 23 33 [some (.inr (.inr x0)), some (.inl x1), some (.inr (.inr r5)), some (.inr (.inr r3))] [] u2.2 = _
        refine Eq.trans (e1 hG PT_23 k23_33 _ _ _) ?_
        show G 23 34 [some (.inr (.inr x0)), some (.inl x1), some (.inr (.inr r5)), some (.inr (.inr r3))] [.inr (.inr x0)] u2.2 = _
        refine Eq.trans (e1 hG PT_23 k23_34 _ _ _) ?_
        show G 23 35 [some (.inr (.inr x0)), some (.inl x1), some (.inr (.inr r5)), some (.inr (.inr r3))] [.inr (.inr x0), .inr (.inr x0)] u2.2 = _
        refine Eq.trans (e1 hG PT_23 k23_35 _ _ _) ?_
        refine bdc fun i6 => ?_
        show G 23 38 [some (.inr (.inr x0)), some (.inl x1), some (.inr (.inr r5)), some (.inr (.inr r3))] [.inl i6, .inr (.inr x0)] u2.2 = _
        refine Eq.trans (e1 hG PT_23 k23_38 _ _ _) ?_
        show G 23 39 [some (.inr (.inr x0)), some (.inl x1), some (.inr (.inr r5)), some (.inr (.inr r3))] [.inl 1, .inl i6, .inr (.inr x0)] u2.2 = _
        refine Eq.trans (e1 hG PT_23 k23_39 _ _ _) ?_
        show G 23 40 [some (.inr (.inr x0)), some (.inl x1), some (.inr (.inr r5)), some (.inr (.inr r3))] [.inr (.inr r5), .inl 1, .inl i6, .inr (.inr x0)] u2.2 = _
        refine Eq.trans (e1 hG PT_23 k23_40 _ _ _) ?_
        refine bdc fun r7 => ?_
        show G 23 43 [some (.inr (.inr x0)), some (.inl x1), some (.inr (.inr r5)), some (.inr (.inr r3))] [.inr (.inr r7), .inl 1, .inl i6, .inr (.inr x0)] u2.2 = _
        refine Eq.trans (e1 hG PT_23 k23_43 _ _ _) ?_
        refine bdc fun i8 => ?_
        show G 23 46 [some (.inr (.inr x0)), some (.inl x1), some (.inr (.inr r5)), some (.inr (.inr r3))] [.inl i8, .inl 1, .inl i6, .inr (.inr x0)] u2.2 = _
        refine Eq.trans (e1 hG PT_23 k23_46 _ _ _) ?_
        show G 23 47 [some (.inr (.inr x0)), some (.inl x1), some (.inr (.inr r5)), some (.inr (.inr r3))] [.inl (1 <<< (i8 &&& 31)), .inl i6, .inr (.inr x0)] u2.2 = _
        refine Eq.trans (e1 hG PT_23 k23_47 _ _ _) ?_
        show G 23 48 [some (.inr (.inr x0)), some (.inl x1), some (.inr (.inr r5)), some (.inr (.inr r3))] [.inl (i6 ||| (1 <<< (i8 &&& 31))), .inr (.inr x0)] u2.2 = _
        refine Eq.trans (e1 hG PT_23 k23_48 _ _ _) ?_
        refine bdc fun H9 => ?_
        rfl
    · rfl
theorem b23_7_R {G : AG} (hG : FIX G) (x0 : Nat) (x1 : Int32) (o3 : Option AV) (x2 : Nat) (H : Hp) : G 23 7 [some (.inr (.inr x0)), some (.inl x1), some (.inr (.inr x2)), o3] [] H = ((hgI H x0 23).bind fun i1 => bif decide ((i1 : Int32) ≤ (x1 : Int32)) then some (none, H) else bif Nat.beq (H.1 x0).1 7 then (G 18 0 [some (.inr (.inr x0)), some (.inl x1)] [] H).bind fun u2 => (asR u2.1).bind fun r3 => ((bif Nat.beq r3 0 then some (0 : Int32) else bif [1].any (Nat.beq (u2.2.1 r3).1) then some 1 else bif [2, 3, 4, 10].any (Nat.beq (u2.2.1 r3).1) then some 0 else none)).bind fun i4 => bif decide ((i4 : Int32) = 0) then G 23 51 [some (.inr (.inr x0)), some (.inl x1), some (.inr (.inr x2)), some (.inr (.inr r3))] [] u2.2 else ((bif Nat.beq r3 0 || [1].any (Nat.beq (u2.2.1 r3).1) then some r3 else none)).bind fun r5 => (hgI u2.2 x0 26).bind fun i6 => (hgR u2.2 r5 6).bind fun r7 => (hgI u2.2 r7 21).bind fun i8 => (hpI u2.2 x0 26 ((i6 ||| (1 <<< (i8 &&& 31))))).bind fun H9 => G 23 51 [some (.inr (.inr x0)), some (.inl x1), some (.inr (.inr r5)), some (.inr (.inr r3))] [] H9 else none) := by
  refine Eq.trans (e1 hG PT_23 k23_7 _ _ _) ?_
  show G 23 8 [some (.inr (.inr x0)), some (.inl x1), some (.inr (.inr x2)), o3] [.inl x1] H = _
  refine Eq.trans (e1 hG PT_23 k23_8 _ _ _) ?_
  show G 23 9 [some (.inr (.inr x0)), some (.inl x1), some (.inr (.inr x2)), o3] [.inr (.inr x0), .inl x1] H = _
  refine Eq.trans (e1 hG PT_23 k23_9 _ _ _) ?_
  refine bdc fun i1 => ?_
  show G 23 12 [some (.inr (.inr x0)), some (.inl x1), some (.inr (.inr x2)), o3] [.inl i1, .inl x1] H = _
  refine Eq.trans (e1 hG PT_23 k23_12 _ _ _) ?_
  refine bfc ?_ ?_
  · show G 23 57 [some (.inr (.inr x0)), some (.inl x1), some (.inr (.inr x2)), o3] [] H = _
    exact e1 hG PT_23 k23_57 _ _ _
  · show G 23 15 [some (.inr (.inr x0)), some (.inl x1), some (.inr (.inr x2)), o3] [] H = _
    refine Eq.trans (e1 hG PT_23 k23_15 _ _ _) ?_
    show G 23 16 [some (.inr (.inr x0)), some (.inl x1), some (.inr (.inr x2)), o3] [.inr (.inr x0)] H = _
    refine Eq.trans (e1 hG PT_23 k23_16 _ _ _) ?_
    show G 23 17 [some (.inr (.inr x0)), some (.inl x1), some (.inr (.inr x2)), o3] [.inl x1, .inr (.inr x0)] H = _
    refine Eq.trans (e1 hG PT_23 k23_17 _ _ _) ?_
    refine bfc ?_ ?_
    · refine bdc fun u2 => ?_
      refine bdc fun r3 => ?_
      show G 23 20 [some (.inr (.inr x0)), some (.inl x1), some (.inr (.inr x2)), o3] [.inr (.inr r3)] u2.2 = _
      refine Eq.trans (e1 hG PT_23 k23_20 _ _ _) ?_
      show G 23 21 [some (.inr (.inr x0)), some (.inl x1), some (.inr (.inr x2)), some (.inr (.inr r3))] [] u2.2 = _
      refine Eq.trans (e1 hG PT_23 k23_21 _ _ _) ?_
      show G 23 22 [some (.inr (.inr x0)), some (.inl x1), some (.inr (.inr x2)), some (.inr (.inr r3))] [.inr (.inr r3)] u2.2 = _
      refine Eq.trans (e1 hG PT_23 k23_22 _ _ _) ?_
      refine bdc fun i4 => ?_
      show G 23 25 [some (.inr (.inr x0)), some (.inl x1), some (.inr (.inr x2)), some (.inr (.inr r3))] [.inl i4] u2.2 = _
      refine Eq.trans (e1 hG PT_23 k23_25 _ _ _) ?_
      refine bfc ?_ ?_
      · rfl
      · show G 23 28 [some (.inr (.inr x0)), some (.inl x1), some (.inr (.inr x2)), some (.inr (.inr r3))] [] u2.2 = _
        refine Eq.trans (e1 hG PT_23 k23_28 _ _ _) ?_
        show G 23 29 [some (.inr (.inr x0)), some (.inl x1), some (.inr (.inr x2)), some (.inr (.inr r3))] [.inr (.inr r3)] u2.2 = _
        refine Eq.trans (e1 hG PT_23 k23_29 _ _ _) ?_
        refine bdc fun r5 => ?_
        show G 23 32 [some (.inr (.inr x0)), some (.inl x1), some (.inr (.inr x2)), some (.inr (.inr r3))] [.inr (.inr r5)] u2.2 = _
        refine Eq.trans (e1 hG PT_23 k23_32 _ _ _) ?_
        show G 23 33 [some (.inr (.inr x0)), some (.inl x1), some (.inr (.inr r5)), some (.inr (.inr r3))] [] u2.2 = _
        refine Eq.trans (e1 hG PT_23 k23_33 _ _ _) ?_
        show G 23 34 [some (.inr (.inr x0)), some (.inl x1), some (.inr (.inr r5)), some (.inr (.inr r3))] [.inr (.inr x0)] u2.2 = _
        refine Eq.trans (e1 hG PT_23 k23_34 _ _ _) ?_
        show G 23 35 [some (.inr (.inr x0)), some (.inl x1), some (.inr (.inr r5)), some (.inr (.inr r3))] [.inr (.inr x0), .inr (.inr x0)] u2.2 = _
        refine Eq.trans (e1 hG PT_23 k23_35 _ _ _) ?_
        refine bdc fun i6 => ?_
        show G 23 38 [some (.inr (.inr x0)), some (.inl x1), some (.inr (.inr r5)), some (.inr (.inr r3))] [.inl i6, .inr (.inr x0)] u2.2 = _
        refine Eq.trans (e1 hG PT_23 k23_38 _ _ _) ?_
        show G 23 39 [some (.inr (.inr x0)), some (.inl x1), some (.inr (.inr r5)), some (.inr (.inr r3))] [.inl 1, .inl i6, .inr (.inr x0)] u2.2 = _
        refine Eq.trans (e1 hG PT_23 k23_39 _ _ _) ?_
        show G 23 40 [some (.inr (.inr x0)), some (.inl x1), some (.inr (.inr r5)), some (.inr (.inr r3))] [.inr (.inr r5), .inl 1, .inl i6, .inr (.inr x0)] u2.2 = _
        refine Eq.trans (e1 hG PT_23 k23_40 _ _ _) ?_
        refine bdc fun r7 => ?_
        show G 23 43 [some (.inr (.inr x0)), some (.inl x1), some (.inr (.inr r5)), some (.inr (.inr r3))] [.inr (.inr r7), .inl 1, .inl i6, .inr (.inr x0)] u2.2 = _
        refine Eq.trans (e1 hG PT_23 k23_43 _ _ _) ?_
        refine bdc fun i8 => ?_
        show G 23 46 [some (.inr (.inr x0)), some (.inl x1), some (.inr (.inr r5)), some (.inr (.inr r3))] [.inl i8, .inl 1, .inl i6, .inr (.inr x0)] u2.2 = _
        refine Eq.trans (e1 hG PT_23 k23_46 _ _ _) ?_
        show G 23 47 [some (.inr (.inr x0)), some (.inl x1), some (.inr (.inr r5)), some (.inr (.inr r3))] [.inl (1 <<< (i8 &&& 31)), .inl i6, .inr (.inr x0)] u2.2 = _
        refine Eq.trans (e1 hG PT_23 k23_47 _ _ _) ?_
        show G 23 48 [some (.inr (.inr x0)), some (.inl x1), some (.inr (.inr r5)), some (.inr (.inr r3))] [.inl (i6 ||| (1 <<< (i8 &&& 31))), .inr (.inr x0)] u2.2 = _
        refine Eq.trans (e1 hG PT_23 k23_48 _ _ _) ?_
        refine bdc fun H9 => ?_
        rfl
    · rfl
theorem b23_51 {G : AG} (hG : FIX G) (x0 : Nat) (x1 : Int32) (o2 : Option AV) (x3 : Nat) (H : Hp) : G 23 51 [some (.inr (.inr x0)), some (.inl x1), o2, some (.inr (.inr x3))] [] H = (G 23 7 [some (.inr (.inr x0)), some (.inl (x1 + 1)), o2, some (.inr (.inr x3))] [] H) := by
  refine Eq.trans (e1 hG PT_23 k23_51 _ _ _) ?_
  show G 23 54 [some (.inr (.inr x0)), some (.inl (x1 + 1)), o2, some (.inr (.inr x3))] [] H = _
  refine Eq.trans (e1 hG PT_23 k23_54 _ _ _) ?_
  rfl
-- StepsAhead$Routine.pushOpen(I)V
theorem PT_24 : PT 24 = pt24 := rfl
theorem k24_0 : lkp pt24 0 = iP 1 (fAld 0) := rfl
theorem k24_1 : lkp pt24 1 = iRI 4 (gtI 25) := rfl
theorem k24_4 : lkp pt24 4 = iB 7 36 (b1 (fun x => decide (x < 0))) := rfl
theorem k24_7 : lkp pt24 7 = iP 8 (fAld 0) := rfl
theorem k24_8 : lkp pt24 8 = iRI 11 (gtI 25) := rfl
theorem k24_11 : lkp pt24 11 = iP 13 (fK (.inl 24)) := rfl
theorem k24_13 : lkp pt24 13 = iB 16 36 (b2 (fun x y => decide (y ≤ x))) := rfl
theorem k24_16 : lkp pt24 16 = iP 17 (fAld 0) := rfl
theorem k24_17 : lkp pt24 17 = iRR 20 (gtR 24) := rfl
theorem k24_20 : lkp pt24 20 = iP 21 (fAld 0) := rfl
theorem k24_21 : lkp pt24 21 = iRI 24 (gtI 25) := rfl
theorem k24_24 : lkp pt24 24 = iP 25 (fIld 1) := rfl
theorem k24_25 : lkp pt24 25 = iW 26 wAI := rfl
theorem k24_26 : lkp pt24 26 = iP 27 (fAld 0) := rfl
theorem k24_27 : lkp pt24 27 = iP 28 fDup := rfl
theorem k24_28 : lkp pt24 28 = iRI 31 (gtI 25) := rfl
theorem k24_31 : lkp pt24 31 = iP 32 (fK (.inl 1)) := rfl
theorem k24_32 : lkp pt24 32 = iP 33 (f2I (fun x y => x + y)) := rfl
theorem k24_33 : lkp pt24 33 = iW 36 (ptI 25) := rfl
theorem k24_36 : lkp pt24 36 = iRet rV := rfl
theorem b24_0 {G : AG} (hG : FIX G) (x0 : Nat) (x1 : Int32) (H : Hp) : G 24 0 [some (.inr (.inr x0)), some (.inl x1)] [] H = ((hgI H x0 25).bind fun i1 => bif decide ((i1 : Int32) < 0) then G 24 36 [some (.inr (.inr x0)), some (.inl x1)] [] H else (hgI H x0 25).bind fun i2 => bif decide ((24 : Int32) ≤ (i2 : Int32)) then G 24 36 [some (.inr (.inr x0)), some (.inl x1)] [] H else (hgR H x0 24).bind fun r3 => (hgI H x0 25).bind fun i4 => (hSI H r3 i4 x1).bind fun H5 => (hgI H5 x0 25).bind fun i6 => (hpI H5 x0 25 ((i6 + 1))).bind fun H7 => G 24 36 [some (.inr (.inr x0)), some (.inl x1)] [] H7) := by
  refine Eq.trans (e1 hG PT_24 k24_0 _ _ _) ?_
  show G 24 1 [some (.inr (.inr x0)), some (.inl x1)] [.inr (.inr x0)] H = _
  refine Eq.trans (e1 hG PT_24 k24_1 _ _ _) ?_
  refine bdc fun i1 => ?_
  show G 24 4 [some (.inr (.inr x0)), some (.inl x1)] [.inl i1] H = _
  refine Eq.trans (e1 hG PT_24 k24_4 _ _ _) ?_
  refine bfc ?_ ?_
  · rfl
  · show G 24 7 [some (.inr (.inr x0)), some (.inl x1)] [] H = _
    refine Eq.trans (e1 hG PT_24 k24_7 _ _ _) ?_
    show G 24 8 [some (.inr (.inr x0)), some (.inl x1)] [.inr (.inr x0)] H = _
    refine Eq.trans (e1 hG PT_24 k24_8 _ _ _) ?_
    refine bdc fun i2 => ?_
    show G 24 11 [some (.inr (.inr x0)), some (.inl x1)] [.inl i2] H = _
    refine Eq.trans (e1 hG PT_24 k24_11 _ _ _) ?_
    show G 24 13 [some (.inr (.inr x0)), some (.inl x1)] [.inl 24, .inl i2] H = _
    refine Eq.trans (e1 hG PT_24 k24_13 _ _ _) ?_
    refine bfc ?_ ?_
    · rfl
    · show G 24 16 [some (.inr (.inr x0)), some (.inl x1)] [] H = _
      refine Eq.trans (e1 hG PT_24 k24_16 _ _ _) ?_
      show G 24 17 [some (.inr (.inr x0)), some (.inl x1)] [.inr (.inr x0)] H = _
      refine Eq.trans (e1 hG PT_24 k24_17 _ _ _) ?_
      refine bdc fun r3 => ?_
      show G 24 20 [some (.inr (.inr x0)), some (.inl x1)] [.inr (.inr r3)] H = _
      refine Eq.trans (e1 hG PT_24 k24_20 _ _ _) ?_
      show G 24 21 [some (.inr (.inr x0)), some (.inl x1)] [.inr (.inr x0), .inr (.inr r3)] H = _
      refine Eq.trans (e1 hG PT_24 k24_21 _ _ _) ?_
      refine bdc fun i4 => ?_
      show G 24 24 [some (.inr (.inr x0)), some (.inl x1)] [.inl i4, .inr (.inr r3)] H = _
      refine Eq.trans (e1 hG PT_24 k24_24 _ _ _) ?_
      show G 24 25 [some (.inr (.inr x0)), some (.inl x1)] [.inl x1, .inl i4, .inr (.inr r3)] H = _
      refine Eq.trans (e1 hG PT_24 k24_25 _ _ _) ?_
      refine bdc fun H5 => ?_
      show G 24 26 [some (.inr (.inr x0)), some (.inl x1)] [] H5 = _
      refine Eq.trans (e1 hG PT_24 k24_26 _ _ _) ?_
      show G 24 27 [some (.inr (.inr x0)), some (.inl x1)] [.inr (.inr x0)] H5 = _
      refine Eq.trans (e1 hG PT_24 k24_27 _ _ _) ?_
      show G 24 28 [some (.inr (.inr x0)), some (.inl x1)] [.inr (.inr x0), .inr (.inr x0)] H5 = _
      refine Eq.trans (e1 hG PT_24 k24_28 _ _ _) ?_
      refine bdc fun i6 => ?_
      show G 24 31 [some (.inr (.inr x0)), some (.inl x1)] [.inl i6, .inr (.inr x0)] H5 = _
      refine Eq.trans (e1 hG PT_24 k24_31 _ _ _) ?_
      show G 24 32 [some (.inr (.inr x0)), some (.inl x1)] [.inl 1, .inl i6, .inr (.inr x0)] H5 = _
      refine Eq.trans (e1 hG PT_24 k24_32 _ _ _) ?_
      show G 24 33 [some (.inr (.inr x0)), some (.inl x1)] [.inl (i6 + 1), .inr (.inr x0)] H5 = _
      refine Eq.trans (e1 hG PT_24 k24_33 _ _ _) ?_
      refine bdc fun H7 => ?_
      rfl
theorem b24_36 {G : AG} (hG : FIX G) (x0 : Nat) (x1 : Int32) (H : Hp) : G 24 36 [some (.inr (.inr x0)), some (.inl x1)] [] H = (some (none, H)) := by
  exact e1 hG PT_24 k24_36 _ _ _
-- StepsAhead$Either.closedAt(II)V
theorem PT_25 : PT 25 = pt25 := rfl
theorem k25_0 : lkp pt25 0 = iP 1 (fIld 1) := rfl
theorem k25_1 : lkp pt25 1 = iP 3 (fK (.inl 7)) := rfl
theorem k25_3 : lkp pt25 3 = iB 6 14 (b2 (fun x y => decide (x ≠ y))) := rfl
theorem k25_6 : lkp pt25 6 = iP 7 (fAld 0) := rfl
theorem k25_7 : lkp pt25 7 = iP 8 (fIld 2) := rfl
theorem k25_8 : lkp pt25 8 = iW 11 (ptI 7) := rfl
theorem k25_11 : lkp pt25 11 = iP 19 fGo := rfl
theorem k25_14 : lkp pt25 14 = iP 15 (fAld 0) := rfl
theorem k25_15 : lkp pt25 15 = iP 16 (fIld 2) := rfl
theorem k25_16 : lkp pt25 16 = iW 19 (ptI 8) := rfl
theorem k25_19 : lkp pt25 19 = iRet rV := rfl
theorem b25_0 {G : AG} (hG : FIX G) (x0 : Nat) (x1 : Int32) (x2 : Int32) (H : Hp) : G 25 0 [some (.inr (.inr x0)), some (.inl x1), some (.inl x2)] [] H = (bif decide ((x1 : Int32) ≠ (7 : Int32)) then (hpI H x0 8 x2).bind fun H1 => G 25 19 [some (.inr (.inr x0)), some (.inl x1), some (.inl x2)] [] H1 else (hpI H x0 7 x2).bind fun H2 => G 25 19 [some (.inr (.inr x0)), some (.inl x1), some (.inl x2)] [] H2) := by
  refine Eq.trans (e1 hG PT_25 k25_0 _ _ _) ?_
  show G 25 1 [some (.inr (.inr x0)), some (.inl x1), some (.inl x2)] [.inl x1] H = _
  refine Eq.trans (e1 hG PT_25 k25_1 _ _ _) ?_
  show G 25 3 [some (.inr (.inr x0)), some (.inl x1), some (.inl x2)] [.inl 7, .inl x1] H = _
  refine Eq.trans (e1 hG PT_25 k25_3 _ _ _) ?_
  refine bfc ?_ ?_
  · show G 25 14 [some (.inr (.inr x0)), some (.inl x1), some (.inl x2)] [] H = _
    refine Eq.trans (e1 hG PT_25 k25_14 _ _ _) ?_
    show G 25 15 [some (.inr (.inr x0)), some (.inl x1), some (.inl x2)] [.inr (.inr x0)] H = _
    refine Eq.trans (e1 hG PT_25 k25_15 _ _ _) ?_
    show G 25 16 [some (.inr (.inr x0)), some (.inl x1), some (.inl x2)] [.inl x2, .inr (.inr x0)] H = _
    refine Eq.trans (e1 hG PT_25 k25_16 _ _ _) ?_
    refine bdc fun H1 => ?_
    rfl
  · show G 25 6 [some (.inr (.inr x0)), some (.inl x1), some (.inl x2)] [] H = _
    refine Eq.trans (e1 hG PT_25 k25_6 _ _ _) ?_
    show G 25 7 [some (.inr (.inr x0)), some (.inl x1), some (.inl x2)] [.inr (.inr x0)] H = _
    refine Eq.trans (e1 hG PT_25 k25_7 _ _ _) ?_
    show G 25 8 [some (.inr (.inr x0)), some (.inl x1), some (.inl x2)] [.inl x2, .inr (.inr x0)] H = _
    refine Eq.trans (e1 hG PT_25 k25_8 _ _ _) ?_
    refine bdc fun H2 => ?_
    show G 25 11 [some (.inr (.inr x0)), some (.inl x1), some (.inl x2)] [] H2 = _
    refine Eq.trans (e1 hG PT_25 k25_11 _ _ _) ?_
    rfl
theorem b25_19 {G : AG} (hG : FIX G) (x0 : Nat) (x1 : Int32) (x2 : Int32) (H : Hp) : G 25 19 [some (.inr (.inr x0)), some (.inl x1), some (.inl x2)] [] H = (some (none, H)) := by
  exact e1 hG PT_25 k25_19 _ _ _
-- StepsAhead$Loop.closedAt(II)V
theorem PT_26 : PT 26 = pt26 := rfl
theorem k26_0 : lkp pt26 0 = iP 1 (fAld 0) := rfl
theorem k26_1 : lkp pt26 1 = iP 2 (fIld 2) := rfl
theorem k26_2 : lkp pt26 2 = iW 5 (ptI 11) := rfl
theorem k26_5 : lkp pt26 5 = iRet rV := rfl
theorem b26_0 {G : AG} (hG : FIX G) (x0 : Nat) (x1 : Int32) (x2 : Int32) (H : Hp) : G 26 0 [some (.inr (.inr x0)), some (.inl x1), some (.inl x2)] [] H = ((hpI H x0 11 x2).bind fun H1 => some (none, H1)) := by
  refine Eq.trans (e1 hG PT_26 k26_0 _ _ _) ?_
  show G 26 1 [some (.inr (.inr x0)), some (.inl x1), some (.inl x2)] [.inr (.inr x0)] H = _
  refine Eq.trans (e1 hG PT_26 k26_1 _ _ _) ?_
  show G 26 2 [some (.inr (.inr x0)), some (.inl x1), some (.inl x2)] [.inl x2, .inr (.inr x0)] H = _
  refine Eq.trans (e1 hG PT_26 k26_2 _ _ _) ?_
  refine bdc fun H1 => ?_
  show G 26 5 [some (.inr (.inr x0)), some (.inl x1), some (.inl x2)] [] H1 = _
  exact e1 hG PT_26 k26_5 _ _ _
-- StepsAhead$Op.closedAt(II)V
theorem PT_27 : PT 27 = pt27 := rfl
theorem k27_0 : lkp pt27 0 = iRet rV := rfl
theorem b27_0 {G : AG} (hG : FIX G) (x0 : Nat) (x1 : Int32) (x2 : Int32) (H : Hp) : G 27 0 [some (.inr (.inr x0)), some (.inl x1), some (.inl x2)] [] H = (some (none, H)) := by
  exact e1 hG PT_27 k27_0 _ _ _
-- StepsAhead.forgetFrom(I)V
theorem PT_28 : PT 28 = pt28 := rfl
theorem k28_0 : lkp pt28 0 = iP 1 (fIld 1) := rfl
theorem k28_1 : lkp pt28 1 = iP 2 (fIst 2) := rfl
theorem k28_2 : lkp pt28 2 = iP 3 (fIld 2) := rfl
theorem k28_3 : lkp pt28 3 = iP 5 (fK (.inl 8)) := rfl
theorem k28_5 : lkp pt28 5 = iB 8 23 (b2 (fun x y => decide (y ≤ x))) := rfl
theorem k28_8 : lkp pt28 8 = iP 9 (fAld 0) := rfl
theorem k28_9 : lkp pt28 9 = iRR 12 (gtR 43) := rfl
theorem k28_12 : lkp pt28 12 = iP 13 (fIld 2) := rfl
theorem k28_13 : lkp pt28 13 = iRR 14 qAR := rfl
theorem k28_14 : lkp pt28 14 = iCK 17 7 29 1 1 0 := rfl
theorem k28_17 : lkp pt28 17 = iP 20 (fInc 2 1) := rfl
theorem k28_20 : lkp pt28 20 = iP 2 fGo := rfl
theorem k28_23 : lkp pt28 23 = iRet rV := rfl
theorem b28_0 {G : AG} (hG : FIX G) (x0 : Nat) (x1 : Int32) (H : Hp) : G 28 0 [some (.inr (.inr x0)), some (.inl x1), none] [] H = (G 28 2 [some (.inr (.inr x0)), some (.inl x1), some (.inl x1)] [] H) := by
  refine Eq.trans (e1 hG PT_28 k28_0 _ _ _) ?_
  show G 28 1 [some (.inr (.inr x0)), some (.inl x1), none] [.inl x1] H = _
  refine Eq.trans (e1 hG PT_28 k28_1 _ _ _) ?_
  rfl
theorem b28_2 {G : AG} (hG : FIX G) (x0 : Nat) (x1 : Int32) (x2 : Int32) (H : Hp) : G 28 2 [some (.inr (.inr x0)), some (.inl x1), some (.inl x2)] [] H = (bif decide ((8 : Int32) ≤ (x2 : Int32)) then some (none, H) else (hgR H x0 43).bind fun r1 => (hAR H r1 x2).bind fun r2 => bif Nat.beq (H.1 r2).1 7 then (G 29 0 [some (.inr (.inr r2))] [] H).bind fun u3 => (asV u3.1).bind fun _ => G 28 2 [some (.inr (.inr x0)), some (.inl x1), some (.inl (x2 + 1))] [] u3.2 else none) := by
  refine Eq.trans (e1 hG PT_28 k28_2 _ _ _) ?_
  show G 28 3 [some (.inr (.inr x0)), some (.inl x1), some (.inl x2)] [.inl x2] H = _
  refine Eq.trans (e1 hG PT_28 k28_3 _ _ _) ?_
  show G 28 5 [some (.inr (.inr x0)), some (.inl x1), some (.inl x2)] [.inl 8, .inl x2] H = _
  refine Eq.trans (e1 hG PT_28 k28_5 _ _ _) ?_
  refine bfc ?_ ?_
  · show G 28 23 [some (.inr (.inr x0)), some (.inl x1), some (.inl x2)] [] H = _
    exact e1 hG PT_28 k28_23 _ _ _
  · show G 28 8 [some (.inr (.inr x0)), some (.inl x1), some (.inl x2)] [] H = _
    refine Eq.trans (e1 hG PT_28 k28_8 _ _ _) ?_
    show G 28 9 [some (.inr (.inr x0)), some (.inl x1), some (.inl x2)] [.inr (.inr x0)] H = _
    refine Eq.trans (e1 hG PT_28 k28_9 _ _ _) ?_
    refine bdc fun r1 => ?_
    show G 28 12 [some (.inr (.inr x0)), some (.inl x1), some (.inl x2)] [.inr (.inr r1)] H = _
    refine Eq.trans (e1 hG PT_28 k28_12 _ _ _) ?_
    show G 28 13 [some (.inr (.inr x0)), some (.inl x1), some (.inl x2)] [.inl x2, .inr (.inr r1)] H = _
    refine Eq.trans (e1 hG PT_28 k28_13 _ _ _) ?_
    refine bdc fun r2 => ?_
    show G 28 14 [some (.inr (.inr x0)), some (.inl x1), some (.inl x2)] [.inr (.inr r2)] H = _
    refine Eq.trans (e1 hG PT_28 k28_14 _ _ _) ?_
    refine bfc ?_ ?_
    · refine bdc fun u3 => ?_
      refine bdc fun _ => ?_
      show G 28 17 [some (.inr (.inr x0)), some (.inl x1), some (.inl x2)] [] u3.2 = _
      refine Eq.trans (e1 hG PT_28 k28_17 _ _ _) ?_
      show G 28 20 [some (.inr (.inr x0)), some (.inl x1), some (.inl (x2 + 1))] [] u3.2 = _
      refine Eq.trans (e1 hG PT_28 k28_20 _ _ _) ?_
      rfl
    · rfl
-- StepsAhead$Routine.forgetFormulas()V
theorem PT_29 : PT 29 = pt29 := rfl
theorem k29_0 : lkp pt29 0 = iP 1 (fAld 0) := rfl
theorem k29_1 : lkp pt29 1 = iRR 4 (gtR 28) := rfl
theorem k29_4 : lkp pt29 4 = iP 5 (fK (.inl 0)) := rfl
theorem k29_5 : lkp pt29 5 = iP 6 (fK (.inl 0)) := rfl
theorem k29_6 : lkp pt29 6 = iW 7 wAI := rfl
theorem k29_7 : lkp pt29 7 = iP 8 (fAld 0) := rfl
theorem k29_8 : lkp pt29 8 = iRR 11 (gtR 28) := rfl
theorem k29_11 : lkp pt29 11 = iP 12 (fK (.inl 1)) := rfl
theorem k29_12 : lkp pt29 12 = iP 13 (fK (.inl 0)) := rfl
theorem k29_13 : lkp pt29 13 = iW 14 wAI := rfl
theorem k29_14 : lkp pt29 14 = iRet rV := rfl
theorem b29_0 {G : AG} (hG : FIX G) (x0 : Nat) (H : Hp) : G 29 0 [some (.inr (.inr x0))] [] H = ((hgR H x0 28).bind fun r1 => (hSI H r1 0 0).bind fun H2 => (hgR H2 x0 28).bind fun r3 => (hSI H2 r3 1 0).bind fun H4 => some (none, H4)) := by
  refine Eq.trans (e1 hG PT_29 k29_0 _ _ _) ?_
  show G 29 1 [some (.inr (.inr x0))] [.inr (.inr x0)] H = _
  refine Eq.trans (e1 hG PT_29 k29_1 _ _ _) ?_
  refine bdc fun r1 => ?_
  show G 29 4 [some (.inr (.inr x0))] [.inr (.inr r1)] H = _
  refine Eq.trans (e1 hG PT_29 k29_4 _ _ _) ?_
  show G 29 5 [some (.inr (.inr x0))] [.inl 0, .inr (.inr r1)] H = _
  refine Eq.trans (e1 hG PT_29 k29_5 _ _ _) ?_
  show G 29 6 [some (.inr (.inr x0))] [.inl 0, .inl 0, .inr (.inr r1)] H = _
  refine Eq.trans (e1 hG PT_29 k29_6 _ _ _) ?_
  refine bdc fun H2 => ?_
  show G 29 7 [some (.inr (.inr x0))] [] H2 = _
  refine Eq.trans (e1 hG PT_29 k29_7 _ _ _) ?_
  show G 29 8 [some (.inr (.inr x0))] [.inr (.inr x0)] H2 = _
  refine Eq.trans (e1 hG PT_29 k29_8 _ _ _) ?_
  refine bdc fun r3 => ?_
  show G 29 11 [some (.inr (.inr x0))] [.inr (.inr r3)] H2 = _
  refine Eq.trans (e1 hG PT_29 k29_11 _ _ _) ?_
  show G 29 12 [some (.inr (.inr x0))] [.inl 1, .inr (.inr r3)] H2 = _
  refine Eq.trans (e1 hG PT_29 k29_12 _ _ _) ?_
  show G 29 13 [some (.inr (.inr x0))] [.inl 0, .inl 1, .inr (.inr r3)] H2 = _
  refine Eq.trans (e1 hG PT_29 k29_13 _ _ _) ?_
  refine bdc fun H4 => ?_
  show G 29 14 [some (.inr (.inr x0))] [] H4 = _
  exact e1 hG PT_29 k29_14 _ _ _
-- StepsAhead.loop(I)I
theorem PT_30 : PT 30 = pt30 := rfl
theorem k30_0 : lkp pt30 0 = iP 1 (fAld 0) := rfl
theorem k30_1 : lkp pt30 1 = iP 2 (fIld 1) := rfl
theorem k30_2 : lkp pt30 2 = iCK 5 11 15 2 2 3 := rfl
theorem k30_5 : lkp pt30 5 = iP 6 (fAst 2) := rfl
theorem k30_6 : lkp pt30 6 = iP 7 (fAld 2) := rfl
theorem k30_7 : lkp pt30 7 = iB 10 13 bNN := rfl
theorem k30_10 : lkp pt30 10 = iP 12 (fK (.inl (-1000001))) := rfl
theorem k30_12 : lkp pt30 12 = iRet rI := rfl
theorem k30_13 : lkp pt30 13 = iP 14 (fAld 2) := rfl
theorem k30_14 : lkp pt30 14 = iCK 17 7 17 3 1 1 := rfl
theorem k30_17 : lkp pt30 17 = iP 18 (fIst 3) := rfl
theorem k30_18 : lkp pt30 18 = iP 19 (fIld 3) := rfl
theorem k30_19 : lkp pt30 19 = iP 20 (fK (.inl 3)) := rfl
theorem k30_20 : lkp pt30 20 = iB 23 26 (b2 (fun x y => decide (x < y))) := rfl
theorem k30_23 : lkp pt30 23 = iP 25 (fK (.inl (-1000002))) := rfl
theorem k30_25 : lkp pt30 25 = iRet rI := rfl
theorem k30_26 : lkp pt30 26 = iP 27 (fAld 2) := rfl
theorem k30_27 : lkp pt30 27 = iCK 30 7 16 1 1 1 := rfl
theorem k30_30 : lkp pt30 30 = iB 33 36 (b1 (fun x => decide (x = 0))) := rfl
theorem k30_33 : lkp pt30 33 = iP 35 (fK (.inl (-1000003))) := rfl
theorem k30_35 : lkp pt30 35 = iRet rI := rfl
theorem k30_36 : lkp pt30 36 = iP 37 (fAld 0) := rfl
theorem k30_37 : lkp pt30 37 = iP 38 (fAld 2) := rfl
theorem k30_38 : lkp pt30 38 = iW 41 (wNew 3 6) := rfl
theorem k30_41 : lkp pt30 41 = iP 42 fDup := rfl
theorem k30_42 : lkp pt30 42 = iP 43 (fAld 2) := rfl
theorem k30_43 : lkp pt30 43 = iRI 46 (gtI 23) := rfl
theorem k30_46 : lkp pt30 46 = iP 47 (fIld 3) := rfl
theorem k30_47 : lkp pt30 47 = iP 48 (fAld 0) := rfl
theorem k30_48 : lkp pt30 48 = iRR 51 (gtR 45) := rfl
theorem k30_51 : lkp pt30 51 = iW 54 wCl := rfl
theorem k30_54 : lkp pt30 54 = iRR 57 (qCast [20]) := rfl
theorem k30_57 : lkp pt30 57 = iCK 60 3 31 4 4 0 := rfl
theorem k30_60 : lkp pt30 60 = iCK 63 11 21 3 3 1 := rfl
theorem k30_63 : lkp pt30 63 = iRet rI := rfl
theorem b30_0 {G : AG} (hG : FIX G) (x0 : Nat) (x1 : Int32) (H : Hp) : G 30 0 [some (.inr (.inr x0)), some (.inl x1), none, none] [] H = (bif Nat.beq (H.1 x0).1 11 then (G 15 0 [some (.inr (.inr x0)), some (.inl x1)] [] H).bind fun u1 => (asR u1.1).bind fun r2 => bif !(Nat.beq r2 0) then bif Nat.beq (u1.2.1 r2).1 7 then (G 17 0 [some (.inr (.inr r2)), none, none] [] u1.2).bind fun u3 => (asI u3.1).bind fun i4 => bif decide ((i4 : Int32) < (3 : Int32)) then bif Nat.beq (u3.2.1 r2).1 7 then (G 16 0 [some (.inr (.inr r2))] [] u3.2).bind fun u5 => (asI u5.1).bind fun i6 => bif decide ((i6 : Int32) = 0) then (hNw u5.2 3 6).bind fun H7 => (hgI H7 r2 23).bind fun i8 => (hgR H7 x0 45).bind fun r9 => (hCl H7 r9).bind fun H10 => ((bif Nat.beq H7.2.1.1 0 || [20].any (Nat.beq (H10.1 H7.2.1.1).1) then some H7.2.1.1 else none)).bind fun r11 => bif Nat.beq (H10.1 u5.2.2.1.1).1 3 then (G 31 0 [some (.inr (.inr u5.2.2.1.1)), some (.inl i8), some (.inl i4), some (.inr (.inr r11))] [] H10).bind fun u12 => (asV u12.1).bind fun _ => bif Nat.beq (u12.2.1 x0).1 11 then (G 21 0 [some (.inr (.inr x0)), some (.inr (.inr r2)), some (.inr (.inr u5.2.2.1.1))] [] u12.2).bind fun u13 => (asI u13.1).bind fun i14 => some (some (.inl i14), u13.2) else none else none else some (some (.inl ((-1000003))), u5.2) else none else some (some (.inl ((-1000002))), u3.2) else none else some (some (.inl ((-1000001))), u1.2) else none) := by
  refine Eq.trans (e1 hG PT_30 k30_0 _ _ _) ?_
  show G 30 1 [some (.inr (.inr x0)), some (.inl x1), none, none] [.inr (.inr x0)] H = _
  refine Eq.trans (e1 hG PT_30 k30_1 _ _ _) ?_
  show G 30 2 [some (.inr (.inr x0)), some (.inl x1), none, none] [.inl x1, .inr (.inr x0)] H = _
  refine Eq.trans (e1 hG PT_30 k30_2 _ _ _) ?_
  refine bfc ?_ ?_
  · refine bdc fun u1 => ?_
    refine bdc fun r2 => ?_
    show G 30 5 [some (.inr (.inr x0)), some (.inl x1), none, none] [.inr (.inr r2)] u1.2 = _
    refine Eq.trans (e1 hG PT_30 k30_5 _ _ _) ?_
    show G 30 6 [some (.inr (.inr x0)), some (.inl x1), some (.inr (.inr r2)), none] [] u1.2 = _
    refine Eq.trans (e1 hG PT_30 k30_6 _ _ _) ?_
    show G 30 7 [some (.inr (.inr x0)), some (.inl x1), some (.inr (.inr r2)), none] [.inr (.inr r2)] u1.2 = _
    refine Eq.trans (e1 hG PT_30 k30_7 _ _ _) ?_
    refine bfc ?_ ?_
    · show G 30 13 [some (.inr (.inr x0)), some (.inl x1), some (.inr (.inr r2)), none] [] u1.2 = _
      refine Eq.trans (e1 hG PT_30 k30_13 _ _ _) ?_
      show G 30 14 [some (.inr (.inr x0)), some (.inl x1), some (.inr (.inr r2)), none] [.inr (.inr r2)] u1.2 = _
      refine Eq.trans (e1 hG PT_30 k30_14 _ _ _) ?_
      refine bfc ?_ ?_
      · refine bdc fun u3 => ?_
        refine bdc fun i4 => ?_
        show G 30 17 [some (.inr (.inr x0)), some (.inl x1), some (.inr (.inr r2)), none] [.inl i4] u3.2 = _
        refine Eq.trans (e1 hG PT_30 k30_17 _ _ _) ?_
        show G 30 18 [some (.inr (.inr x0)), some (.inl x1), some (.inr (.inr r2)), some (.inl i4)] [] u3.2 = _
        refine Eq.trans (e1 hG PT_30 k30_18 _ _ _) ?_
        show G 30 19 [some (.inr (.inr x0)), some (.inl x1), some (.inr (.inr r2)), some (.inl i4)] [.inl i4] u3.2 = _
        refine Eq.trans (e1 hG PT_30 k30_19 _ _ _) ?_
        show G 30 20 [some (.inr (.inr x0)), some (.inl x1), some (.inr (.inr r2)), some (.inl i4)] [.inl 3, .inl i4] u3.2 = _
        refine Eq.trans (e1 hG PT_30 k30_20 _ _ _) ?_
        refine bfc ?_ ?_
        · show G 30 26 [some (.inr (.inr x0)), some (.inl x1), some (.inr (.inr r2)), some (.inl i4)] [] u3.2 = _
          refine Eq.trans (e1 hG PT_30 k30_26 _ _ _) ?_
          show G 30 27 [some (.inr (.inr x0)), some (.inl x1), some (.inr (.inr r2)), some (.inl i4)] [.inr (.inr r2)] u3.2 = _
          refine Eq.trans (e1 hG PT_30 k30_27 _ _ _) ?_
          refine bfc ?_ ?_
          · refine bdc fun u5 => ?_
            refine bdc fun i6 => ?_
            show G 30 30 [some (.inr (.inr x0)), some (.inl x1), some (.inr (.inr r2)), some (.inl i4)] [.inl i6] u5.2 = _
            refine Eq.trans (e1 hG PT_30 k30_30 _ _ _) ?_
            refine bfc ?_ ?_
            · show G 30 36 [some (.inr (.inr x0)), some (.inl x1), some (.inr (.inr r2)), some (.inl i4)] [] u5.2 = _
              refine Eq.trans (e1 hG PT_30 k30_36 _ _ _) ?_
              show G 30 37 [some (.inr (.inr x0)), some (.inl x1), some (.inr (.inr r2)), some (.inl i4)] [.inr (.inr x0)] u5.2 = _
              refine Eq.trans (e1 hG PT_30 k30_37 _ _ _) ?_
              show G 30 38 [some (.inr (.inr x0)), some (.inl x1), some (.inr (.inr r2)), some (.inl i4)] [.inr (.inr r2), .inr (.inr x0)] u5.2 = _
              refine Eq.trans (e1 hG PT_30 k30_38 _ _ _) ?_
              refine bdc fun H7 => ?_
              show G 30 41 [some (.inr (.inr x0)), some (.inl x1), some (.inr (.inr r2)), some (.inl i4)] [.inr (.inr u5.2.2.1.1), .inr (.inr r2), .inr (.inr x0)] H7 = _
              refine Eq.trans (e1 hG PT_30 k30_41 _ _ _) ?_
              show G 30 42 [some (.inr (.inr x0)), some (.inl x1), some (.inr (.inr r2)), some (.inl i4)] [.inr (.inr u5.2.2.1.1), .inr (.inr u5.2.2.1.1), .inr (.inr r2), .inr (.inr x0)] H7 = _
              refine Eq.trans (e1 hG PT_30 k30_42 _ _ _) ?_
              show G 30 43 [some (.inr (.inr x0)), some (.inl x1), some (.inr (.inr r2)), some (.inl i4)] [.inr (.inr r2), .inr (.inr u5.2.2.1.1), .inr (.inr u5.2.2.1.1), .inr (.inr r2), .inr (.inr x0)] H7 = _
              refine Eq.trans (e1 hG PT_30 k30_43 _ _ _) ?_
              refine bdc fun i8 => ?_
              show G 30 46 [some (.inr (.inr x0)), some (.inl x1), some (.inr (.inr r2)), some (.inl i4)] [.inl i8, .inr (.inr u5.2.2.1.1), .inr (.inr u5.2.2.1.1), .inr (.inr r2), .inr (.inr x0)] H7 = _
              refine Eq.trans (e1 hG PT_30 k30_46 _ _ _) ?_
              show G 30 47 [some (.inr (.inr x0)), some (.inl x1), some (.inr (.inr r2)), some (.inl i4)] [.inl i4, .inl i8, .inr (.inr u5.2.2.1.1), .inr (.inr u5.2.2.1.1), .inr (.inr r2), .inr (.inr x0)] H7 = _
              refine Eq.trans (e1 hG PT_30 k30_47 _ _ _) ?_
              show G 30 48 [some (.inr (.inr x0)), some (.inl x1), some (.inr (.inr r2)), some (.inl i4)] [.inr (.inr x0), .inl i4, .inl i8, .inr (.inr u5.2.2.1.1), .inr (.inr u5.2.2.1.1), .inr (.inr r2), .inr (.inr x0)] H7 = _
              refine Eq.trans (e1 hG PT_30 k30_48 _ _ _) ?_
              refine bdc fun r9 => ?_
              show G 30 51 [some (.inr (.inr x0)), some (.inl x1), some (.inr (.inr r2)), some (.inl i4)] [.inr (.inr r9), .inl i4, .inl i8, .inr (.inr u5.2.2.1.1), .inr (.inr u5.2.2.1.1), .inr (.inr r2), .inr (.inr x0)] H7 = _
              refine Eq.trans (e1 hG PT_30 k30_51 _ _ _) ?_
              refine bdc fun H10 => ?_
              show G 30 54 [some (.inr (.inr x0)), some (.inl x1), some (.inr (.inr r2)), some (.inl i4)] [.inr (.inr H7.2.1.1), .inl i4, .inl i8, .inr (.inr u5.2.2.1.1), .inr (.inr u5.2.2.1.1), .inr (.inr r2), .inr (.inr x0)] H10 = _
              refine Eq.trans (e1 hG PT_30 k30_54 _ _ _) ?_
              refine bdc fun r11 => ?_
              show G 30 57 [some (.inr (.inr x0)), some (.inl x1), some (.inr (.inr r2)), some (.inl i4)] [.inr (.inr r11), .inl i4, .inl i8, .inr (.inr u5.2.2.1.1), .inr (.inr u5.2.2.1.1), .inr (.inr r2), .inr (.inr x0)] H10 = _
              refine Eq.trans (e1 hG PT_30 k30_57 _ _ _) ?_
              refine bfc ?_ ?_
              · refine bdc fun u12 => ?_
                refine bdc fun _ => ?_
                show G 30 60 [some (.inr (.inr x0)), some (.inl x1), some (.inr (.inr r2)), some (.inl i4)] [.inr (.inr u5.2.2.1.1), .inr (.inr r2), .inr (.inr x0)] u12.2 = _
                refine Eq.trans (e1 hG PT_30 k30_60 _ _ _) ?_
                refine bfc ?_ ?_
                · refine bdc fun u13 => ?_
                  refine bdc fun i14 => ?_
                  show G 30 63 [some (.inr (.inr x0)), some (.inl x1), some (.inr (.inr r2)), some (.inl i4)] [.inl i14] u13.2 = _
                  exact e1 hG PT_30 k30_63 _ _ _
                · rfl
              · rfl
            · show G 30 33 [some (.inr (.inr x0)), some (.inl x1), some (.inr (.inr r2)), some (.inl i4)] [] u5.2 = _
              refine Eq.trans (e1 hG PT_30 k30_33 _ _ _) ?_
              show G 30 35 [some (.inr (.inr x0)), some (.inl x1), some (.inr (.inr r2)), some (.inl i4)] [.inl (-1000003)] u5.2 = _
              exact e1 hG PT_30 k30_35 _ _ _
          · rfl
        · show G 30 23 [some (.inr (.inr x0)), some (.inl x1), some (.inr (.inr r2)), some (.inl i4)] [] u3.2 = _
          refine Eq.trans (e1 hG PT_30 k30_23 _ _ _) ?_
          show G 30 25 [some (.inr (.inr x0)), some (.inl x1), some (.inr (.inr r2)), some (.inl i4)] [.inl (-1000002)] u3.2 = _
          exact e1 hG PT_30 k30_25 _ _ _
      · rfl
    · show G 30 10 [some (.inr (.inr x0)), some (.inl x1), some (.inr (.inr r2)), none] [] u1.2 = _
      refine Eq.trans (e1 hG PT_30 k30_10 _ _ _) ?_
      show G 30 12 [some (.inr (.inr x0)), some (.inl x1), some (.inr (.inr r2)), none] [.inl (-1000001)] u1.2 = _
      exact e1 hG PT_30 k30_12 _ _ _
  · rfl
-- StepsAhead$Loop.<init>(II[I)V
theorem PT_31 : PT 31 = pt31 := rfl
theorem k31_0 : lkp pt31 0 = iP 1 (fAld 0) := rfl
theorem k31_1 : lkp pt31 1 = iP 2 (fK (.inl 3)) := rfl
theorem k31_2 : lkp pt31 2 = iP 3 (fIld 1) := rfl
theorem k31_3 : lkp pt31 3 = iP 4 (fIld 2) := rfl
theorem k31_4 : lkp pt31 4 = iP 5 (fAld 3) := rfl
theorem k31_5 : lkp pt31 5 = iCK 8 3 32 5 5 0 := rfl
theorem k31_8 : lkp pt31 8 = iP 9 (fAld 0) := rfl
theorem k31_9 : lkp pt31 9 = iP 10 (fK (.inl (-1))) := rfl
theorem k31_10 : lkp pt31 10 = iW 13 (ptI 11) := rfl
theorem k31_13 : lkp pt31 13 = iRet rV := rfl
theorem b31_0 {G : AG} (hG : FIX G) (x0 : Nat) (x1 : Int32) (x2 : Int32) (x3 : Nat) (H : Hp) : G 31 0 [some (.inr (.inr x0)), some (.inl x1), some (.inl x2), some (.inr (.inr x3))] [] H = (bif Nat.beq (H.1 x0).1 3 then (G 32 0 [some (.inr (.inr x0)), some (.inl 3), some (.inl x1), some (.inl x2), some (.inr (.inr x3))] [] H).bind fun u1 => (asV u1.1).bind fun _ => (hpI u1.2 x0 11 ((-1))).bind fun H2 => some (none, H2) else none) := by
  refine Eq.trans (e1 hG PT_31 k31_0 _ _ _) ?_
  show G 31 1 [some (.inr (.inr x0)), some (.inl x1), some (.inl x2), some (.inr (.inr x3))] [.inr (.inr x0)] H = _
  refine Eq.trans (e1 hG PT_31 k31_1 _ _ _) ?_
  show G 31 2 [some (.inr (.inr x0)), some (.inl x1), some (.inl x2), some (.inr (.inr x3))] [.inl 3, .inr (.inr x0)] H = _
  refine Eq.trans (e1 hG PT_31 k31_2 _ _ _) ?_
  show G 31 3 [some (.inr (.inr x0)), some (.inl x1), some (.inl x2), some (.inr (.inr x3))] [.inl x1, .inl 3, .inr (.inr x0)] H = _
  refine Eq.trans (e1 hG PT_31 k31_3 _ _ _) ?_
  show G 31 4 [some (.inr (.inr x0)), some (.inl x1), some (.inl x2), some (.inr (.inr x3))] [.inl x2, .inl x1, .inl 3, .inr (.inr x0)] H = _
  refine Eq.trans (e1 hG PT_31 k31_4 _ _ _) ?_
  show G 31 5 [some (.inr (.inr x0)), some (.inl x1), some (.inl x2), some (.inr (.inr x3))] [.inr (.inr x3), .inl x2, .inl x1, .inl 3, .inr (.inr x0)] H = _
  refine Eq.trans (e1 hG PT_31 k31_5 _ _ _) ?_
  refine bfc ?_ ?_
  · refine bdc fun u1 => ?_
    refine bdc fun _ => ?_
    show G 31 8 [some (.inr (.inr x0)), some (.inl x1), some (.inl x2), some (.inr (.inr x3))] [] u1.2 = _
    refine Eq.trans (e1 hG PT_31 k31_8 _ _ _) ?_
    show G 31 9 [some (.inr (.inr x0)), some (.inl x1), some (.inl x2), some (.inr (.inr x3))] [.inr (.inr x0)] u1.2 = _
    refine Eq.trans (e1 hG PT_31 k31_9 _ _ _) ?_
    show G 31 10 [some (.inr (.inr x0)), some (.inl x1), some (.inl x2), some (.inr (.inr x3))] [.inl (-1), .inr (.inr x0)] u1.2 = _
    refine Eq.trans (e1 hG PT_31 k31_10 _ _ _) ?_
    refine bdc fun H2 => ?_
    show G 31 13 [some (.inr (.inr x0)), some (.inl x1), some (.inl x2), some (.inr (.inr x3))] [] H2 = _
    exact e1 hG PT_31 k31_13 _ _ _
  · rfl
-- StepsAhead$Counted.<init>(III[I)V
theorem PT_32 : PT 32 = pt32 := rfl
theorem k32_0 : lkp pt32 0 = iP 1 (fAld 0) := rfl
theorem k32_1 : lkp pt32 1 = iP 2 (fIld 1) := rfl
theorem k32_2 : lkp pt32 2 = iP 3 (fIld 2) := rfl
theorem k32_3 : lkp pt32 3 = iP 4 (fIld 3) := rfl
theorem k32_4 : lkp pt32 4 = iP 5 (fK (.inl (-1))) := rfl
theorem k32_5 : lkp pt32 5 = iCV 8 5 0 [(1, 20, 5), (3, 20, 5)] := rfl
theorem k32_8 : lkp pt32 8 = iP 9 (fAld 0) := rfl
theorem k32_9 : lkp pt32 9 = iP 11 (fAld 4) := rfl
theorem k32_11 : lkp pt32 11 = iW 14 (ptR 0) := rfl
theorem k32_14 : lkp pt32 14 = iRet rV := rfl
theorem b32_0 {G : AG} (hG : FIX G) (x0 : Nat) (x1 : Int32) (x2 : Int32) (x3 : Int32) (x4 : Nat) (H : Hp) : G 32 0 [some (.inr (.inr x0)), some (.inl x1), some (.inl x2), some (.inl x3), some (.inr (.inr x4))] [] H = ((slk [(1, 20, 5), (3, 20, 5)] (H.1 x0).1).bind fun w2 => (G w2.1 0 (padA w2.2 [some (.inr (.inr x0)), some (.inl x1), some (.inl x2), some (.inl x3), some (.inl ((-1)))]) [] H).bind fun u1 => (asV u1.1).bind fun _ => (hpR u1.2 x0 0 x4).bind fun H3 => some (none, H3)) := by
  refine Eq.trans (e1 hG PT_32 k32_0 _ _ _) ?_
  show G 32 1 [some (.inr (.inr x0)), some (.inl x1), some (.inl x2), some (.inl x3), some (.inr (.inr x4))] [.inr (.inr x0)] H = _
  refine Eq.trans (e1 hG PT_32 k32_1 _ _ _) ?_
  show G 32 2 [some (.inr (.inr x0)), some (.inl x1), some (.inl x2), some (.inl x3), some (.inr (.inr x4))] [.inl x1, .inr (.inr x0)] H = _
  refine Eq.trans (e1 hG PT_32 k32_2 _ _ _) ?_
  show G 32 3 [some (.inr (.inr x0)), some (.inl x1), some (.inl x2), some (.inl x3), some (.inr (.inr x4))] [.inl x2, .inl x1, .inr (.inr x0)] H = _
  refine Eq.trans (e1 hG PT_32 k32_3 _ _ _) ?_
  show G 32 4 [some (.inr (.inr x0)), some (.inl x1), some (.inl x2), some (.inl x3), some (.inr (.inr x4))] [.inl x3, .inl x2, .inl x1, .inr (.inr x0)] H = _
  refine Eq.trans (e1 hG PT_32 k32_4 _ _ _) ?_
  show G 32 5 [some (.inr (.inr x0)), some (.inl x1), some (.inl x2), some (.inl x3), some (.inr (.inr x4))] [.inl (-1), .inl x3, .inl x2, .inl x1, .inr (.inr x0)] H = _
  refine Eq.trans (e1 hG PT_32 k32_5 _ _ _) ?_
  refine bdc fun w2 => ?_
  refine bdc fun u1 => ?_
  refine bdc fun _ => ?_
  show G 32 8 [some (.inr (.inr x0)), some (.inl x1), some (.inl x2), some (.inl x3), some (.inr (.inr x4))] [] u1.2 = _
  refine Eq.trans (e1 hG PT_32 k32_8 _ _ _) ?_
  show G 32 9 [some (.inr (.inr x0)), some (.inl x1), some (.inl x2), some (.inl x3), some (.inr (.inr x4))] [.inr (.inr x0)] u1.2 = _
  refine Eq.trans (e1 hG PT_32 k32_9 _ _ _) ?_
  show G 32 11 [some (.inr (.inr x0)), some (.inl x1), some (.inl x2), some (.inl x3), some (.inr (.inr x4))] [.inr (.inr x4), .inr (.inr x0)] u1.2 = _
  refine Eq.trans (e1 hG PT_32 k32_11 _ _ _) ?_
  refine bdc fun H3 => ?_
  show G 32 14 [some (.inr (.inr x0)), some (.inl x1), some (.inl x2), some (.inl x3), some (.inr (.inr x4))] [] H3 = _
  exact e1 hG PT_32 k32_14 _ _ _
-- StepsAhead.call(II)I
theorem PT_33 : PT 33 = pt33 := rfl
theorem k33_0 : lkp pt33 0 = iP 1 (fAld 0) := rfl
theorem k33_1 : lkp pt33 1 = iP 2 (fIld 1) := rfl
theorem k33_2 : lkp pt33 2 = iCK 5 11 15 2 2 3 := rfl
theorem k33_5 : lkp pt33 5 = iP 6 (fAst 3) := rfl
theorem k33_6 : lkp pt33 6 = iP 7 (fAld 0) := rfl
theorem k33_7 : lkp pt33 7 = iP 8 (fIld 2) := rfl
theorem k33_8 : lkp pt33 8 = iCK 11 11 15 2 2 3 := rfl
theorem k33_11 : lkp pt33 11 = iP 13 (fAst 4) := rfl
theorem k33_13 : lkp pt33 13 = iP 14 (fAld 3) := rfl
theorem k33_14 : lkp pt33 14 = iB 17 27 bN := rfl
theorem k33_17 : lkp pt33 17 = iP 19 (fAld 4) := rfl
theorem k33_19 : lkp pt33 19 = iB 22 27 bN := rfl
theorem k33_22 : lkp pt33 22 = iP 23 (fIld 2) := rfl
theorem k33_23 : lkp pt33 23 = iP 24 (fIld 1) := rfl
theorem k33_24 : lkp pt33 24 = iB 27 30 (b2 (fun x y => decide (x < y))) := rfl
theorem k33_27 : lkp pt33 27 = iP 29 (fK (.inl (-1000001))) := rfl
theorem k33_29 : lkp pt33 29 = iRet rI := rfl
theorem k33_30 : lkp pt33 30 = iP 31 (fAld 3) := rfl
theorem k33_31 : lkp pt33 31 = iCK 34 7 16 1 1 1 := rfl
theorem k33_34 : lkp pt33 34 = iB 37 40 (b1 (fun x => decide (x = 0))) := rfl
theorem k33_37 : lkp pt33 37 = iP 39 (fK (.inl (-1000003))) := rfl
theorem k33_39 : lkp pt33 39 = iRet rI := rfl
theorem k33_40 : lkp pt33 40 = iP 41 (fAld 0) := rfl
theorem k33_41 : lkp pt33 41 = iRR 44 (gtR 45) := rfl
theorem k33_44 : lkp pt33 44 = iW 47 wCl := rfl
theorem k33_47 : lkp pt33 47 = iRR 50 (qCast [20]) := rfl
theorem k33_50 : lkp pt33 50 = iP 52 (fAst 5) := rfl
theorem k33_52 : lkp pt33 52 = iP 53 (fAld 0) := rfl
theorem k33_53 : lkp pt33 53 = iRR 56 (gtR 46) := rfl
theorem k33_56 : lkp pt33 56 = iW 59 wCl := rfl
theorem k33_59 : lkp pt33 59 = iRR 62 (qCast [20]) := rfl
theorem k33_62 : lkp pt33 62 = iP 64 (fAst 6) := rfl
theorem k33_64 : lkp pt33 64 = iP 65 (fAld 0) := rfl
theorem k33_65 : lkp pt33 65 = iP 66 (fAld 3) := rfl
theorem k33_66 : lkp pt33 66 = iW 69 (wNew 1 7) := rfl
theorem k33_69 : lkp pt33 69 = iP 70 fDup := rfl
theorem k33_70 : lkp pt33 70 = iP 71 (fAld 3) := rfl
theorem k33_71 : lkp pt33 71 = iRI 74 (gtI 23) := rfl
theorem k33_74 : lkp pt33 74 = iP 75 (fAld 3) := rfl
theorem k33_75 : lkp pt33 75 = iCK 78 7 17 3 1 1 := rfl
theorem k33_78 : lkp pt33 78 = iP 80 (fAld 5) := rfl
theorem k33_80 : lkp pt33 80 = iP 82 (fAld 6) := rfl
theorem k33_82 : lkp pt33 82 = iP 84 (fAld 4) := rfl
theorem k33_84 : lkp pt33 84 = iCK 87 1 34 6 6 0 := rfl
theorem k33_87 : lkp pt33 87 = iCK 90 11 21 3 3 1 := rfl
theorem k33_90 : lkp pt33 90 = iRet rI := rfl
theorem b33_0 {G : AG} (hG : FIX G) (x0 : Nat) (x1 : Int32) (x2 : Int32) (H : Hp) : G 33 0 [some (.inr (.inr x0)), some (.inl x1), some (.inl x2), none, none, none, none] [] H = (bif Nat.beq (H.1 x0).1 11 then (G 15 0 [some (.inr (.inr x0)), some (.inl x1)] [] H).bind fun u1 => (asR u1.1).bind fun r2 => bif Nat.beq (u1.2.1 x0).1 11 then (G 15 0 [some (.inr (.inr x0)), some (.inl x2)] [] u1.2).bind fun u3 => (asR u3.1).bind fun r4 => bif Nat.beq r2 0 then G 33 27 [some (.inr (.inr x0)), some (.inl x1), some (.inl x2), some (.inr (.inr r2)), some (.inr (.inr r4)), none, none] [] u3.2 else bif Nat.beq r4 0 then G 33 27 [some (.inr (.inr x0)), some (.inl x1), some (.inl x2), some (.inr (.inr r2)), some (.inr (.inr r4)), none, none] [] u3.2 else bif decide ((x2 : Int32) < (x1 : Int32)) then bif Nat.beq (u3.2.1 r2).1 7 then (G 16 0 [some (.inr (.inr r2))] [] u3.2).bind fun u5 => (asI u5.1).bind fun i6 => bif decide ((i6 : Int32) = 0) then (hgR u5.2 x0 45).bind fun r7 => (hCl u5.2 r7).bind fun H8 => ((bif Nat.beq u5.2.2.1.1 0 || [20].any (Nat.beq (H8.1 u5.2.2.1.1).1) then some u5.2.2.1.1 else none)).bind fun r9 => (hgR H8 x0 46).bind fun r10 => (hCl H8 r10).bind fun H11 => ((bif Nat.beq H8.2.1.1 0 || [20].any (Nat.beq (H11.1 H8.2.1.1).1) then some H8.2.1.1 else none)).bind fun r12 => (hNw H11 1 7).bind fun H13 => (hgI H13 r2 23).bind fun i14 => bif Nat.beq (H13.1 r2).1 7 then (G 17 0 [some (.inr (.inr r2)), none, none] [] H13).bind fun u15 => (asI u15.1).bind fun i16 => bif Nat.beq (u15.2.1 H11.2.1.1).1 1 then (G 34 0 [some (.inr (.inr H11.2.1.1)), some (.inl i14), some (.inl i16), some (.inr (.inr r9)), some (.inr (.inr r12)), some (.inr (.inr r4))] [] u15.2).bind fun u17 => (asV u17.1).bind fun _ => bif Nat.beq (u17.2.1 x0).1 11 then (G 21 0 [some (.inr (.inr x0)), some (.inr (.inr r2)), some (.inr (.inr H11.2.1.1))] [] u17.2).bind fun u18 => (asI u18.1).bind fun i19 => some (some (.inl i19), u18.2) else none else none else none else some (some (.inl ((-1000003))), u5.2) else none else G 33 27 [some (.inr (.inr x0)), some (.inl x1), some (.inl x2), some (.inr (.inr r2)), some (.inr (.inr r4)), none, none] [] u3.2 else none else none) := by
  refine Eq.trans (e1 hG PT_33 k33_0 _ _ _) ?_
  show G 33 1 [some (.inr (.inr x0)), some (.inl x1), some (.inl x2), none, none, none, none] [.inr (.inr x0)] H = _
  refine Eq.trans (e1 hG PT_33 k33_1 _ _ _) ?_
  show G 33 2 [some (.inr (.inr x0)), some (.inl x1), some (.inl x2), none, none, none, none] [.inl x1, .inr (.inr x0)] H = _
  refine Eq.trans (e1 hG PT_33 k33_2 _ _ _) ?_
  refine bfc ?_ ?_
  · refine bdc fun u1 => ?_
    refine bdc fun r2 => ?_
    show G 33 5 [some (.inr (.inr x0)), some (.inl x1), some (.inl x2), none, none, none, none] [.inr (.inr r2)] u1.2 = _
    refine Eq.trans (e1 hG PT_33 k33_5 _ _ _) ?_
    show G 33 6 [some (.inr (.inr x0)), some (.inl x1), some (.inl x2), some (.inr (.inr r2)), none, none, none] [] u1.2 = _
    refine Eq.trans (e1 hG PT_33 k33_6 _ _ _) ?_
    show G 33 7 [some (.inr (.inr x0)), some (.inl x1), some (.inl x2), some (.inr (.inr r2)), none, none, none] [.inr (.inr x0)] u1.2 = _
    refine Eq.trans (e1 hG PT_33 k33_7 _ _ _) ?_
    show G 33 8 [some (.inr (.inr x0)), some (.inl x1), some (.inl x2), some (.inr (.inr r2)), none, none, none] [.inl x2, .inr (.inr x0)] u1.2 = _
    refine Eq.trans (e1 hG PT_33 k33_8 _ _ _) ?_
    refine bfc ?_ ?_
    · refine bdc fun u3 => ?_
      refine bdc fun r4 => ?_
      show G 33 11 [some (.inr (.inr x0)), some (.inl x1), some (.inl x2), some (.inr (.inr r2)), none, none, none] [.inr (.inr r4)] u3.2 = _
      refine Eq.trans (e1 hG PT_33 k33_11 _ _ _) ?_
      show G 33 13 [some (.inr (.inr x0)), some (.inl x1), some (.inl x2), some (.inr (.inr r2)), some (.inr (.inr r4)), none, none] [] u3.2 = _
      refine Eq.trans (e1 hG PT_33 k33_13 _ _ _) ?_
      show G 33 14 [some (.inr (.inr x0)), some (.inl x1), some (.inl x2), some (.inr (.inr r2)), some (.inr (.inr r4)), none, none] [.inr (.inr r2)] u3.2 = _
      refine Eq.trans (e1 hG PT_33 k33_14 _ _ _) ?_
      refine bfc ?_ ?_
      · rfl
      · show G 33 17 [some (.inr (.inr x0)), some (.inl x1), some (.inl x2), some (.inr (.inr r2)), some (.inr (.inr r4)), none, none] [] u3.2 = _
        refine Eq.trans (e1 hG PT_33 k33_17 _ _ _) ?_
        show G 33 19 [some (.inr (.inr x0)), some (.inl x1), some (.inl x2), some (.inr (.inr r2)), some (.inr (.inr r4)), none, none] [.inr (.inr r4)] u3.2 = _
        refine Eq.trans (e1 hG PT_33 k33_19 _ _ _) ?_
        refine bfc ?_ ?_
        · rfl
        · show G 33 22 [some (.inr (.inr x0)), some (.inl x1), some (.inl x2), some (.inr (.inr r2)), some (.inr (.inr r4)), none, none] [] u3.2 = _
          refine Eq.trans (e1 hG PT_33 k33_22 _ _ _) ?_
          show G 33 23 [some (.inr (.inr x0)), some (.inl x1), some (.inl x2), some (.inr (.inr r2)), some (.inr (.inr r4)), none, none] [.inl x2] u3.2 = _
          refine Eq.trans (e1 hG PT_33 k33_23 _ _ _) ?_
          show G 33 24 [some (.inr (.inr x0)), some (.inl x1), some (.inl x2), some (.inr (.inr r2)), some (.inr (.inr r4)), none, none] [.inl x1, .inl x2] u3.2 = _
          refine Eq.trans (e1 hG PT_33 k33_24 _ _ _) ?_
          refine bfc ?_ ?_
          · show G 33 30 [some (.inr (.inr x0)), some (.inl x1), some (.inl x2), some (.inr (.inr r2)), some (.inr (.inr r4)), none, none] [] u3.2 = _
            refine Eq.trans (e1 hG PT_33 k33_30 _ _ _) ?_
            show G 33 31 [some (.inr (.inr x0)), some (.inl x1), some (.inl x2), some (.inr (.inr r2)), some (.inr (.inr r4)), none, none] [.inr (.inr r2)] u3.2 = _
            refine Eq.trans (e1 hG PT_33 k33_31 _ _ _) ?_
            refine bfc ?_ ?_
            · refine bdc fun u5 => ?_
              refine bdc fun i6 => ?_
              show G 33 34 [some (.inr (.inr x0)), some (.inl x1), some (.inl x2), some (.inr (.inr r2)), some (.inr (.inr r4)), none, none] [.inl i6] u5.2 = _
              refine Eq.trans (e1 hG PT_33 k33_34 _ _ _) ?_
              refine bfc ?_ ?_
              · show G 33 40 [some (.inr (.inr x0)), some (.inl x1), some (.inl x2), some (.inr (.inr r2)), some (.inr (.inr r4)), none, none] [] u5.2 = _
                refine Eq.trans (e1 hG PT_33 k33_40 _ _ _) ?_
                show G 33 41 [some (.inr (.inr x0)), some (.inl x1), some (.inl x2), some (.inr (.inr r2)), some (.inr (.inr r4)), none, none] [.inr (.inr x0)] u5.2 = _
                refine Eq.trans (e1 hG PT_33 k33_41 _ _ _) ?_
                refine bdc fun r7 => ?_
                show G 33 44 [some (.inr (.inr x0)), some (.inl x1), some (.inl x2), some (.inr (.inr r2)), some (.inr (.inr r4)), none, none] [.inr (.inr r7)] u5.2 = _
                refine Eq.trans (e1 hG PT_33 k33_44 _ _ _) ?_
                refine bdc fun H8 => ?_
                show G 33 47 [some (.inr (.inr x0)), some (.inl x1), some (.inl x2), some (.inr (.inr r2)), some (.inr (.inr r4)), none, none] [.inr (.inr u5.2.2.1.1)] H8 = _
                refine Eq.trans (e1 hG PT_33 k33_47 _ _ _) ?_
                refine bdc fun r9 => ?_
                show G 33 50 [some (.inr (.inr x0)), some (.inl x1), some (.inl x2), some (.inr (.inr r2)), some (.inr (.inr r4)), none, none] [.inr (.inr r9)] H8 = _
                refine Eq.trans (e1 hG PT_33 k33_50 _ _ _) ?_
                show G 33 52 [some (.inr (.inr x0)), some (.inl x1), some (.inl x2), some (.inr (.inr r2)), some (.inr (.inr r4)), some (.inr (.inr r9)), none] [] H8 = _
                refine Eq.trans (e1 hG PT_33 k33_52 _ _ _) ?_
                show G 33 53 [some (.inr (.inr x0)), some (.inl x1), some (.inl x2), some (.inr (.inr r2)), some (.inr (.inr r4)), some (.inr (.inr r9)), none] [.inr (.inr x0)] H8 = _
                refine Eq.trans (e1 hG PT_33 k33_53 _ _ _) ?_
                refine bdc fun r10 => ?_
                show G 33 56 [some (.inr (.inr x0)), some (.inl x1), some (.inl x2), some (.inr (.inr r2)), some (.inr (.inr r4)), some (.inr (.inr r9)), none] [.inr (.inr r10)] H8 = _
                refine Eq.trans (e1 hG PT_33 k33_56 _ _ _) ?_
                refine bdc fun H11 => ?_
                show G 33 59 [some (.inr (.inr x0)), some (.inl x1), some (.inl x2), some (.inr (.inr r2)), some (.inr (.inr r4)), some (.inr (.inr r9)), none] [.inr (.inr H8.2.1.1)] H11 = _
                refine Eq.trans (e1 hG PT_33 k33_59 _ _ _) ?_
                refine bdc fun r12 => ?_
                show G 33 62 [some (.inr (.inr x0)), some (.inl x1), some (.inl x2), some (.inr (.inr r2)), some (.inr (.inr r4)), some (.inr (.inr r9)), none] [.inr (.inr r12)] H11 = _
                refine Eq.trans (e1 hG PT_33 k33_62 _ _ _) ?_
                show G 33 64 [some (.inr (.inr x0)), some (.inl x1), some (.inl x2), some (.inr (.inr r2)), some (.inr (.inr r4)), some (.inr (.inr r9)), some (.inr (.inr r12))] [] H11 = _
                refine Eq.trans (e1 hG PT_33 k33_64 _ _ _) ?_
                show G 33 65 [some (.inr (.inr x0)), some (.inl x1), some (.inl x2), some (.inr (.inr r2)), some (.inr (.inr r4)), some (.inr (.inr r9)), some (.inr (.inr r12))] [.inr (.inr x0)] H11 = _
                refine Eq.trans (e1 hG PT_33 k33_65 _ _ _) ?_
                show G 33 66 [some (.inr (.inr x0)), some (.inl x1), some (.inl x2), some (.inr (.inr r2)), some (.inr (.inr r4)), some (.inr (.inr r9)), some (.inr (.inr r12))] [.inr (.inr r2), .inr (.inr x0)] H11 = _
                refine Eq.trans (e1 hG PT_33 k33_66 _ _ _) ?_
                refine bdc fun H13 => ?_
                show G 33 69 [some (.inr (.inr x0)), some (.inl x1), some (.inl x2), some (.inr (.inr r2)), some (.inr (.inr r4)), some (.inr (.inr r9)), some (.inr (.inr r12))] [.inr (.inr H11.2.1.1), .inr (.inr r2), .inr (.inr x0)] H13 = _
                refine Eq.trans (e1 hG PT_33 k33_69 _ _ _) ?_
                show G 33 70 [some (.inr (.inr x0)), some (.inl x1), some (.inl x2), some (.inr (.inr r2)), some (.inr (.inr r4)), some (.inr (.inr r9)), some (.inr (.inr r12))] [.inr (.inr H11.2.1.1), .inr (.inr H11.2.1.1), .inr (.inr r2), .inr (.inr x0)] H13 = _
                refine Eq.trans (e1 hG PT_33 k33_70 _ _ _) ?_
                show G 33 71 [some (.inr (.inr x0)), some (.inl x1), some (.inl x2), some (.inr (.inr r2)), some (.inr (.inr r4)), some (.inr (.inr r9)), some (.inr (.inr r12))] [.inr (.inr r2), .inr (.inr H11.2.1.1), .inr (.inr H11.2.1.1), .inr (.inr r2), .inr (.inr x0)] H13 = _
                refine Eq.trans (e1 hG PT_33 k33_71 _ _ _) ?_
                refine bdc fun i14 => ?_
                show G 33 74 [some (.inr (.inr x0)), some (.inl x1), some (.inl x2), some (.inr (.inr r2)), some (.inr (.inr r4)), some (.inr (.inr r9)), some (.inr (.inr r12))] [.inl i14, .inr (.inr H11.2.1.1), .inr (.inr H11.2.1.1), .inr (.inr r2), .inr (.inr x0)] H13 = _
                refine Eq.trans (e1 hG PT_33 k33_74 _ _ _) ?_
                show G 33 75 [some (.inr (.inr x0)), some (.inl x1), some (.inl x2), some (.inr (.inr r2)), some (.inr (.inr r4)), some (.inr (.inr r9)), some (.inr (.inr r12))] [.inr (.inr r2), .inl i14, .inr (.inr H11.2.1.1), .inr (.inr H11.2.1.1), .inr (.inr r2), .inr (.inr x0)] H13 = _
                refine Eq.trans (e1 hG PT_33 k33_75 _ _ _) ?_
                refine bfc ?_ ?_
                · refine bdc fun u15 => ?_
                  refine bdc fun i16 => ?_
                  show G 33 78 [some (.inr (.inr x0)), some (.inl x1), some (.inl x2), some (.inr (.inr r2)), some (.inr (.inr r4)), some (.inr (.inr r9)), some (.inr (.inr r12))] [.inl i16, .inl i14, .inr (.inr H11.2.1.1), .inr (.inr H11.2.1.1), .inr (.inr r2), .inr (.inr x0)] u15.2 = _
                  refine Eq.trans (e1 hG PT_33 k33_78 _ _ _) ?_
                  show G 33 80 [some (.inr (.inr x0)), some (.inl x1), some (.inl x2), some (.inr (.inr r2)), some (.inr (.inr r4)), some (.inr (.inr r9)), some (.inr (.inr r12))] [.inr (.inr r9), .inl i16, .inl i14, .inr (.inr H11.2.1.1), .inr (.inr H11.2.1.1), .inr (.inr r2), .inr (.inr x0)] u15.2 = _
                  refine Eq.trans (e1 hG PT_33 k33_80 _ _ _) ?_
                  show G 33 82 [some (.inr (.inr x0)), some (.inl x1), some (.inl x2), some (.inr (.inr r2)), some (.inr (.inr r4)), some (.inr (.inr r9)), some (.inr (.inr r12))] [.inr (.inr r12), .inr (.inr r9), .inl i16, .inl i14, .inr (.inr H11.2.1.1), .inr (.inr H11.2.1.1), .inr (.inr r2), .inr (.inr x0)] u15.2 = _
                  refine Eq.trans (e1 hG PT_33 k33_82 _ _ _) ?_
                  show G 33 84 [some (.inr (.inr x0)), some (.inl x1), some (.inl x2), some (.inr (.inr r2)), some (.inr (.inr r4)), some (.inr (.inr r9)), some (.inr (.inr r12))] [.inr (.inr r4), .inr (.inr r12), .inr (.inr r9), .inl i16, .inl i14, .inr (.inr H11.2.1.1), .inr (.inr H11.2.1.1), .inr (.inr r2), .inr (.inr x0)] u15.2 = _
                  refine Eq.trans (e1 hG PT_33 k33_84 _ _ _) ?_
                  refine bfc ?_ ?_
                  · refine bdc fun u17 => ?_
                    refine bdc fun _ => ?_
                    show G 33 87 [some (.inr (.inr x0)), some (.inl x1), some (.inl x2), some (.inr (.inr r2)), some (.inr (.inr r4)), some (.inr (.inr r9)), some (.inr (.inr r12))] [.inr (.inr H11.2.1.1), .inr (.inr r2), .inr (.inr x0)] u17.2 = _
                    refine Eq.trans (e1 hG PT_33 k33_87 _ _ _) ?_
                    refine bfc ?_ ?_
                    · refine bdc fun u18 => ?_
                      refine bdc fun i19 => ?_
                      show G 33 90 [some (.inr (.inr x0)), some (.inl x1), some (.inl x2), some (.inr (.inr r2)), some (.inr (.inr r4)), some (.inr (.inr r9)), some (.inr (.inr r12))] [.inl i19] u18.2 = _
                      exact e1 hG PT_33 k33_90 _ _ _
                    · rfl
                  · rfl
                · rfl
              · show G 33 37 [some (.inr (.inr x0)), some (.inl x1), some (.inl x2), some (.inr (.inr r2)), some (.inr (.inr r4)), none, none] [] u5.2 = _
                refine Eq.trans (e1 hG PT_33 k33_37 _ _ _) ?_
                show G 33 39 [some (.inr (.inr x0)), some (.inl x1), some (.inl x2), some (.inr (.inr r2)), some (.inr (.inr r4)), none, none] [.inl (-1000003)] u5.2 = _
                exact e1 hG PT_33 k33_39 _ _ _
            · rfl
          · rfl
    · rfl
  · rfl
theorem b33_27 {G : AG} (hG : FIX G) (x0 : Nat) (x1 : Int32) (x2 : Int32) (x3 : Nat) (x4 : Nat) (H : Hp) : G 33 27 [some (.inr (.inr x0)), some (.inl x1), some (.inl x2), some (.inr (.inr x3)), some (.inr (.inr x4)), none, none] [] H = (some (some (.inl ((-1000001))), H)) := by
  refine Eq.trans (e1 hG PT_33 k33_27 _ _ _) ?_
  show G 33 29 [some (.inr (.inr x0)), some (.inl x1), some (.inl x2), some (.inr (.inr x3)), some (.inr (.inr x4)), none, none] [.inl (-1000001)] H = _
  exact e1 hG PT_33 k33_29 _ _ _
-- StepsAhead$Call.<init>(II[I[ILStepsAhead$Routine;)V
theorem PT_34 : PT 34 = pt34 := rfl
theorem k34_0 : lkp pt34 0 = iP 1 (fAld 0) := rfl
theorem k34_1 : lkp pt34 1 = iP 2 (fK (.inl 4)) := rfl
theorem k34_2 : lkp pt34 2 = iP 3 (fIld 1) := rfl
theorem k34_3 : lkp pt34 3 = iP 4 (fIld 2) := rfl
theorem k34_4 : lkp pt34 4 = iP 5 (fAld 3) := rfl
theorem k34_5 : lkp pt34 5 = iCK 8 1 32 5 5 0 := rfl
theorem k34_8 : lkp pt34 8 = iP 9 (fAld 0) := rfl
theorem k34_9 : lkp pt34 9 = iP 11 (fAld 4) := rfl
theorem k34_11 : lkp pt34 11 = iW 14 (ptR 5) := rfl
theorem k34_14 : lkp pt34 14 = iP 15 (fAld 0) := rfl
theorem k34_15 : lkp pt34 15 = iP 17 (fAld 5) := rfl
theorem k34_17 : lkp pt34 17 = iW 20 (ptR 6) := rfl
theorem k34_20 : lkp pt34 20 = iRet rV := rfl
theorem b34_0 {G : AG} (hG : FIX G) (x0 : Nat) (x1 : Int32) (x2 : Int32) (x3 : Nat) (x4 : Nat) (x5 : Nat) (H : Hp) : G 34 0 [some (.inr (.inr x0)), some (.inl x1), some (.inl x2), some (.inr (.inr x3)), some (.inr (.inr x4)), some (.inr (.inr x5))] [] H = (bif Nat.beq (H.1 x0).1 1 then (G 32 0 [some (.inr (.inr x0)), some (.inl 4), some (.inl x1), some (.inl x2), some (.inr (.inr x3))] [] H).bind fun u1 => (asV u1.1).bind fun _ => (hpR u1.2 x0 5 x4).bind fun H2 => (hpR H2 x0 6 x5).bind fun H3 => some (none, H3) else none) := by
  refine Eq.trans (e1 hG PT_34 k34_0 _ _ _) ?_
  show G 34 1 [some (.inr (.inr x0)), some (.inl x1), some (.inl x2), some (.inr (.inr x3)), some (.inr (.inr x4)), some (.inr (.inr x5))] [.inr (.inr x0)] H = _
  refine Eq.trans (e1 hG PT_34 k34_1 _ _ _) ?_
  show G 34 2 [some (.inr (.inr x0)), some (.inl x1), some (.inl x2), some (.inr (.inr x3)), some (.inr (.inr x4)), some (.inr (.inr x5))] [.inl 4, .inr (.inr x0)] H = _
  refine Eq.trans (e1 hG PT_34 k34_2 _ _ _) ?_
  show G 34 3 [some (.inr (.inr x0)), some (.inl x1), some (.inl x2), some (.inr (.inr x3)), some (.inr (.inr x4)), some (.inr (.inr x5))] [.inl x1, .inl 4, .inr (.inr x0)] H = _
  refine Eq.trans (e1 hG PT_34 k34_3 _ _ _) ?_
  show G 34 4 [some (.inr (.inr x0)), some (.inl x1), some (.inl x2), some (.inr (.inr x3)), some (.inr (.inr x4)), some (.inr (.inr x5))] [.inl x2, .inl x1, .inl 4, .inr (.inr x0)] H = _
  refine Eq.trans (e1 hG PT_34 k34_4 _ _ _) ?_
  show G 34 5 [some (.inr (.inr x0)), some (.inl x1), some (.inl x2), some (.inr (.inr x3)), some (.inr (.inr x4)), some (.inr (.inr x5))] [.inr (.inr x3), .inl x2, .inl x1, .inl 4, .inr (.inr x0)] H = _
  refine Eq.trans (e1 hG PT_34 k34_5 _ _ _) ?_
  refine bfc ?_ ?_
  · refine bdc fun u1 => ?_
    refine bdc fun _ => ?_
    show G 34 8 [some (.inr (.inr x0)), some (.inl x1), some (.inl x2), some (.inr (.inr x3)), some (.inr (.inr x4)), some (.inr (.inr x5))] [] u1.2 = _
    refine Eq.trans (e1 hG PT_34 k34_8 _ _ _) ?_
    show G 34 9 [some (.inr (.inr x0)), some (.inl x1), some (.inl x2), some (.inr (.inr x3)), some (.inr (.inr x4)), some (.inr (.inr x5))] [.inr (.inr x0)] u1.2 = _
    refine Eq.trans (e1 hG PT_34 k34_9 _ _ _) ?_
    show G 34 11 [some (.inr (.inr x0)), some (.inl x1), some (.inl x2), some (.inr (.inr x3)), some (.inr (.inr x4)), some (.inr (.inr x5))] [.inr (.inr x4), .inr (.inr x0)] u1.2 = _
    refine Eq.trans (e1 hG PT_34 k34_11 _ _ _) ?_
    refine bdc fun H2 => ?_
    show G 34 14 [some (.inr (.inr x0)), some (.inl x1), some (.inl x2), some (.inr (.inr x3)), some (.inr (.inr x4)), some (.inr (.inr x5))] [] H2 = _
    refine Eq.trans (e1 hG PT_34 k34_14 _ _ _) ?_
    show G 34 15 [some (.inr (.inr x0)), some (.inl x1), some (.inl x2), some (.inr (.inr x3)), some (.inr (.inr x4)), some (.inr (.inr x5))] [.inr (.inr x0)] H2 = _
    refine Eq.trans (e1 hG PT_34 k34_15 _ _ _) ?_
    show G 34 17 [some (.inr (.inr x0)), some (.inl x1), some (.inl x2), some (.inr (.inr x3)), some (.inr (.inr x4)), some (.inr (.inr x5))] [.inr (.inr x5), .inr (.inr x0)] H2 = _
    refine Eq.trans (e1 hG PT_34 k34_17 _ _ _) ?_
    refine bdc fun H3 => ?_
    show G 34 20 [some (.inr (.inr x0)), some (.inl x1), some (.inl x2), some (.inr (.inr x3)), some (.inr (.inr x4)), some (.inr (.inr x5))] [] H3 = _
    exact e1 hG PT_34 k34_20 _ _ _
  · rfl
