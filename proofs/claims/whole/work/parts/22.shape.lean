/-! shapes of the objects that both constructors make; what stands at fixed places; reads and writes there -/
theorem hF1_0 : hasF 1 0 = true := rfl
theorem hF1_1 : hasF 1 1 = true := rfl
theorem hF1_2 : hasF 1 2 = true := rfl
theorem hF1_3 : hasF 1 3 = true := rfl
theorem hF1_4 : hasF 1 4 = true := rfl
theorem hF1_5 : hasF 1 5 = true := rfl
theorem hF1_6 : hasF 1 6 = true := rfl
theorem hF2_1 : hasF 2 1 = true := rfl
theorem hF2_2 : hasF 2 2 = true := rfl
theorem hF2_3 : hasF 2 3 = true := rfl
theorem hF2_4 : hasF 2 4 = true := rfl
theorem hF2_7 : hasF 2 7 = true := rfl
theorem hF2_8 : hasF 2 8 = true := rfl
theorem hF2_9 : hasF 2 9 = true := rfl
theorem hF2_10 : hasF 2 10 = true := rfl
theorem hF3_0 : hasF 3 0 = true := rfl
theorem hF3_1 : hasF 3 1 = true := rfl
theorem hF3_2 : hasF 3 2 = true := rfl
theorem hF3_3 : hasF 3 3 = true := rfl
theorem hF3_4 : hasF 3 4 = true := rfl
theorem hF3_11 : hasF 3 11 = true := rfl
theorem hF4_1 : hasF 4 1 = true := rfl
theorem hF4_2 : hasF 4 2 = true := rfl
theorem hF4_3 : hasF 4 3 = true := rfl
theorem hF4_4 : hasF 4 4 = true := rfl
theorem hF5_12 : hasF 5 12 = true := rfl
theorem hF5_13 : hasF 5 13 = true := rfl
theorem hF6_14 : hasF 6 14 = true := rfl
theorem hF6_15 : hasF 6 15 = true := rfl
theorem hF6_16 : hasF 6 16 = true := rfl
theorem hF6_17 : hasF 6 17 = true := rfl
theorem hF6_18 : hasF 6 18 = true := rfl
theorem hF6_19 : hasF 6 19 = true := rfl
theorem hF6_20 : hasF 6 20 = true := rfl
theorem hF7_21 : hasF 7 21 = true := rfl
theorem hF7_22 : hasF 7 22 = true := rfl
theorem hF7_23 : hasF 7 23 = true := rfl
theorem hF7_24 : hasF 7 24 = true := rfl
theorem hF7_25 : hasF 7 25 = true := rfl
theorem hF7_26 : hasF 7 26 = true := rfl
theorem hF7_27 : hasF 7 27 = true := rfl
theorem hF7_28 : hasF 7 28 = true := rfl
theorem hF7_29 : hasF 7 29 = true := rfl
theorem hF7_30 : hasF 7 30 = true := rfl
theorem hF7_31 : hasF 7 31 = true := rfl
theorem hF7_32 : hasF 7 32 = true := rfl
theorem hF8_33 : hasF 8 33 = true := rfl
theorem hF8_34 : hasF 8 34 = true := rfl
theorem hF8_35 : hasF 8 35 = true := rfl
theorem hF8_36 : hasF 8 36 = true := rfl
theorem hF8_37 : hasF 8 37 = true := rfl
theorem hF8_38 : hasF 8 38 = true := rfl
theorem hF8_39 : hasF 8 39 = true := rfl
theorem hF9_40 : hasF 9 40 = true := rfl
theorem hF9_41 : hasF 9 41 = true := rfl
theorem hF10_1 : hasF 10 1 = true := rfl
theorem hF10_2 : hasF 10 2 = true := rfl
theorem hF10_3 : hasF 10 3 = true := rfl
theorem hF10_4 : hasF 10 4 = true := rfl
theorem hF10_42 : hasF 10 42 = true := rfl
theorem hF11_43 : hasF 11 43 = true := rfl
theorem hF11_44 : hasF 11 44 = true := rfl
theorem hF11_45 : hasF 11 45 = true := rfl
theorem hF11_46 : hasF 11 46 = true := rfl
theorem hF11_47 : hasF 11 47 = true := rfl
theorem hF11_48 : hasF 11 48 = true := rfl
theorem hF11_49 : hasF 11 49 = true := rfl
theorem hF12_50 : hasF 12 50 = true := rfl
theorem hF12_51 : hasF 12 51 = true := rfl
theorem hF12_52 : hasF 12 52 = true := rfl
theorem hF12_53 : hasF 12 53 = true := rfl
theorem hF12_54 : hasF 12 54 = true := rfl
theorem hF12_55 : hasF 12 55 = true := rfl
theorem hF12_56 : hasF 12 56 = true := rfl
theorem hF12_57 : hasF 12 57 = true := rfl
theorem hF12_58 : hasF 12 58 = true := rfl
theorem hF12_59 : hasF 12 59 = true := rfl
theorem hF12_60 : hasF 12 60 = true := rfl
theorem hF12_61 : hasF 12 61 = true := rfl
theorem hF12_62 : hasF 12 62 = true := rfl
theorem hF12_63 : hasF 12 63 = true := rfl
theorem hF12_64 : hasF 12 64 = true := rfl
theorem hF12_65 : hasF 12 65 = true := rfl
theorem hF12_66 : hasF 12 66 = true := rfl
theorem hF12_67 : hasF 12 67 = true := rfl
theorem hF12_68 : hasF 12 68 = true := rfl
theorem hF12_69 : hasF 12 69 = true := rfl
theorem hF12_70 : hasF 12 70 = true := rfl
theorem hF12_71 : hasF 12 71 = true := rfl
theorem hF12_72 : hasF 12 72 = true := rfl
theorem hF12_73 : hasF 12 73 = true := rfl
theorem hF12_74 : hasF 12 74 = true := rfl
theorem hF12_75 : hasF 12 75 = true := rfl
theorem hF12_76 : hasF 12 76 = true := rfl
theorem hF12_77 : hasF 12 77 = true := rfl
theorem hF12_78 : hasF 12 78 = true := rfl
theorem hF12_79 : hasF 12 79 = true := rfl
theorem hF12_80 : hasF 12 80 = true := rfl
theorem hF12_81 : hasF 12 81 = true := rfl
theorem hF12_82 : hasF 12 82 = true := rfl
theorem hF12_83 : hasF 12 83 = true := rfl
theorem hF12_84 : hasF 12 84 = true := rfl
theorem hF12_85 : hasF 12 85 = true := rfl
theorem hF12_86 : hasF 12 86 = true := rfl
theorem hF12_87 : hasF 12 87 = true := rfl
theorem hF12_88 : hasF 12 88 = true := rfl
theorem hF12_89 : hasF 12 89 = true := rfl
theorem rgI {s : Nat → Nat × Nat} {mr : Nat → Nat → Nat} {n : Nat × Nat} {mi : Nat → Nat → Int32} {ml : Nat → Nat → Int64} {r f kd l : Nat} (h : s r = (kd, l)) (hf : hasF kd f = true) : hgI ((s, n, mi, ml, mr) : Hp) r f = some (mi r f) := by
  unfold hgI; rw [show (s, n, mi, ml, mr).1 r = (kd, l) from h, hf]; rfl
theorem rgJ {s : Nat → Nat × Nat} {mr : Nat → Nat → Nat} {n : Nat × Nat} {mi : Nat → Nat → Int32} {ml : Nat → Nat → Int64} {r f kd l : Nat} (h : s r = (kd, l)) (hf : hasF kd f = true) : hgJ ((s, n, mi, ml, mr) : Hp) r f = some (ml r f) := by
  unfold hgJ; rw [show (s, n, mi, ml, mr).1 r = (kd, l) from h, hf]; rfl
theorem rgR {s : Nat → Nat × Nat} {mr : Nat → Nat → Nat} {n : Nat × Nat} {mi : Nat → Nat → Int32} {ml : Nat → Nat → Int64} {r f kd l : Nat} (h : s r = (kd, l)) (hf : hasF kd f = true) : hgR ((s, n, mi, ml, mr) : Hp) r f = some (mr r f) := by
  unfold hgR; rw [show (s, n, mi, ml, mr).1 r = (kd, l) from h, hf]; rfl
theorem rpI {s : Nat → Nat × Nat} {mr : Nat → Nat → Nat} {n : Nat × Nat} {mi : Nat → Nat → Int32} {ml : Nat → Nat → Int64} {r f kd l : Nat} {v : Int32} (h : s r = (kd, l)) (hf : hasF kd f = true) (h4 : 4 ≤ r) : hpI ((s, n, mi, ml, mr) : Hp) r f v = some (s, n, up2 mi r f v, ml, mr) := by
  unfold hpI; rw [show (s, n, mi, ml, mr).1 r = (kd, l) from h, hf, Nat.ble_eq_true_of_le h4]; rfl
theorem rpZ {s : Nat → Nat × Nat} {mr : Nat → Nat → Nat} {n : Nat × Nat} {mi : Nat → Nat → Int32} {ml : Nat → Nat → Int64} {r f kd l : Nat} {b : Bool} (h : s r = (kd, l)) (hf : hasF kd f = true) (h4 : 4 ≤ r) : hpZ ((s, n, mi, ml, mr) : Hp) r f (bz b) = some (s, n, up2 mi r f (bz b), ml, mr) := by
  unfold hpZ; rw [show (s, n, mi, ml, mr).1 r = (kd, l) from h, hf, Nat.ble_eq_true_of_le h4]; cases b <;> rfl
theorem rpJ {s : Nat → Nat × Nat} {mr : Nat → Nat → Nat} {n : Nat × Nat} {mi : Nat → Nat → Int32} {ml : Nat → Nat → Int64} {r f kd l : Nat} {v : Int64} (h : s r = (kd, l)) (hf : hasF kd f = true) (h4 : 4 ≤ r) : hpJ ((s, n, mi, ml, mr) : Hp) r f v = some (s, n, mi, up2 ml r f v, mr) := by
  unfold hpJ; rw [show (s, n, mi, ml, mr).1 r = (kd, l) from h, hf]; rfl
theorem rpR {s : Nat → Nat × Nat} {mr : Nat → Nat → Nat} {n : Nat × Nat} {mi : Nat → Nat → Int32} {ml : Nat → Nat → Int64} {r f kd l v : Nat} (h : s r = (kd, l)) (hf : hasF kd f = true) : hpR ((s, n, mi, ml, mr) : Hp) r f v = some (s, n, mi, ml, up2 mr r f v) := by
  unfold hpR; rw [show (s, n, mi, ml, mr).1 r = (kd, l) from h, hf]; rfl
theorem raI {s : Nat → Nat × Nat} {mr : Nat → Nat → Nat} {n : Nat × Nat} {mi : Nat → Nat → Int32} {ml : Nat → Nat → Int64} {r l i : Nat} (h : s r = (20, l)) (hi : i < l) (hl : l ≤ 100000) : hAI ((s, n, mi, ml, mr) : Hp) r (zi i) = some (mi r i) := by
  unfold hAI; rw [show (s, n, mi, ml, mr).1 r = (20, l) from h, inb_zi hi (by omega), zi_cl (by omega)]; rfl
theorem raC {s : Nat → Nat × Nat} {mr : Nat → Nat → Nat} {n : Nat × Nat} {mi : Nat → Nat → Int32} {ml : Nat → Nat → Int64} {r l i : Nat} (h : s r = (30, l)) (hi : i < l) (hl : l ≤ 100000) : hAI ((s, n, mi, ml, mr) : Hp) r (zi i) = some (mi r i) := by
  unfold hAI; rw [show (s, n, mi, ml, mr).1 r = (30, l) from h, inb_zi hi (by omega), zi_cl (by omega)]; rfl
theorem raZ {s : Nat → Nat × Nat} {mr : Nat → Nat → Nat} {n : Nat × Nat} {mi : Nat → Nat → Int32} {ml : Nat → Nat → Int64} {r l i : Nat} (h : s r = (22, l)) (hi : i < l) (hl : l ≤ 100000) : hAZ ((s, n, mi, ml, mr) : Hp) r (zi i) = some (mi r i) := by
  unfold hAZ; rw [show (s, n, mi, ml, mr).1 r = (22, l) from h, inb_zi hi (by omega), zi_cl (by omega)]; rfl
theorem raJ {s : Nat → Nat × Nat} {mr : Nat → Nat → Nat} {n : Nat × Nat} {mi : Nat → Nat → Int32} {ml : Nat → Nat → Int64} {r l i : Nat} (h : s r = (21, l)) (hi : i < l) (hl : l ≤ 100000) : hAJ ((s, n, mi, ml, mr) : Hp) r (zi i) = some (ml r i) := by
  unfold hAJ; rw [show (s, n, mi, ml, mr).1 r = (21, l) from h, inb_zi hi (by omega), zi_cl (by omega)]; rfl
theorem raR {s : Nat → Nat × Nat} {mr : Nat → Nat → Nat} {n : Nat × Nat} {mi : Nat → Nat → Int32} {ml : Nat → Nat → Int64} {r kd l i : Nat} (h : s r = (kd, l)) (hk : (Nat.ble 23 kd && Nat.ble kd 26) = true) (hi : i < l) (hl : l ≤ 100000) : hAR ((s, n, mi, ml, mr) : Hp) r (zi i) = some (mr r i) := by
  unfold hAR; rw [show (s, n, mi, ml, mr).1 r = (kd, l) from h, inb_zi hi (by omega), zi_cl (by omega), hk]; rfl
theorem rsI {s : Nat → Nat × Nat} {mr : Nat → Nat → Nat} {n : Nat × Nat} {mi : Nat → Nat → Int32} {ml : Nat → Nat → Int64} {r l i : Nat} {v : Int32} (h : s r = (20, l)) (hi : i < l) (hl : l ≤ 100000) (h4 : 4 ≤ r) : hSI ((s, n, mi, ml, mr) : Hp) r (zi i) v = some (s, n, up2 mi r i v, ml, mr) := by
  unfold hSI; rw [show (s, n, mi, ml, mr).1 r = (20, l) from h, inb_zi hi (by omega), zi_cl (by omega), Nat.ble_eq_true_of_le h4]; rfl
theorem rsZ {s : Nat → Nat × Nat} {mr : Nat → Nat → Nat} {n : Nat × Nat} {mi : Nat → Nat → Int32} {ml : Nat → Nat → Int64} {r l i : Nat} {b : Bool} (h : s r = (22, l)) (hi : i < l) (hl : l ≤ 100000) (h4 : 4 ≤ r) : hSZ ((s, n, mi, ml, mr) : Hp) r (zi i) (bz b) = some (s, n, up2 mi r i (bz b), ml, mr) := by
  unfold hSZ; rw [show (s, n, mi, ml, mr).1 r = (22, l) from h, inb_zi hi (by omega), zi_cl (by omega), Nat.ble_eq_true_of_le h4]; cases b <;> rfl
theorem rsJ {s : Nat → Nat × Nat} {mr : Nat → Nat → Nat} {n : Nat × Nat} {mi : Nat → Nat → Int32} {ml : Nat → Nat → Int64} {r l i : Nat} {v : Int64} (h : s r = (21, l)) (hi : i < l) (hl : l ≤ 100000) (h4 : 4 ≤ r) : hSJ ((s, n, mi, ml, mr) : Hp) r (zi i) v = some (s, n, mi, up2 ml r i v, mr) := by
  unfold hSJ; rw [show (s, n, mi, ml, mr).1 r = (21, l) from h, inb_zi hi (by omega), zi_cl (by omega)]; rfl
theorem rlen {s : Nat → Nat × Nat} {mr : Nat → Nat → Nat} {n : Nat × Nat} {mi : Nat → Nat → Int32} {ml : Nat → Nat → Int64} {r kd l : Nat} (h : s r = (kd, l)) (hk : ((Nat.ble 20 kd && Nat.ble kd 26) || Nat.beq kd 30) = true) : hLen ((s, n, mi, ml, mr) : Hp) r = some (zi l) := by
  unfold hLen; rw [show (s, n, mi, ml, mr).1 r = (kd, l) from h, hk]; rfl
def MS (s : Nat → Nat × Nat) (mr : Nat → Nat → Nat) : Prop := s 114 = (12, 40) ∧ s 115 = (20, 8) ∧ s 116 = (20, 192) ∧ s 117 = (20, 192) ∧ s 118 = (20, 192) ∧ s 119 = (20, 2304) ∧ s 120 = (20, 12) ∧ s 121 = (20, 16) ∧ s 122 = (20, 1260) ∧ s 123 = (20, 7776) ∧ s 124 = (20, 24) ∧ s 125 = (20, 24) ∧ s 126 = (21, 17640) ∧ s 127 = (22, 8) ∧ s 128 = (22, 8) ∧ s 129 = (22, 16) ∧ s 130 = (21, 252) ∧ s 131 = (21, 252) ∧ s 132 = (20, 30) ∧ s 133 = (20, 24) ∧ s 134 = (20, 24) ∧ s 135 = (20, 3) ∧ s 136 = (20, 220) ∧ s 137 = (20, 220) ∧ s 138 = (20, 220) ∧ s 139 = (21, 220) ∧ s 140 = (21, 220) ∧ s 141 = (20, 1540) ∧ mr 114 51 = 115 ∧ mr 114 52 = 116 ∧ mr 114 53 = 117 ∧ mr 114 54 = 118 ∧ mr 114 55 = 119 ∧ mr 114 56 = 120 ∧ mr 114 58 = 121 ∧ mr 114 61 = 122 ∧ mr 114 62 = 123 ∧ mr 114 64 = 124 ∧ mr 114 65 = 125 ∧ mr 114 67 = 126 ∧ mr 114 68 = 127 ∧ mr 114 69 = 128 ∧ mr 114 70 = 129 ∧ mr 114 71 = 130 ∧ mr 114 72 = 131 ∧ mr 114 73 = 132 ∧ mr 114 74 = 133 ∧ mr 114 75 = 134 ∧ mr 114 82 = 135 ∧ mr 114 84 = 136 ∧ mr 114 85 = 137 ∧ mr 114 86 = 138 ∧ mr 114 87 = 139 ∧ mr 114 88 = 140 ∧ mr 114 89 = 141
theorem ms114 {s : Nat → Nat × Nat} {mr : Nat → Nat → Nat} (h : MS s mr) : s 114 = (12, 40) := h.1
theorem ms115 {s : Nat → Nat × Nat} {mr : Nat → Nat → Nat} (h : MS s mr) : s 115 = (20, 8) := h.2.1
theorem ms116 {s : Nat → Nat × Nat} {mr : Nat → Nat → Nat} (h : MS s mr) : s 116 = (20, 192) := h.2.2.1
theorem ms117 {s : Nat → Nat × Nat} {mr : Nat → Nat → Nat} (h : MS s mr) : s 117 = (20, 192) := h.2.2.2.1
theorem ms118 {s : Nat → Nat × Nat} {mr : Nat → Nat → Nat} (h : MS s mr) : s 118 = (20, 192) := h.2.2.2.2.1
theorem ms119 {s : Nat → Nat × Nat} {mr : Nat → Nat → Nat} (h : MS s mr) : s 119 = (20, 2304) := h.2.2.2.2.2.1
theorem ms120 {s : Nat → Nat × Nat} {mr : Nat → Nat → Nat} (h : MS s mr) : s 120 = (20, 12) := h.2.2.2.2.2.2.1
theorem ms121 {s : Nat → Nat × Nat} {mr : Nat → Nat → Nat} (h : MS s mr) : s 121 = (20, 16) := h.2.2.2.2.2.2.2.1
theorem ms122 {s : Nat → Nat × Nat} {mr : Nat → Nat → Nat} (h : MS s mr) : s 122 = (20, 1260) := h.2.2.2.2.2.2.2.2.1
theorem ms123 {s : Nat → Nat × Nat} {mr : Nat → Nat → Nat} (h : MS s mr) : s 123 = (20, 7776) := h.2.2.2.2.2.2.2.2.2.1
theorem ms124 {s : Nat → Nat × Nat} {mr : Nat → Nat → Nat} (h : MS s mr) : s 124 = (20, 24) := h.2.2.2.2.2.2.2.2.2.2.1
theorem ms125 {s : Nat → Nat × Nat} {mr : Nat → Nat → Nat} (h : MS s mr) : s 125 = (20, 24) := h.2.2.2.2.2.2.2.2.2.2.2.1
theorem ms126 {s : Nat → Nat × Nat} {mr : Nat → Nat → Nat} (h : MS s mr) : s 126 = (21, 17640) := h.2.2.2.2.2.2.2.2.2.2.2.2.1
theorem ms127 {s : Nat → Nat × Nat} {mr : Nat → Nat → Nat} (h : MS s mr) : s 127 = (22, 8) := h.2.2.2.2.2.2.2.2.2.2.2.2.2.1
theorem ms128 {s : Nat → Nat × Nat} {mr : Nat → Nat → Nat} (h : MS s mr) : s 128 = (22, 8) := h.2.2.2.2.2.2.2.2.2.2.2.2.2.2.1
theorem ms129 {s : Nat → Nat × Nat} {mr : Nat → Nat → Nat} (h : MS s mr) : s 129 = (22, 16) := h.2.2.2.2.2.2.2.2.2.2.2.2.2.2.2.1
theorem ms130 {s : Nat → Nat × Nat} {mr : Nat → Nat → Nat} (h : MS s mr) : s 130 = (21, 252) := h.2.2.2.2.2.2.2.2.2.2.2.2.2.2.2.2.1
theorem ms131 {s : Nat → Nat × Nat} {mr : Nat → Nat → Nat} (h : MS s mr) : s 131 = (21, 252) := h.2.2.2.2.2.2.2.2.2.2.2.2.2.2.2.2.2.1
theorem ms132 {s : Nat → Nat × Nat} {mr : Nat → Nat → Nat} (h : MS s mr) : s 132 = (20, 30) := h.2.2.2.2.2.2.2.2.2.2.2.2.2.2.2.2.2.2.1
theorem ms133 {s : Nat → Nat × Nat} {mr : Nat → Nat → Nat} (h : MS s mr) : s 133 = (20, 24) := h.2.2.2.2.2.2.2.2.2.2.2.2.2.2.2.2.2.2.2.1
theorem ms134 {s : Nat → Nat × Nat} {mr : Nat → Nat → Nat} (h : MS s mr) : s 134 = (20, 24) := h.2.2.2.2.2.2.2.2.2.2.2.2.2.2.2.2.2.2.2.2.1
theorem ms135 {s : Nat → Nat × Nat} {mr : Nat → Nat → Nat} (h : MS s mr) : s 135 = (20, 3) := h.2.2.2.2.2.2.2.2.2.2.2.2.2.2.2.2.2.2.2.2.2.1
theorem ms136 {s : Nat → Nat × Nat} {mr : Nat → Nat → Nat} (h : MS s mr) : s 136 = (20, 220) := h.2.2.2.2.2.2.2.2.2.2.2.2.2.2.2.2.2.2.2.2.2.2.1
theorem ms137 {s : Nat → Nat × Nat} {mr : Nat → Nat → Nat} (h : MS s mr) : s 137 = (20, 220) := h.2.2.2.2.2.2.2.2.2.2.2.2.2.2.2.2.2.2.2.2.2.2.2.1
theorem ms138 {s : Nat → Nat × Nat} {mr : Nat → Nat → Nat} (h : MS s mr) : s 138 = (20, 220) := h.2.2.2.2.2.2.2.2.2.2.2.2.2.2.2.2.2.2.2.2.2.2.2.2.1
theorem ms139 {s : Nat → Nat × Nat} {mr : Nat → Nat → Nat} (h : MS s mr) : s 139 = (21, 220) := h.2.2.2.2.2.2.2.2.2.2.2.2.2.2.2.2.2.2.2.2.2.2.2.2.2.1
theorem ms140 {s : Nat → Nat × Nat} {mr : Nat → Nat → Nat} (h : MS s mr) : s 140 = (21, 220) := h.2.2.2.2.2.2.2.2.2.2.2.2.2.2.2.2.2.2.2.2.2.2.2.2.2.2.1
theorem ms141 {s : Nat → Nat × Nat} {mr : Nat → Nat → Nat} (h : MS s mr) : s 141 = (20, 1540) := h.2.2.2.2.2.2.2.2.2.2.2.2.2.2.2.2.2.2.2.2.2.2.2.2.2.2.2.1
theorem mf51 {s : Nat → Nat × Nat} {mr : Nat → Nat → Nat} (h : MS s mr) : mr 114 51 = 115 := h.2.2.2.2.2.2.2.2.2.2.2.2.2.2.2.2.2.2.2.2.2.2.2.2.2.2.2.2.1
theorem mf52 {s : Nat → Nat × Nat} {mr : Nat → Nat → Nat} (h : MS s mr) : mr 114 52 = 116 := h.2.2.2.2.2.2.2.2.2.2.2.2.2.2.2.2.2.2.2.2.2.2.2.2.2.2.2.2.2.1
theorem mf53 {s : Nat → Nat × Nat} {mr : Nat → Nat → Nat} (h : MS s mr) : mr 114 53 = 117 := h.2.2.2.2.2.2.2.2.2.2.2.2.2.2.2.2.2.2.2.2.2.2.2.2.2.2.2.2.2.2.1
theorem mf54 {s : Nat → Nat × Nat} {mr : Nat → Nat → Nat} (h : MS s mr) : mr 114 54 = 118 := h.2.2.2.2.2.2.2.2.2.2.2.2.2.2.2.2.2.2.2.2.2.2.2.2.2.2.2.2.2.2.2.1
theorem mf55 {s : Nat → Nat × Nat} {mr : Nat → Nat → Nat} (h : MS s mr) : mr 114 55 = 119 := h.2.2.2.2.2.2.2.2.2.2.2.2.2.2.2.2.2.2.2.2.2.2.2.2.2.2.2.2.2.2.2.2.1
theorem mf56 {s : Nat → Nat × Nat} {mr : Nat → Nat → Nat} (h : MS s mr) : mr 114 56 = 120 := h.2.2.2.2.2.2.2.2.2.2.2.2.2.2.2.2.2.2.2.2.2.2.2.2.2.2.2.2.2.2.2.2.2.1
theorem mf58 {s : Nat → Nat × Nat} {mr : Nat → Nat → Nat} (h : MS s mr) : mr 114 58 = 121 := h.2.2.2.2.2.2.2.2.2.2.2.2.2.2.2.2.2.2.2.2.2.2.2.2.2.2.2.2.2.2.2.2.2.2.1
theorem mf61 {s : Nat → Nat × Nat} {mr : Nat → Nat → Nat} (h : MS s mr) : mr 114 61 = 122 := h.2.2.2.2.2.2.2.2.2.2.2.2.2.2.2.2.2.2.2.2.2.2.2.2.2.2.2.2.2.2.2.2.2.2.2.1
theorem mf62 {s : Nat → Nat × Nat} {mr : Nat → Nat → Nat} (h : MS s mr) : mr 114 62 = 123 := h.2.2.2.2.2.2.2.2.2.2.2.2.2.2.2.2.2.2.2.2.2.2.2.2.2.2.2.2.2.2.2.2.2.2.2.2.1
theorem mf64 {s : Nat → Nat × Nat} {mr : Nat → Nat → Nat} (h : MS s mr) : mr 114 64 = 124 := h.2.2.2.2.2.2.2.2.2.2.2.2.2.2.2.2.2.2.2.2.2.2.2.2.2.2.2.2.2.2.2.2.2.2.2.2.2.1
theorem mf65 {s : Nat → Nat × Nat} {mr : Nat → Nat → Nat} (h : MS s mr) : mr 114 65 = 125 := h.2.2.2.2.2.2.2.2.2.2.2.2.2.2.2.2.2.2.2.2.2.2.2.2.2.2.2.2.2.2.2.2.2.2.2.2.2.2.1
theorem mf67 {s : Nat → Nat × Nat} {mr : Nat → Nat → Nat} (h : MS s mr) : mr 114 67 = 126 := h.2.2.2.2.2.2.2.2.2.2.2.2.2.2.2.2.2.2.2.2.2.2.2.2.2.2.2.2.2.2.2.2.2.2.2.2.2.2.2.1
theorem mf68 {s : Nat → Nat × Nat} {mr : Nat → Nat → Nat} (h : MS s mr) : mr 114 68 = 127 := h.2.2.2.2.2.2.2.2.2.2.2.2.2.2.2.2.2.2.2.2.2.2.2.2.2.2.2.2.2.2.2.2.2.2.2.2.2.2.2.2.1
theorem mf69 {s : Nat → Nat × Nat} {mr : Nat → Nat → Nat} (h : MS s mr) : mr 114 69 = 128 := h.2.2.2.2.2.2.2.2.2.2.2.2.2.2.2.2.2.2.2.2.2.2.2.2.2.2.2.2.2.2.2.2.2.2.2.2.2.2.2.2.2.1
theorem mf70 {s : Nat → Nat × Nat} {mr : Nat → Nat → Nat} (h : MS s mr) : mr 114 70 = 129 := h.2.2.2.2.2.2.2.2.2.2.2.2.2.2.2.2.2.2.2.2.2.2.2.2.2.2.2.2.2.2.2.2.2.2.2.2.2.2.2.2.2.2.1
theorem mf71 {s : Nat → Nat × Nat} {mr : Nat → Nat → Nat} (h : MS s mr) : mr 114 71 = 130 := h.2.2.2.2.2.2.2.2.2.2.2.2.2.2.2.2.2.2.2.2.2.2.2.2.2.2.2.2.2.2.2.2.2.2.2.2.2.2.2.2.2.2.2.1
theorem mf72 {s : Nat → Nat × Nat} {mr : Nat → Nat → Nat} (h : MS s mr) : mr 114 72 = 131 := h.2.2.2.2.2.2.2.2.2.2.2.2.2.2.2.2.2.2.2.2.2.2.2.2.2.2.2.2.2.2.2.2.2.2.2.2.2.2.2.2.2.2.2.2.1
theorem mf73 {s : Nat → Nat × Nat} {mr : Nat → Nat → Nat} (h : MS s mr) : mr 114 73 = 132 := h.2.2.2.2.2.2.2.2.2.2.2.2.2.2.2.2.2.2.2.2.2.2.2.2.2.2.2.2.2.2.2.2.2.2.2.2.2.2.2.2.2.2.2.2.2.1
theorem mf74 {s : Nat → Nat × Nat} {mr : Nat → Nat → Nat} (h : MS s mr) : mr 114 74 = 133 := h.2.2.2.2.2.2.2.2.2.2.2.2.2.2.2.2.2.2.2.2.2.2.2.2.2.2.2.2.2.2.2.2.2.2.2.2.2.2.2.2.2.2.2.2.2.2.1
theorem mf75 {s : Nat → Nat × Nat} {mr : Nat → Nat → Nat} (h : MS s mr) : mr 114 75 = 134 := h.2.2.2.2.2.2.2.2.2.2.2.2.2.2.2.2.2.2.2.2.2.2.2.2.2.2.2.2.2.2.2.2.2.2.2.2.2.2.2.2.2.2.2.2.2.2.2.1
theorem mf82 {s : Nat → Nat × Nat} {mr : Nat → Nat → Nat} (h : MS s mr) : mr 114 82 = 135 := h.2.2.2.2.2.2.2.2.2.2.2.2.2.2.2.2.2.2.2.2.2.2.2.2.2.2.2.2.2.2.2.2.2.2.2.2.2.2.2.2.2.2.2.2.2.2.2.2.1
theorem mf84 {s : Nat → Nat × Nat} {mr : Nat → Nat → Nat} (h : MS s mr) : mr 114 84 = 136 := h.2.2.2.2.2.2.2.2.2.2.2.2.2.2.2.2.2.2.2.2.2.2.2.2.2.2.2.2.2.2.2.2.2.2.2.2.2.2.2.2.2.2.2.2.2.2.2.2.2.1
theorem mf85 {s : Nat → Nat × Nat} {mr : Nat → Nat → Nat} (h : MS s mr) : mr 114 85 = 137 := h.2.2.2.2.2.2.2.2.2.2.2.2.2.2.2.2.2.2.2.2.2.2.2.2.2.2.2.2.2.2.2.2.2.2.2.2.2.2.2.2.2.2.2.2.2.2.2.2.2.2.1
theorem mf86 {s : Nat → Nat × Nat} {mr : Nat → Nat → Nat} (h : MS s mr) : mr 114 86 = 138 := h.2.2.2.2.2.2.2.2.2.2.2.2.2.2.2.2.2.2.2.2.2.2.2.2.2.2.2.2.2.2.2.2.2.2.2.2.2.2.2.2.2.2.2.2.2.2.2.2.2.2.2.1
theorem mf87 {s : Nat → Nat × Nat} {mr : Nat → Nat → Nat} (h : MS s mr) : mr 114 87 = 139 := h.2.2.2.2.2.2.2.2.2.2.2.2.2.2.2.2.2.2.2.2.2.2.2.2.2.2.2.2.2.2.2.2.2.2.2.2.2.2.2.2.2.2.2.2.2.2.2.2.2.2.2.2.1
theorem mf88 {s : Nat → Nat × Nat} {mr : Nat → Nat → Nat} (h : MS s mr) : mr 114 88 = 140 := h.2.2.2.2.2.2.2.2.2.2.2.2.2.2.2.2.2.2.2.2.2.2.2.2.2.2.2.2.2.2.2.2.2.2.2.2.2.2.2.2.2.2.2.2.2.2.2.2.2.2.2.2.2.1
theorem mf89 {s : Nat → Nat × Nat} {mr : Nat → Nat → Nat} (h : MS s mr) : mr 114 89 = 141 := h.2.2.2.2.2.2.2.2.2.2.2.2.2.2.2.2.2.2.2.2.2.2.2.2.2.2.2.2.2.2.2.2.2.2.2.2.2.2.2.2.2.2.2.2.2.2.2.2.2.2.2.2.2.2
theorem gm50 {s : Nat → Nat × Nat} {mr : Nat → Nat → Nat} (h : MS s mr) {n : Nat × Nat} {mi : Nat → Nat → Int32} {ml : Nat → Nat → Int64} : hgI ((s, n, mi, ml, mr) : Hp) 114 50 = some (mi 114 50) := rgI (ms114 h) hF12_50
theorem pm50 {s : Nat → Nat × Nat} {mr : Nat → Nat → Nat} (h : MS s mr) {n : Nat × Nat} {mi : Nat → Nat → Int32} {ml : Nat → Nat → Int64} {v : Int32} : hpI ((s, n, mi, ml, mr) : Hp) 114 50 v = some (s, n, up2 mi 114 50 v, ml, mr) := rpI (ms114 h) hF12_50 (by decide)
theorem gm51 {s : Nat → Nat × Nat} {mr : Nat → Nat → Nat} (h : MS s mr) {n : Nat × Nat} {mi : Nat → Nat → Int32} {ml : Nat → Nat → Int64} : hgR ((s, n, mi, ml, mr) : Hp) 114 51 = some 115 := by rw [rgR (ms114 h) hF12_51, mf51 h]
theorem gm52 {s : Nat → Nat × Nat} {mr : Nat → Nat → Nat} (h : MS s mr) {n : Nat × Nat} {mi : Nat → Nat → Int32} {ml : Nat → Nat → Int64} : hgR ((s, n, mi, ml, mr) : Hp) 114 52 = some 116 := by rw [rgR (ms114 h) hF12_52, mf52 h]
theorem gm53 {s : Nat → Nat × Nat} {mr : Nat → Nat → Nat} (h : MS s mr) {n : Nat × Nat} {mi : Nat → Nat → Int32} {ml : Nat → Nat → Int64} : hgR ((s, n, mi, ml, mr) : Hp) 114 53 = some 117 := by rw [rgR (ms114 h) hF12_53, mf53 h]
theorem gm54 {s : Nat → Nat × Nat} {mr : Nat → Nat → Nat} (h : MS s mr) {n : Nat × Nat} {mi : Nat → Nat → Int32} {ml : Nat → Nat → Int64} : hgR ((s, n, mi, ml, mr) : Hp) 114 54 = some 118 := by rw [rgR (ms114 h) hF12_54, mf54 h]
theorem gm55 {s : Nat → Nat × Nat} {mr : Nat → Nat → Nat} (h : MS s mr) {n : Nat × Nat} {mi : Nat → Nat → Int32} {ml : Nat → Nat → Int64} : hgR ((s, n, mi, ml, mr) : Hp) 114 55 = some 119 := by rw [rgR (ms114 h) hF12_55, mf55 h]
theorem gm56 {s : Nat → Nat × Nat} {mr : Nat → Nat → Nat} (h : MS s mr) {n : Nat × Nat} {mi : Nat → Nat → Int32} {ml : Nat → Nat → Int64} : hgR ((s, n, mi, ml, mr) : Hp) 114 56 = some 120 := by rw [rgR (ms114 h) hF12_56, mf56 h]
theorem gm57 {s : Nat → Nat × Nat} {mr : Nat → Nat → Nat} (h : MS s mr) {n : Nat × Nat} {mi : Nat → Nat → Int32} {ml : Nat → Nat → Int64} : hgI ((s, n, mi, ml, mr) : Hp) 114 57 = some (mi 114 57) := rgI (ms114 h) hF12_57
theorem pm57 {s : Nat → Nat × Nat} {mr : Nat → Nat → Nat} (h : MS s mr) {n : Nat × Nat} {mi : Nat → Nat → Int32} {ml : Nat → Nat → Int64} {v : Int32} : hpI ((s, n, mi, ml, mr) : Hp) 114 57 v = some (s, n, up2 mi 114 57 v, ml, mr) := rpI (ms114 h) hF12_57 (by decide)
theorem gm58 {s : Nat → Nat × Nat} {mr : Nat → Nat → Nat} (h : MS s mr) {n : Nat × Nat} {mi : Nat → Nat → Int32} {ml : Nat → Nat → Int64} : hgR ((s, n, mi, ml, mr) : Hp) 114 58 = some 121 := by rw [rgR (ms114 h) hF12_58, mf58 h]
theorem gm59 {s : Nat → Nat × Nat} {mr : Nat → Nat → Nat} (h : MS s mr) {n : Nat × Nat} {mi : Nat → Nat → Int32} {ml : Nat → Nat → Int64} : hgI ((s, n, mi, ml, mr) : Hp) 114 59 = some (mi 114 59) := rgI (ms114 h) hF12_59
theorem pm59 {s : Nat → Nat × Nat} {mr : Nat → Nat → Nat} (h : MS s mr) {n : Nat × Nat} {mi : Nat → Nat → Int32} {ml : Nat → Nat → Int64} {v : Int32} : hpI ((s, n, mi, ml, mr) : Hp) 114 59 v = some (s, n, up2 mi 114 59 v, ml, mr) := rpI (ms114 h) hF12_59 (by decide)
theorem gm60 {s : Nat → Nat × Nat} {mr : Nat → Nat → Nat} (h : MS s mr) {n : Nat × Nat} {mi : Nat → Nat → Int32} {ml : Nat → Nat → Int64} : hgI ((s, n, mi, ml, mr) : Hp) 114 60 = some (mi 114 60) := rgI (ms114 h) hF12_60
theorem pm60o {s : Nat → Nat × Nat} {mr : Nat → Nat → Nat} (h : MS s mr) {n : Nat × Nat} {mi : Nat → Nat → Int32} {ml : Nat → Nat → Int64} : hpZ ((s, n, mi, ml, mr) : Hp) 114 60 (zi 0) = some (s, n, up2 mi 114 60 (bz false), ml, mr) := rpZ (b := false) (ms114 h) hF12_60 (by decide)
theorem pm60l {s : Nat → Nat × Nat} {mr : Nat → Nat → Nat} (h : MS s mr) {n : Nat × Nat} {mi : Nat → Nat → Int32} {ml : Nat → Nat → Int64} : hpZ ((s, n, mi, ml, mr) : Hp) 114 60 (zi 1) = some (s, n, up2 mi 114 60 (bz true), ml, mr) := rpZ (b := true) (ms114 h) hF12_60 (by decide)
theorem pm60 {s : Nat → Nat × Nat} {mr : Nat → Nat → Nat} (h : MS s mr) {n : Nat × Nat} {mi : Nat → Nat → Int32} {ml : Nat → Nat → Int64} {b : Bool} : hpZ ((s, n, mi, ml, mr) : Hp) 114 60 (bz b) = some (s, n, up2 mi 114 60 (bz b), ml, mr) := rpZ (ms114 h) hF12_60 (by decide)
theorem gm61 {s : Nat → Nat × Nat} {mr : Nat → Nat → Nat} (h : MS s mr) {n : Nat × Nat} {mi : Nat → Nat → Int32} {ml : Nat → Nat → Int64} : hgR ((s, n, mi, ml, mr) : Hp) 114 61 = some 122 := by rw [rgR (ms114 h) hF12_61, mf61 h]
theorem gm62 {s : Nat → Nat × Nat} {mr : Nat → Nat → Nat} (h : MS s mr) {n : Nat × Nat} {mi : Nat → Nat → Int32} {ml : Nat → Nat → Int64} : hgR ((s, n, mi, ml, mr) : Hp) 114 62 = some 123 := by rw [rgR (ms114 h) hF12_62, mf62 h]
theorem gm63 {s : Nat → Nat × Nat} {mr : Nat → Nat → Nat} (h : MS s mr) {n : Nat × Nat} {mi : Nat → Nat → Int32} {ml : Nat → Nat → Int64} : hgI ((s, n, mi, ml, mr) : Hp) 114 63 = some (mi 114 63) := rgI (ms114 h) hF12_63
theorem pm63 {s : Nat → Nat × Nat} {mr : Nat → Nat → Nat} (h : MS s mr) {n : Nat × Nat} {mi : Nat → Nat → Int32} {ml : Nat → Nat → Int64} {v : Int32} : hpI ((s, n, mi, ml, mr) : Hp) 114 63 v = some (s, n, up2 mi 114 63 v, ml, mr) := rpI (ms114 h) hF12_63 (by decide)
theorem gm64 {s : Nat → Nat × Nat} {mr : Nat → Nat → Nat} (h : MS s mr) {n : Nat × Nat} {mi : Nat → Nat → Int32} {ml : Nat → Nat → Int64} : hgR ((s, n, mi, ml, mr) : Hp) 114 64 = some 124 := by rw [rgR (ms114 h) hF12_64, mf64 h]
theorem gm65 {s : Nat → Nat × Nat} {mr : Nat → Nat → Nat} (h : MS s mr) {n : Nat × Nat} {mi : Nat → Nat → Int32} {ml : Nat → Nat → Int64} : hgR ((s, n, mi, ml, mr) : Hp) 114 65 = some 125 := by rw [rgR (ms114 h) hF12_65, mf65 h]
theorem gm66 {s : Nat → Nat × Nat} {mr : Nat → Nat → Nat} (h : MS s mr) {n : Nat × Nat} {mi : Nat → Nat → Int32} {ml : Nat → Nat → Int64} : hgI ((s, n, mi, ml, mr) : Hp) 114 66 = some (mi 114 66) := rgI (ms114 h) hF12_66
theorem pm66 {s : Nat → Nat × Nat} {mr : Nat → Nat → Nat} (h : MS s mr) {n : Nat × Nat} {mi : Nat → Nat → Int32} {ml : Nat → Nat → Int64} {v : Int32} : hpI ((s, n, mi, ml, mr) : Hp) 114 66 v = some (s, n, up2 mi 114 66 v, ml, mr) := rpI (ms114 h) hF12_66 (by decide)
theorem gm67 {s : Nat → Nat × Nat} {mr : Nat → Nat → Nat} (h : MS s mr) {n : Nat × Nat} {mi : Nat → Nat → Int32} {ml : Nat → Nat → Int64} : hgR ((s, n, mi, ml, mr) : Hp) 114 67 = some 126 := by rw [rgR (ms114 h) hF12_67, mf67 h]
theorem gm68 {s : Nat → Nat × Nat} {mr : Nat → Nat → Nat} (h : MS s mr) {n : Nat × Nat} {mi : Nat → Nat → Int32} {ml : Nat → Nat → Int64} : hgR ((s, n, mi, ml, mr) : Hp) 114 68 = some 127 := by rw [rgR (ms114 h) hF12_68, mf68 h]
theorem gm69 {s : Nat → Nat × Nat} {mr : Nat → Nat → Nat} (h : MS s mr) {n : Nat × Nat} {mi : Nat → Nat → Int32} {ml : Nat → Nat → Int64} : hgR ((s, n, mi, ml, mr) : Hp) 114 69 = some 128 := by rw [rgR (ms114 h) hF12_69, mf69 h]
theorem gm70 {s : Nat → Nat × Nat} {mr : Nat → Nat → Nat} (h : MS s mr) {n : Nat × Nat} {mi : Nat → Nat → Int32} {ml : Nat → Nat → Int64} : hgR ((s, n, mi, ml, mr) : Hp) 114 70 = some 129 := by rw [rgR (ms114 h) hF12_70, mf70 h]
theorem gm71 {s : Nat → Nat × Nat} {mr : Nat → Nat → Nat} (h : MS s mr) {n : Nat × Nat} {mi : Nat → Nat → Int32} {ml : Nat → Nat → Int64} : hgR ((s, n, mi, ml, mr) : Hp) 114 71 = some 130 := by rw [rgR (ms114 h) hF12_71, mf71 h]
theorem gm72 {s : Nat → Nat × Nat} {mr : Nat → Nat → Nat} (h : MS s mr) {n : Nat × Nat} {mi : Nat → Nat → Int32} {ml : Nat → Nat → Int64} : hgR ((s, n, mi, ml, mr) : Hp) 114 72 = some 131 := by rw [rgR (ms114 h) hF12_72, mf72 h]
theorem gm73 {s : Nat → Nat × Nat} {mr : Nat → Nat → Nat} (h : MS s mr) {n : Nat × Nat} {mi : Nat → Nat → Int32} {ml : Nat → Nat → Int64} : hgR ((s, n, mi, ml, mr) : Hp) 114 73 = some 132 := by rw [rgR (ms114 h) hF12_73, mf73 h]
theorem gm74 {s : Nat → Nat × Nat} {mr : Nat → Nat → Nat} (h : MS s mr) {n : Nat × Nat} {mi : Nat → Nat → Int32} {ml : Nat → Nat → Int64} : hgR ((s, n, mi, ml, mr) : Hp) 114 74 = some 133 := by rw [rgR (ms114 h) hF12_74, mf74 h]
theorem gm75 {s : Nat → Nat × Nat} {mr : Nat → Nat → Nat} (h : MS s mr) {n : Nat × Nat} {mi : Nat → Nat → Int32} {ml : Nat → Nat → Int64} : hgR ((s, n, mi, ml, mr) : Hp) 114 75 = some 134 := by rw [rgR (ms114 h) hF12_75, mf75 h]
theorem gm76 {s : Nat → Nat × Nat} {mr : Nat → Nat → Nat} (h : MS s mr) {n : Nat × Nat} {mi : Nat → Nat → Int32} {ml : Nat → Nat → Int64} : hgI ((s, n, mi, ml, mr) : Hp) 114 76 = some (mi 114 76) := rgI (ms114 h) hF12_76
theorem pm76 {s : Nat → Nat × Nat} {mr : Nat → Nat → Nat} (h : MS s mr) {n : Nat × Nat} {mi : Nat → Nat → Int32} {ml : Nat → Nat → Int64} {v : Int32} : hpI ((s, n, mi, ml, mr) : Hp) 114 76 v = some (s, n, up2 mi 114 76 v, ml, mr) := rpI (ms114 h) hF12_76 (by decide)
theorem gm77 {s : Nat → Nat × Nat} {mr : Nat → Nat → Nat} (h : MS s mr) {n : Nat × Nat} {mi : Nat → Nat → Int32} {ml : Nat → Nat → Int64} : hgJ ((s, n, mi, ml, mr) : Hp) 114 77 = some (ml 114 77) := rgJ (ms114 h) hF12_77
theorem pm77 {s : Nat → Nat × Nat} {mr : Nat → Nat → Nat} (h : MS s mr) {n : Nat × Nat} {mi : Nat → Nat → Int32} {ml : Nat → Nat → Int64} {v : Int64} : hpJ ((s, n, mi, ml, mr) : Hp) 114 77 v = some (s, n, mi, up2 ml 114 77 v, mr) := rpJ (ms114 h) hF12_77 (by decide)
theorem gm78 {s : Nat → Nat × Nat} {mr : Nat → Nat → Nat} (h : MS s mr) {n : Nat × Nat} {mi : Nat → Nat → Int32} {ml : Nat → Nat → Int64} : hgI ((s, n, mi, ml, mr) : Hp) 114 78 = some (mi 114 78) := rgI (ms114 h) hF12_78
theorem pm78 {s : Nat → Nat × Nat} {mr : Nat → Nat → Nat} (h : MS s mr) {n : Nat × Nat} {mi : Nat → Nat → Int32} {ml : Nat → Nat → Int64} {v : Int32} : hpI ((s, n, mi, ml, mr) : Hp) 114 78 v = some (s, n, up2 mi 114 78 v, ml, mr) := rpI (ms114 h) hF12_78 (by decide)
theorem gm79 {s : Nat → Nat × Nat} {mr : Nat → Nat → Nat} (h : MS s mr) {n : Nat × Nat} {mi : Nat → Nat → Int32} {ml : Nat → Nat → Int64} : hgI ((s, n, mi, ml, mr) : Hp) 114 79 = some (mi 114 79) := rgI (ms114 h) hF12_79
theorem pm79 {s : Nat → Nat × Nat} {mr : Nat → Nat → Nat} (h : MS s mr) {n : Nat × Nat} {mi : Nat → Nat → Int32} {ml : Nat → Nat → Int64} {v : Int32} : hpI ((s, n, mi, ml, mr) : Hp) 114 79 v = some (s, n, up2 mi 114 79 v, ml, mr) := rpI (ms114 h) hF12_79 (by decide)
theorem gm80 {s : Nat → Nat × Nat} {mr : Nat → Nat → Nat} (h : MS s mr) {n : Nat × Nat} {mi : Nat → Nat → Int32} {ml : Nat → Nat → Int64} : hgI ((s, n, mi, ml, mr) : Hp) 114 80 = some (mi 114 80) := rgI (ms114 h) hF12_80
theorem pm80 {s : Nat → Nat × Nat} {mr : Nat → Nat → Nat} (h : MS s mr) {n : Nat × Nat} {mi : Nat → Nat → Int32} {ml : Nat → Nat → Int64} {v : Int32} : hpI ((s, n, mi, ml, mr) : Hp) 114 80 v = some (s, n, up2 mi 114 80 v, ml, mr) := rpI (ms114 h) hF12_80 (by decide)
theorem gm81 {s : Nat → Nat × Nat} {mr : Nat → Nat → Nat} (h : MS s mr) {n : Nat × Nat} {mi : Nat → Nat → Int32} {ml : Nat → Nat → Int64} : hgI ((s, n, mi, ml, mr) : Hp) 114 81 = some (mi 114 81) := rgI (ms114 h) hF12_81
theorem pm81 {s : Nat → Nat × Nat} {mr : Nat → Nat → Nat} (h : MS s mr) {n : Nat × Nat} {mi : Nat → Nat → Int32} {ml : Nat → Nat → Int64} {v : Int32} : hpI ((s, n, mi, ml, mr) : Hp) 114 81 v = some (s, n, up2 mi 114 81 v, ml, mr) := rpI (ms114 h) hF12_81 (by decide)
theorem gm82 {s : Nat → Nat × Nat} {mr : Nat → Nat → Nat} (h : MS s mr) {n : Nat × Nat} {mi : Nat → Nat → Int32} {ml : Nat → Nat → Int64} : hgR ((s, n, mi, ml, mr) : Hp) 114 82 = some 135 := by rw [rgR (ms114 h) hF12_82, mf82 h]
theorem gm83 {s : Nat → Nat × Nat} {mr : Nat → Nat → Nat} (h : MS s mr) {n : Nat × Nat} {mi : Nat → Nat → Int32} {ml : Nat → Nat → Int64} : hgI ((s, n, mi, ml, mr) : Hp) 114 83 = some (mi 114 83) := rgI (ms114 h) hF12_83
theorem pm83 {s : Nat → Nat × Nat} {mr : Nat → Nat → Nat} (h : MS s mr) {n : Nat × Nat} {mi : Nat → Nat → Int32} {ml : Nat → Nat → Int64} {v : Int32} : hpI ((s, n, mi, ml, mr) : Hp) 114 83 v = some (s, n, up2 mi 114 83 v, ml, mr) := rpI (ms114 h) hF12_83 (by decide)
theorem gm84 {s : Nat → Nat × Nat} {mr : Nat → Nat → Nat} (h : MS s mr) {n : Nat × Nat} {mi : Nat → Nat → Int32} {ml : Nat → Nat → Int64} : hgR ((s, n, mi, ml, mr) : Hp) 114 84 = some 136 := by rw [rgR (ms114 h) hF12_84, mf84 h]
theorem gm85 {s : Nat → Nat × Nat} {mr : Nat → Nat → Nat} (h : MS s mr) {n : Nat × Nat} {mi : Nat → Nat → Int32} {ml : Nat → Nat → Int64} : hgR ((s, n, mi, ml, mr) : Hp) 114 85 = some 137 := by rw [rgR (ms114 h) hF12_85, mf85 h]
theorem gm86 {s : Nat → Nat × Nat} {mr : Nat → Nat → Nat} (h : MS s mr) {n : Nat × Nat} {mi : Nat → Nat → Int32} {ml : Nat → Nat → Int64} : hgR ((s, n, mi, ml, mr) : Hp) 114 86 = some 138 := by rw [rgR (ms114 h) hF12_86, mf86 h]
theorem gm87 {s : Nat → Nat × Nat} {mr : Nat → Nat → Nat} (h : MS s mr) {n : Nat × Nat} {mi : Nat → Nat → Int32} {ml : Nat → Nat → Int64} : hgR ((s, n, mi, ml, mr) : Hp) 114 87 = some 139 := by rw [rgR (ms114 h) hF12_87, mf87 h]
theorem gm88 {s : Nat → Nat × Nat} {mr : Nat → Nat → Nat} (h : MS s mr) {n : Nat × Nat} {mi : Nat → Nat → Int32} {ml : Nat → Nat → Int64} : hgR ((s, n, mi, ml, mr) : Hp) 114 88 = some 140 := by rw [rgR (ms114 h) hF12_88, mf88 h]
theorem gm89 {s : Nat → Nat × Nat} {mr : Nat → Nat → Nat} (h : MS s mr) {n : Nat × Nat} {mi : Nat → Nat → Int32} {ml : Nat → Nat → Int64} : hgR ((s, n, mi, ml, mr) : Hp) 114 89 = some 141 := by rw [rgR (ms114 h) hF12_89, mf89 h]
theorem am115 {s : Nat → Nat × Nat} {mr : Nat → Nat → Nat} (h : MS s mr) {n : Nat × Nat} {mi : Nat → Nat → Int32} {ml : Nat → Nat → Int64} {i : Nat} (hi : i < 8) : hAI ((s, n, mi, ml, mr) : Hp) 115 (zi i) = some (mi 115 i) := raI (ms115 h) hi (by decide)
theorem wm115 {s : Nat → Nat × Nat} {mr : Nat → Nat → Nat} (h : MS s mr) {n : Nat × Nat} {mi : Nat → Nat → Int32} {ml : Nat → Nat → Int64} {i : Nat} {v : Int32} (hi : i < 8) : hSI ((s, n, mi, ml, mr) : Hp) 115 (zi i) v = some (s, n, up2 mi 115 i v, ml, mr) := rsI (ms115 h) hi (by decide) (by decide)
theorem am116 {s : Nat → Nat × Nat} {mr : Nat → Nat → Nat} (h : MS s mr) {n : Nat × Nat} {mi : Nat → Nat → Int32} {ml : Nat → Nat → Int64} {i : Nat} (hi : i < 192) : hAI ((s, n, mi, ml, mr) : Hp) 116 (zi i) = some (mi 116 i) := raI (ms116 h) hi (by decide)
theorem wm116 {s : Nat → Nat × Nat} {mr : Nat → Nat → Nat} (h : MS s mr) {n : Nat × Nat} {mi : Nat → Nat → Int32} {ml : Nat → Nat → Int64} {i : Nat} {v : Int32} (hi : i < 192) : hSI ((s, n, mi, ml, mr) : Hp) 116 (zi i) v = some (s, n, up2 mi 116 i v, ml, mr) := rsI (ms116 h) hi (by decide) (by decide)
theorem am117 {s : Nat → Nat × Nat} {mr : Nat → Nat → Nat} (h : MS s mr) {n : Nat × Nat} {mi : Nat → Nat → Int32} {ml : Nat → Nat → Int64} {i : Nat} (hi : i < 192) : hAI ((s, n, mi, ml, mr) : Hp) 117 (zi i) = some (mi 117 i) := raI (ms117 h) hi (by decide)
theorem wm117 {s : Nat → Nat × Nat} {mr : Nat → Nat → Nat} (h : MS s mr) {n : Nat × Nat} {mi : Nat → Nat → Int32} {ml : Nat → Nat → Int64} {i : Nat} {v : Int32} (hi : i < 192) : hSI ((s, n, mi, ml, mr) : Hp) 117 (zi i) v = some (s, n, up2 mi 117 i v, ml, mr) := rsI (ms117 h) hi (by decide) (by decide)
theorem am118 {s : Nat → Nat × Nat} {mr : Nat → Nat → Nat} (h : MS s mr) {n : Nat × Nat} {mi : Nat → Nat → Int32} {ml : Nat → Nat → Int64} {i : Nat} (hi : i < 192) : hAI ((s, n, mi, ml, mr) : Hp) 118 (zi i) = some (mi 118 i) := raI (ms118 h) hi (by decide)
theorem wm118 {s : Nat → Nat × Nat} {mr : Nat → Nat → Nat} (h : MS s mr) {n : Nat × Nat} {mi : Nat → Nat → Int32} {ml : Nat → Nat → Int64} {i : Nat} {v : Int32} (hi : i < 192) : hSI ((s, n, mi, ml, mr) : Hp) 118 (zi i) v = some (s, n, up2 mi 118 i v, ml, mr) := rsI (ms118 h) hi (by decide) (by decide)
theorem am119 {s : Nat → Nat × Nat} {mr : Nat → Nat → Nat} (h : MS s mr) {n : Nat × Nat} {mi : Nat → Nat → Int32} {ml : Nat → Nat → Int64} {i : Nat} (hi : i < 2304) : hAI ((s, n, mi, ml, mr) : Hp) 119 (zi i) = some (mi 119 i) := raI (ms119 h) hi (by decide)
theorem wm119 {s : Nat → Nat × Nat} {mr : Nat → Nat → Nat} (h : MS s mr) {n : Nat × Nat} {mi : Nat → Nat → Int32} {ml : Nat → Nat → Int64} {i : Nat} {v : Int32} (hi : i < 2304) : hSI ((s, n, mi, ml, mr) : Hp) 119 (zi i) v = some (s, n, up2 mi 119 i v, ml, mr) := rsI (ms119 h) hi (by decide) (by decide)
theorem am120 {s : Nat → Nat × Nat} {mr : Nat → Nat → Nat} (h : MS s mr) {n : Nat × Nat} {mi : Nat → Nat → Int32} {ml : Nat → Nat → Int64} {i : Nat} (hi : i < 12) : hAI ((s, n, mi, ml, mr) : Hp) 120 (zi i) = some (mi 120 i) := raI (ms120 h) hi (by decide)
theorem wm120 {s : Nat → Nat × Nat} {mr : Nat → Nat → Nat} (h : MS s mr) {n : Nat × Nat} {mi : Nat → Nat → Int32} {ml : Nat → Nat → Int64} {i : Nat} {v : Int32} (hi : i < 12) : hSI ((s, n, mi, ml, mr) : Hp) 120 (zi i) v = some (s, n, up2 mi 120 i v, ml, mr) := rsI (ms120 h) hi (by decide) (by decide)
theorem am121 {s : Nat → Nat × Nat} {mr : Nat → Nat → Nat} (h : MS s mr) {n : Nat × Nat} {mi : Nat → Nat → Int32} {ml : Nat → Nat → Int64} {i : Nat} (hi : i < 16) : hAI ((s, n, mi, ml, mr) : Hp) 121 (zi i) = some (mi 121 i) := raI (ms121 h) hi (by decide)
theorem wm121 {s : Nat → Nat × Nat} {mr : Nat → Nat → Nat} (h : MS s mr) {n : Nat × Nat} {mi : Nat → Nat → Int32} {ml : Nat → Nat → Int64} {i : Nat} {v : Int32} (hi : i < 16) : hSI ((s, n, mi, ml, mr) : Hp) 121 (zi i) v = some (s, n, up2 mi 121 i v, ml, mr) := rsI (ms121 h) hi (by decide) (by decide)
theorem am122 {s : Nat → Nat × Nat} {mr : Nat → Nat → Nat} (h : MS s mr) {n : Nat × Nat} {mi : Nat → Nat → Int32} {ml : Nat → Nat → Int64} {i : Nat} (hi : i < 1260) : hAI ((s, n, mi, ml, mr) : Hp) 122 (zi i) = some (mi 122 i) := raI (ms122 h) hi (by decide)
theorem wm122 {s : Nat → Nat × Nat} {mr : Nat → Nat → Nat} (h : MS s mr) {n : Nat × Nat} {mi : Nat → Nat → Int32} {ml : Nat → Nat → Int64} {i : Nat} {v : Int32} (hi : i < 1260) : hSI ((s, n, mi, ml, mr) : Hp) 122 (zi i) v = some (s, n, up2 mi 122 i v, ml, mr) := rsI (ms122 h) hi (by decide) (by decide)
theorem am123 {s : Nat → Nat × Nat} {mr : Nat → Nat → Nat} (h : MS s mr) {n : Nat × Nat} {mi : Nat → Nat → Int32} {ml : Nat → Nat → Int64} {i : Nat} (hi : i < 7776) : hAI ((s, n, mi, ml, mr) : Hp) 123 (zi i) = some (mi 123 i) := raI (ms123 h) hi (by decide)
theorem wm123 {s : Nat → Nat × Nat} {mr : Nat → Nat → Nat} (h : MS s mr) {n : Nat × Nat} {mi : Nat → Nat → Int32} {ml : Nat → Nat → Int64} {i : Nat} {v : Int32} (hi : i < 7776) : hSI ((s, n, mi, ml, mr) : Hp) 123 (zi i) v = some (s, n, up2 mi 123 i v, ml, mr) := rsI (ms123 h) hi (by decide) (by decide)
theorem am124 {s : Nat → Nat × Nat} {mr : Nat → Nat → Nat} (h : MS s mr) {n : Nat × Nat} {mi : Nat → Nat → Int32} {ml : Nat → Nat → Int64} {i : Nat} (hi : i < 24) : hAI ((s, n, mi, ml, mr) : Hp) 124 (zi i) = some (mi 124 i) := raI (ms124 h) hi (by decide)
theorem wm124 {s : Nat → Nat × Nat} {mr : Nat → Nat → Nat} (h : MS s mr) {n : Nat × Nat} {mi : Nat → Nat → Int32} {ml : Nat → Nat → Int64} {i : Nat} {v : Int32} (hi : i < 24) : hSI ((s, n, mi, ml, mr) : Hp) 124 (zi i) v = some (s, n, up2 mi 124 i v, ml, mr) := rsI (ms124 h) hi (by decide) (by decide)
theorem am125 {s : Nat → Nat × Nat} {mr : Nat → Nat → Nat} (h : MS s mr) {n : Nat × Nat} {mi : Nat → Nat → Int32} {ml : Nat → Nat → Int64} {i : Nat} (hi : i < 24) : hAI ((s, n, mi, ml, mr) : Hp) 125 (zi i) = some (mi 125 i) := raI (ms125 h) hi (by decide)
theorem wm125 {s : Nat → Nat × Nat} {mr : Nat → Nat → Nat} (h : MS s mr) {n : Nat × Nat} {mi : Nat → Nat → Int32} {ml : Nat → Nat → Int64} {i : Nat} {v : Int32} (hi : i < 24) : hSI ((s, n, mi, ml, mr) : Hp) 125 (zi i) v = some (s, n, up2 mi 125 i v, ml, mr) := rsI (ms125 h) hi (by decide) (by decide)
theorem am126 {s : Nat → Nat × Nat} {mr : Nat → Nat → Nat} (h : MS s mr) {n : Nat × Nat} {mi : Nat → Nat → Int32} {ml : Nat → Nat → Int64} {i : Nat} (hi : i < 17640) : hAJ ((s, n, mi, ml, mr) : Hp) 126 (zi i) = some (ml 126 i) := raJ (ms126 h) hi (by decide)
theorem wm126 {s : Nat → Nat × Nat} {mr : Nat → Nat → Nat} (h : MS s mr) {n : Nat × Nat} {mi : Nat → Nat → Int32} {ml : Nat → Nat → Int64} {i : Nat} {v : Int64} (hi : i < 17640) : hSJ ((s, n, mi, ml, mr) : Hp) 126 (zi i) v = some (s, n, mi, up2 ml 126 i v, mr) := rsJ (ms126 h) hi (by decide) (by decide)
theorem am127 {s : Nat → Nat × Nat} {mr : Nat → Nat → Nat} (h : MS s mr) {n : Nat × Nat} {mi : Nat → Nat → Int32} {ml : Nat → Nat → Int64} {i : Nat} (hi : i < 8) : hAZ ((s, n, mi, ml, mr) : Hp) 127 (zi i) = some (mi 127 i) := raZ (ms127 h) hi (by decide)
theorem wm127o {s : Nat → Nat × Nat} {mr : Nat → Nat → Nat} (h : MS s mr) {n : Nat × Nat} {mi : Nat → Nat → Int32} {ml : Nat → Nat → Int64} {i : Nat} (hi : i < 8) : hSZ ((s, n, mi, ml, mr) : Hp) 127 (zi i) (zi 0) = some (s, n, up2 mi 127 i (bz false), ml, mr) := rsZ (b := false) (ms127 h) hi (by decide) (by decide)
theorem wm127l {s : Nat → Nat × Nat} {mr : Nat → Nat → Nat} (h : MS s mr) {n : Nat × Nat} {mi : Nat → Nat → Int32} {ml : Nat → Nat → Int64} {i : Nat} (hi : i < 8) : hSZ ((s, n, mi, ml, mr) : Hp) 127 (zi i) (zi 1) = some (s, n, up2 mi 127 i (bz true), ml, mr) := rsZ (b := true) (ms127 h) hi (by decide) (by decide)
theorem wm127 {s : Nat → Nat × Nat} {mr : Nat → Nat → Nat} (h : MS s mr) {n : Nat × Nat} {mi : Nat → Nat → Int32} {ml : Nat → Nat → Int64} {i : Nat} {b : Bool} (hi : i < 8) : hSZ ((s, n, mi, ml, mr) : Hp) 127 (zi i) (bz b) = some (s, n, up2 mi 127 i (bz b), ml, mr) := rsZ (ms127 h) hi (by decide) (by decide)
theorem am128 {s : Nat → Nat × Nat} {mr : Nat → Nat → Nat} (h : MS s mr) {n : Nat × Nat} {mi : Nat → Nat → Int32} {ml : Nat → Nat → Int64} {i : Nat} (hi : i < 8) : hAZ ((s, n, mi, ml, mr) : Hp) 128 (zi i) = some (mi 128 i) := raZ (ms128 h) hi (by decide)
theorem wm128o {s : Nat → Nat × Nat} {mr : Nat → Nat → Nat} (h : MS s mr) {n : Nat × Nat} {mi : Nat → Nat → Int32} {ml : Nat → Nat → Int64} {i : Nat} (hi : i < 8) : hSZ ((s, n, mi, ml, mr) : Hp) 128 (zi i) (zi 0) = some (s, n, up2 mi 128 i (bz false), ml, mr) := rsZ (b := false) (ms128 h) hi (by decide) (by decide)
theorem wm128l {s : Nat → Nat × Nat} {mr : Nat → Nat → Nat} (h : MS s mr) {n : Nat × Nat} {mi : Nat → Nat → Int32} {ml : Nat → Nat → Int64} {i : Nat} (hi : i < 8) : hSZ ((s, n, mi, ml, mr) : Hp) 128 (zi i) (zi 1) = some (s, n, up2 mi 128 i (bz true), ml, mr) := rsZ (b := true) (ms128 h) hi (by decide) (by decide)
theorem wm128 {s : Nat → Nat × Nat} {mr : Nat → Nat → Nat} (h : MS s mr) {n : Nat × Nat} {mi : Nat → Nat → Int32} {ml : Nat → Nat → Int64} {i : Nat} {b : Bool} (hi : i < 8) : hSZ ((s, n, mi, ml, mr) : Hp) 128 (zi i) (bz b) = some (s, n, up2 mi 128 i (bz b), ml, mr) := rsZ (ms128 h) hi (by decide) (by decide)
theorem am129 {s : Nat → Nat × Nat} {mr : Nat → Nat → Nat} (h : MS s mr) {n : Nat × Nat} {mi : Nat → Nat → Int32} {ml : Nat → Nat → Int64} {i : Nat} (hi : i < 16) : hAZ ((s, n, mi, ml, mr) : Hp) 129 (zi i) = some (mi 129 i) := raZ (ms129 h) hi (by decide)
theorem wm129o {s : Nat → Nat × Nat} {mr : Nat → Nat → Nat} (h : MS s mr) {n : Nat × Nat} {mi : Nat → Nat → Int32} {ml : Nat → Nat → Int64} {i : Nat} (hi : i < 16) : hSZ ((s, n, mi, ml, mr) : Hp) 129 (zi i) (zi 0) = some (s, n, up2 mi 129 i (bz false), ml, mr) := rsZ (b := false) (ms129 h) hi (by decide) (by decide)
theorem wm129l {s : Nat → Nat × Nat} {mr : Nat → Nat → Nat} (h : MS s mr) {n : Nat × Nat} {mi : Nat → Nat → Int32} {ml : Nat → Nat → Int64} {i : Nat} (hi : i < 16) : hSZ ((s, n, mi, ml, mr) : Hp) 129 (zi i) (zi 1) = some (s, n, up2 mi 129 i (bz true), ml, mr) := rsZ (b := true) (ms129 h) hi (by decide) (by decide)
theorem wm129 {s : Nat → Nat × Nat} {mr : Nat → Nat → Nat} (h : MS s mr) {n : Nat × Nat} {mi : Nat → Nat → Int32} {ml : Nat → Nat → Int64} {i : Nat} {b : Bool} (hi : i < 16) : hSZ ((s, n, mi, ml, mr) : Hp) 129 (zi i) (bz b) = some (s, n, up2 mi 129 i (bz b), ml, mr) := rsZ (ms129 h) hi (by decide) (by decide)
theorem am130 {s : Nat → Nat × Nat} {mr : Nat → Nat → Nat} (h : MS s mr) {n : Nat × Nat} {mi : Nat → Nat → Int32} {ml : Nat → Nat → Int64} {i : Nat} (hi : i < 252) : hAJ ((s, n, mi, ml, mr) : Hp) 130 (zi i) = some (ml 130 i) := raJ (ms130 h) hi (by decide)
theorem wm130 {s : Nat → Nat × Nat} {mr : Nat → Nat → Nat} (h : MS s mr) {n : Nat × Nat} {mi : Nat → Nat → Int32} {ml : Nat → Nat → Int64} {i : Nat} {v : Int64} (hi : i < 252) : hSJ ((s, n, mi, ml, mr) : Hp) 130 (zi i) v = some (s, n, mi, up2 ml 130 i v, mr) := rsJ (ms130 h) hi (by decide) (by decide)
theorem am131 {s : Nat → Nat × Nat} {mr : Nat → Nat → Nat} (h : MS s mr) {n : Nat × Nat} {mi : Nat → Nat → Int32} {ml : Nat → Nat → Int64} {i : Nat} (hi : i < 252) : hAJ ((s, n, mi, ml, mr) : Hp) 131 (zi i) = some (ml 131 i) := raJ (ms131 h) hi (by decide)
theorem wm131 {s : Nat → Nat × Nat} {mr : Nat → Nat → Nat} (h : MS s mr) {n : Nat × Nat} {mi : Nat → Nat → Int32} {ml : Nat → Nat → Int64} {i : Nat} {v : Int64} (hi : i < 252) : hSJ ((s, n, mi, ml, mr) : Hp) 131 (zi i) v = some (s, n, mi, up2 ml 131 i v, mr) := rsJ (ms131 h) hi (by decide) (by decide)
theorem am132 {s : Nat → Nat × Nat} {mr : Nat → Nat → Nat} (h : MS s mr) {n : Nat × Nat} {mi : Nat → Nat → Int32} {ml : Nat → Nat → Int64} {i : Nat} (hi : i < 30) : hAI ((s, n, mi, ml, mr) : Hp) 132 (zi i) = some (mi 132 i) := raI (ms132 h) hi (by decide)
theorem wm132 {s : Nat → Nat × Nat} {mr : Nat → Nat → Nat} (h : MS s mr) {n : Nat × Nat} {mi : Nat → Nat → Int32} {ml : Nat → Nat → Int64} {i : Nat} {v : Int32} (hi : i < 30) : hSI ((s, n, mi, ml, mr) : Hp) 132 (zi i) v = some (s, n, up2 mi 132 i v, ml, mr) := rsI (ms132 h) hi (by decide) (by decide)
theorem am133 {s : Nat → Nat × Nat} {mr : Nat → Nat → Nat} (h : MS s mr) {n : Nat × Nat} {mi : Nat → Nat → Int32} {ml : Nat → Nat → Int64} {i : Nat} (hi : i < 24) : hAI ((s, n, mi, ml, mr) : Hp) 133 (zi i) = some (mi 133 i) := raI (ms133 h) hi (by decide)
theorem wm133 {s : Nat → Nat × Nat} {mr : Nat → Nat → Nat} (h : MS s mr) {n : Nat × Nat} {mi : Nat → Nat → Int32} {ml : Nat → Nat → Int64} {i : Nat} {v : Int32} (hi : i < 24) : hSI ((s, n, mi, ml, mr) : Hp) 133 (zi i) v = some (s, n, up2 mi 133 i v, ml, mr) := rsI (ms133 h) hi (by decide) (by decide)
theorem am134 {s : Nat → Nat × Nat} {mr : Nat → Nat → Nat} (h : MS s mr) {n : Nat × Nat} {mi : Nat → Nat → Int32} {ml : Nat → Nat → Int64} {i : Nat} (hi : i < 24) : hAI ((s, n, mi, ml, mr) : Hp) 134 (zi i) = some (mi 134 i) := raI (ms134 h) hi (by decide)
theorem wm134 {s : Nat → Nat × Nat} {mr : Nat → Nat → Nat} (h : MS s mr) {n : Nat × Nat} {mi : Nat → Nat → Int32} {ml : Nat → Nat → Int64} {i : Nat} {v : Int32} (hi : i < 24) : hSI ((s, n, mi, ml, mr) : Hp) 134 (zi i) v = some (s, n, up2 mi 134 i v, ml, mr) := rsI (ms134 h) hi (by decide) (by decide)
theorem am135 {s : Nat → Nat × Nat} {mr : Nat → Nat → Nat} (h : MS s mr) {n : Nat × Nat} {mi : Nat → Nat → Int32} {ml : Nat → Nat → Int64} {i : Nat} (hi : i < 3) : hAI ((s, n, mi, ml, mr) : Hp) 135 (zi i) = some (mi 135 i) := raI (ms135 h) hi (by decide)
theorem wm135 {s : Nat → Nat × Nat} {mr : Nat → Nat → Nat} (h : MS s mr) {n : Nat × Nat} {mi : Nat → Nat → Int32} {ml : Nat → Nat → Int64} {i : Nat} {v : Int32} (hi : i < 3) : hSI ((s, n, mi, ml, mr) : Hp) 135 (zi i) v = some (s, n, up2 mi 135 i v, ml, mr) := rsI (ms135 h) hi (by decide) (by decide)
theorem am136 {s : Nat → Nat × Nat} {mr : Nat → Nat → Nat} (h : MS s mr) {n : Nat × Nat} {mi : Nat → Nat → Int32} {ml : Nat → Nat → Int64} {i : Nat} (hi : i < 220) : hAI ((s, n, mi, ml, mr) : Hp) 136 (zi i) = some (mi 136 i) := raI (ms136 h) hi (by decide)
theorem wm136 {s : Nat → Nat × Nat} {mr : Nat → Nat → Nat} (h : MS s mr) {n : Nat × Nat} {mi : Nat → Nat → Int32} {ml : Nat → Nat → Int64} {i : Nat} {v : Int32} (hi : i < 220) : hSI ((s, n, mi, ml, mr) : Hp) 136 (zi i) v = some (s, n, up2 mi 136 i v, ml, mr) := rsI (ms136 h) hi (by decide) (by decide)
theorem am137 {s : Nat → Nat × Nat} {mr : Nat → Nat → Nat} (h : MS s mr) {n : Nat × Nat} {mi : Nat → Nat → Int32} {ml : Nat → Nat → Int64} {i : Nat} (hi : i < 220) : hAI ((s, n, mi, ml, mr) : Hp) 137 (zi i) = some (mi 137 i) := raI (ms137 h) hi (by decide)
theorem wm137 {s : Nat → Nat × Nat} {mr : Nat → Nat → Nat} (h : MS s mr) {n : Nat × Nat} {mi : Nat → Nat → Int32} {ml : Nat → Nat → Int64} {i : Nat} {v : Int32} (hi : i < 220) : hSI ((s, n, mi, ml, mr) : Hp) 137 (zi i) v = some (s, n, up2 mi 137 i v, ml, mr) := rsI (ms137 h) hi (by decide) (by decide)
theorem am138 {s : Nat → Nat × Nat} {mr : Nat → Nat → Nat} (h : MS s mr) {n : Nat × Nat} {mi : Nat → Nat → Int32} {ml : Nat → Nat → Int64} {i : Nat} (hi : i < 220) : hAI ((s, n, mi, ml, mr) : Hp) 138 (zi i) = some (mi 138 i) := raI (ms138 h) hi (by decide)
theorem wm138 {s : Nat → Nat × Nat} {mr : Nat → Nat → Nat} (h : MS s mr) {n : Nat × Nat} {mi : Nat → Nat → Int32} {ml : Nat → Nat → Int64} {i : Nat} {v : Int32} (hi : i < 220) : hSI ((s, n, mi, ml, mr) : Hp) 138 (zi i) v = some (s, n, up2 mi 138 i v, ml, mr) := rsI (ms138 h) hi (by decide) (by decide)
theorem am139 {s : Nat → Nat × Nat} {mr : Nat → Nat → Nat} (h : MS s mr) {n : Nat × Nat} {mi : Nat → Nat → Int32} {ml : Nat → Nat → Int64} {i : Nat} (hi : i < 220) : hAJ ((s, n, mi, ml, mr) : Hp) 139 (zi i) = some (ml 139 i) := raJ (ms139 h) hi (by decide)
theorem wm139 {s : Nat → Nat × Nat} {mr : Nat → Nat → Nat} (h : MS s mr) {n : Nat × Nat} {mi : Nat → Nat → Int32} {ml : Nat → Nat → Int64} {i : Nat} {v : Int64} (hi : i < 220) : hSJ ((s, n, mi, ml, mr) : Hp) 139 (zi i) v = some (s, n, mi, up2 ml 139 i v, mr) := rsJ (ms139 h) hi (by decide) (by decide)
theorem am140 {s : Nat → Nat × Nat} {mr : Nat → Nat → Nat} (h : MS s mr) {n : Nat × Nat} {mi : Nat → Nat → Int32} {ml : Nat → Nat → Int64} {i : Nat} (hi : i < 220) : hAJ ((s, n, mi, ml, mr) : Hp) 140 (zi i) = some (ml 140 i) := raJ (ms140 h) hi (by decide)
theorem wm140 {s : Nat → Nat × Nat} {mr : Nat → Nat → Nat} (h : MS s mr) {n : Nat × Nat} {mi : Nat → Nat → Int32} {ml : Nat → Nat → Int64} {i : Nat} {v : Int64} (hi : i < 220) : hSJ ((s, n, mi, ml, mr) : Hp) 140 (zi i) v = some (s, n, mi, up2 ml 140 i v, mr) := rsJ (ms140 h) hi (by decide) (by decide)
theorem am141 {s : Nat → Nat × Nat} {mr : Nat → Nat → Nat} (h : MS s mr) {n : Nat × Nat} {mi : Nat → Nat → Int32} {ml : Nat → Nat → Int64} {i : Nat} (hi : i < 1540) : hAI ((s, n, mi, ml, mr) : Hp) 141 (zi i) = some (mi 141 i) := raI (ms141 h) hi (by decide)
theorem wm141 {s : Nat → Nat × Nat} {mr : Nat → Nat → Nat} (h : MS s mr) {n : Nat × Nat} {mi : Nat → Nat → Int32} {ml : Nat → Nat → Int64} {i : Nat} {v : Int32} (hi : i < 1540) : hSI ((s, n, mi, ml, mr) : Hp) 141 (zi i) v = some (s, n, up2 mi 141 i v, ml, mr) := rsI (ms141 h) hi (by decide) (by decide)
theorem km {s : Nat → Nat × Nat} {mr : Nat → Nat → Nat} (h : MS s mr) : (s 114).1 = 12 := by rw [ms114 h]
def CS (s : Nat → Nat × Nat) (mr : Nat → Nat → Nat) : Prop := s 2 = (30, 6) ∧ s 3 = (30, 30) ∧ s 4 = (11, 7) ∧ s 5 = (24, 8) ∧ s 6 = (20, 6) ∧ s 7 = (20, 6) ∧ s 8 = (9, 2) ∧ s 9 = (20, 16) ∧ s 10 = (6, 7) ∧ s 11 = (5, 2) ∧ s 12 = (25, 5) ∧ s 18 = (20, 252) ∧ s 20 = (26, 18) ∧ s 39 = (21, 252) ∧ s 40 = (21, 252) ∧ s 41 = (8, 7) ∧ (∀ v, v < 5 → s (13 + v) = (20, 252)) ∧ (∀ v, v < 18 → s (21 + v) = (21, 252)) ∧ (∀ r, r < 8 → s (42 + 9 * r) = (7, 12)) ∧ (∀ r, r < 8 → s (43 + 9 * r) = (23, 24)) ∧ (∀ r, r < 8 → s (44 + 9 * r) = (20, 24)) ∧ (∀ r, r < 8 → s (45 + 9 * r) = (26, 2)) ∧ (∀ r, r < 8 → s (46 + 9 * r) = (21, 36)) ∧ (∀ r, r < 8 → s (47 + 9 * r) = (21, 36)) ∧ (∀ r, r < 8 → s (48 + 9 * r) = (20, 2)) ∧ (∀ r, r < 8 → s (49 + 9 * r) = (21, 5)) ∧ (∀ r, r < 8 → s (50 + 9 * r) = (21, 5)) ∧ mr 4 43 = 5 ∧ mr 4 45 = 6 ∧ mr 4 46 = 7 ∧ mr 4 47 = 8 ∧ mr 4 48 = 10 ∧ mr 4 49 = 41 ∧ mr 8 40 = 9 ∧ mr 10 14 = 11 ∧ mr 10 15 = 20 ∧ mr 10 17 = 39 ∧ mr 10 18 = 40 ∧ mr 11 12 = 12 ∧ mr 11 13 = 18 ∧ (∀ r, r < 8 → mr 5 r = 42 + 9 * r) ∧ (∀ v, v < 5 → mr 12 v = 13 + v) ∧ (∀ v, v < 18 → mr 20 v = 21 + v) ∧ (∀ r, r < 8 → mr (42 + 9 * r) 22 = 43 + 9 * r) ∧ (∀ r, r < 8 → mr (42 + 9 * r) 24 = 44 + 9 * r) ∧ (∀ r, r < 8 → mr (42 + 9 * r) 27 = 45 + 9 * r) ∧ (∀ r, r < 8 → mr (42 + 9 * r) 28 = 48 + 9 * r) ∧ (∀ r, r < 8 → mr (42 + 9 * r) 29 = 49 + 9 * r) ∧ (∀ r, r < 8 → mr (42 + 9 * r) 30 = 50 + 9 * r) ∧ (∀ r, r < 8 → mr (45 + 9 * r) 0 = 46 + 9 * r) ∧ (∀ r, r < 8 → mr (45 + 9 * r) 1 = 47 + 9 * r)
theorem cs2 {s : Nat → Nat × Nat} {mr : Nat → Nat → Nat} (h : CS s mr) : s 2 = (30, 6) := h.1
theorem cs3 {s : Nat → Nat × Nat} {mr : Nat → Nat → Nat} (h : CS s mr) : s 3 = (30, 30) := h.2.1
theorem cs4 {s : Nat → Nat × Nat} {mr : Nat → Nat → Nat} (h : CS s mr) : s 4 = (11, 7) := h.2.2.1
theorem cs5 {s : Nat → Nat × Nat} {mr : Nat → Nat → Nat} (h : CS s mr) : s 5 = (24, 8) := h.2.2.2.1
theorem cs6 {s : Nat → Nat × Nat} {mr : Nat → Nat → Nat} (h : CS s mr) : s 6 = (20, 6) := h.2.2.2.2.1
theorem cs7 {s : Nat → Nat × Nat} {mr : Nat → Nat → Nat} (h : CS s mr) : s 7 = (20, 6) := h.2.2.2.2.2.1
theorem cs8 {s : Nat → Nat × Nat} {mr : Nat → Nat → Nat} (h : CS s mr) : s 8 = (9, 2) := h.2.2.2.2.2.2.1
theorem cs9 {s : Nat → Nat × Nat} {mr : Nat → Nat → Nat} (h : CS s mr) : s 9 = (20, 16) := h.2.2.2.2.2.2.2.1
theorem cs10 {s : Nat → Nat × Nat} {mr : Nat → Nat → Nat} (h : CS s mr) : s 10 = (6, 7) := h.2.2.2.2.2.2.2.2.1
theorem cs11 {s : Nat → Nat × Nat} {mr : Nat → Nat → Nat} (h : CS s mr) : s 11 = (5, 2) := h.2.2.2.2.2.2.2.2.2.1
theorem cs12 {s : Nat → Nat × Nat} {mr : Nat → Nat → Nat} (h : CS s mr) : s 12 = (25, 5) := h.2.2.2.2.2.2.2.2.2.2.1
theorem cs18 {s : Nat → Nat × Nat} {mr : Nat → Nat → Nat} (h : CS s mr) : s 18 = (20, 252) := h.2.2.2.2.2.2.2.2.2.2.2.1
theorem cs20 {s : Nat → Nat × Nat} {mr : Nat → Nat → Nat} (h : CS s mr) : s 20 = (26, 18) := h.2.2.2.2.2.2.2.2.2.2.2.2.1
theorem cs39 {s : Nat → Nat × Nat} {mr : Nat → Nat → Nat} (h : CS s mr) : s 39 = (21, 252) := h.2.2.2.2.2.2.2.2.2.2.2.2.2.1
theorem cs40 {s : Nat → Nat × Nat} {mr : Nat → Nat → Nat} (h : CS s mr) : s 40 = (21, 252) := h.2.2.2.2.2.2.2.2.2.2.2.2.2.2.1
theorem cs41 {s : Nat → Nat × Nat} {mr : Nat → Nat → Nat} (h : CS s mr) : s 41 = (8, 7) := h.2.2.2.2.2.2.2.2.2.2.2.2.2.2.2.1
theorem csT {s : Nat → Nat × Nat} {mr : Nat → Nat → Nat} (h : CS s mr) : (∀ v, v < 5 → s (13 + v) = (20, 252)) := h.2.2.2.2.2.2.2.2.2.2.2.2.2.2.2.2.1
theorem csW {s : Nat → Nat × Nat} {mr : Nat → Nat → Nat} (h : CS s mr) : (∀ v, v < 18 → s (21 + v) = (21, 252)) := h.2.2.2.2.2.2.2.2.2.2.2.2.2.2.2.2.2.1
theorem cs42 {s : Nat → Nat × Nat} {mr : Nat → Nat → Nat} (h : CS s mr) : (∀ r, r < 8 → s (42 + 9 * r) = (7, 12)) := h.2.2.2.2.2.2.2.2.2.2.2.2.2.2.2.2.2.2.1
theorem cs43 {s : Nat → Nat × Nat} {mr : Nat → Nat → Nat} (h : CS s mr) : (∀ r, r < 8 → s (43 + 9 * r) = (23, 24)) := h.2.2.2.2.2.2.2.2.2.2.2.2.2.2.2.2.2.2.2.1
theorem cs44 {s : Nat → Nat × Nat} {mr : Nat → Nat → Nat} (h : CS s mr) : (∀ r, r < 8 → s (44 + 9 * r) = (20, 24)) := h.2.2.2.2.2.2.2.2.2.2.2.2.2.2.2.2.2.2.2.2.1
theorem cs45 {s : Nat → Nat × Nat} {mr : Nat → Nat → Nat} (h : CS s mr) : (∀ r, r < 8 → s (45 + 9 * r) = (26, 2)) := h.2.2.2.2.2.2.2.2.2.2.2.2.2.2.2.2.2.2.2.2.2.1
theorem cs46 {s : Nat → Nat × Nat} {mr : Nat → Nat → Nat} (h : CS s mr) : (∀ r, r < 8 → s (46 + 9 * r) = (21, 36)) := h.2.2.2.2.2.2.2.2.2.2.2.2.2.2.2.2.2.2.2.2.2.2.1
theorem cs47 {s : Nat → Nat × Nat} {mr : Nat → Nat → Nat} (h : CS s mr) : (∀ r, r < 8 → s (47 + 9 * r) = (21, 36)) := h.2.2.2.2.2.2.2.2.2.2.2.2.2.2.2.2.2.2.2.2.2.2.2.1
theorem cs48 {s : Nat → Nat × Nat} {mr : Nat → Nat → Nat} (h : CS s mr) : (∀ r, r < 8 → s (48 + 9 * r) = (20, 2)) := h.2.2.2.2.2.2.2.2.2.2.2.2.2.2.2.2.2.2.2.2.2.2.2.2.1
theorem cs49 {s : Nat → Nat × Nat} {mr : Nat → Nat → Nat} (h : CS s mr) : (∀ r, r < 8 → s (49 + 9 * r) = (21, 5)) := h.2.2.2.2.2.2.2.2.2.2.2.2.2.2.2.2.2.2.2.2.2.2.2.2.2.1
theorem cs50 {s : Nat → Nat × Nat} {mr : Nat → Nat → Nat} (h : CS s mr) : (∀ r, r < 8 → s (50 + 9 * r) = (21, 5)) := h.2.2.2.2.2.2.2.2.2.2.2.2.2.2.2.2.2.2.2.2.2.2.2.2.2.2.1
theorem cf43 {s : Nat → Nat × Nat} {mr : Nat → Nat → Nat} (h : CS s mr) : mr 4 43 = 5 := h.2.2.2.2.2.2.2.2.2.2.2.2.2.2.2.2.2.2.2.2.2.2.2.2.2.2.2.1
theorem cf45 {s : Nat → Nat × Nat} {mr : Nat → Nat → Nat} (h : CS s mr) : mr 4 45 = 6 := h.2.2.2.2.2.2.2.2.2.2.2.2.2.2.2.2.2.2.2.2.2.2.2.2.2.2.2.2.1
theorem cf46 {s : Nat → Nat × Nat} {mr : Nat → Nat → Nat} (h : CS s mr) : mr 4 46 = 7 := h.2.2.2.2.2.2.2.2.2.2.2.2.2.2.2.2.2.2.2.2.2.2.2.2.2.2.2.2.2.1
theorem cf47 {s : Nat → Nat × Nat} {mr : Nat → Nat → Nat} (h : CS s mr) : mr 4 47 = 8 := h.2.2.2.2.2.2.2.2.2.2.2.2.2.2.2.2.2.2.2.2.2.2.2.2.2.2.2.2.2.2.1
theorem cf48 {s : Nat → Nat × Nat} {mr : Nat → Nat → Nat} (h : CS s mr) : mr 4 48 = 10 := h.2.2.2.2.2.2.2.2.2.2.2.2.2.2.2.2.2.2.2.2.2.2.2.2.2.2.2.2.2.2.2.1
theorem cf49 {s : Nat → Nat × Nat} {mr : Nat → Nat → Nat} (h : CS s mr) : mr 4 49 = 41 := h.2.2.2.2.2.2.2.2.2.2.2.2.2.2.2.2.2.2.2.2.2.2.2.2.2.2.2.2.2.2.2.2.1
theorem cf40 {s : Nat → Nat × Nat} {mr : Nat → Nat → Nat} (h : CS s mr) : mr 8 40 = 9 := h.2.2.2.2.2.2.2.2.2.2.2.2.2.2.2.2.2.2.2.2.2.2.2.2.2.2.2.2.2.2.2.2.2.1
theorem cf14 {s : Nat → Nat × Nat} {mr : Nat → Nat → Nat} (h : CS s mr) : mr 10 14 = 11 := h.2.2.2.2.2.2.2.2.2.2.2.2.2.2.2.2.2.2.2.2.2.2.2.2.2.2.2.2.2.2.2.2.2.2.1
theorem cf15 {s : Nat → Nat × Nat} {mr : Nat → Nat → Nat} (h : CS s mr) : mr 10 15 = 20 := h.2.2.2.2.2.2.2.2.2.2.2.2.2.2.2.2.2.2.2.2.2.2.2.2.2.2.2.2.2.2.2.2.2.2.2.1
theorem cf17 {s : Nat → Nat × Nat} {mr : Nat → Nat → Nat} (h : CS s mr) : mr 10 17 = 39 := h.2.2.2.2.2.2.2.2.2.2.2.2.2.2.2.2.2.2.2.2.2.2.2.2.2.2.2.2.2.2.2.2.2.2.2.2.1
theorem cf18 {s : Nat → Nat × Nat} {mr : Nat → Nat → Nat} (h : CS s mr) : mr 10 18 = 40 := h.2.2.2.2.2.2.2.2.2.2.2.2.2.2.2.2.2.2.2.2.2.2.2.2.2.2.2.2.2.2.2.2.2.2.2.2.2.1
theorem cf12 {s : Nat → Nat × Nat} {mr : Nat → Nat → Nat} (h : CS s mr) : mr 11 12 = 12 := h.2.2.2.2.2.2.2.2.2.2.2.2.2.2.2.2.2.2.2.2.2.2.2.2.2.2.2.2.2.2.2.2.2.2.2.2.2.2.1
theorem cf13 {s : Nat → Nat × Nat} {mr : Nat → Nat → Nat} (h : CS s mr) : mr 11 13 = 18 := h.2.2.2.2.2.2.2.2.2.2.2.2.2.2.2.2.2.2.2.2.2.2.2.2.2.2.2.2.2.2.2.2.2.2.2.2.2.2.2.1
theorem cf5 {s : Nat → Nat × Nat} {mr : Nat → Nat → Nat} (h : CS s mr) : (∀ r, r < 8 → mr 5 r = 42 + 9 * r) := h.2.2.2.2.2.2.2.2.2.2.2.2.2.2.2.2.2.2.2.2.2.2.2.2.2.2.2.2.2.2.2.2.2.2.2.2.2.2.2.2.1
theorem cfT {s : Nat → Nat × Nat} {mr : Nat → Nat → Nat} (h : CS s mr) : (∀ v, v < 5 → mr 12 v = 13 + v) := h.2.2.2.2.2.2.2.2.2.2.2.2.2.2.2.2.2.2.2.2.2.2.2.2.2.2.2.2.2.2.2.2.2.2.2.2.2.2.2.2.2.1
theorem cfW {s : Nat → Nat × Nat} {mr : Nat → Nat → Nat} (h : CS s mr) : (∀ v, v < 18 → mr 20 v = 21 + v) := h.2.2.2.2.2.2.2.2.2.2.2.2.2.2.2.2.2.2.2.2.2.2.2.2.2.2.2.2.2.2.2.2.2.2.2.2.2.2.2.2.2.2.1
theorem cf22 {s : Nat → Nat × Nat} {mr : Nat → Nat → Nat} (h : CS s mr) : (∀ r, r < 8 → mr (42 + 9 * r) 22 = 43 + 9 * r) := h.2.2.2.2.2.2.2.2.2.2.2.2.2.2.2.2.2.2.2.2.2.2.2.2.2.2.2.2.2.2.2.2.2.2.2.2.2.2.2.2.2.2.2.1
theorem cf24 {s : Nat → Nat × Nat} {mr : Nat → Nat → Nat} (h : CS s mr) : (∀ r, r < 8 → mr (42 + 9 * r) 24 = 44 + 9 * r) := h.2.2.2.2.2.2.2.2.2.2.2.2.2.2.2.2.2.2.2.2.2.2.2.2.2.2.2.2.2.2.2.2.2.2.2.2.2.2.2.2.2.2.2.2.1
theorem cf27 {s : Nat → Nat × Nat} {mr : Nat → Nat → Nat} (h : CS s mr) : (∀ r, r < 8 → mr (42 + 9 * r) 27 = 45 + 9 * r) := h.2.2.2.2.2.2.2.2.2.2.2.2.2.2.2.2.2.2.2.2.2.2.2.2.2.2.2.2.2.2.2.2.2.2.2.2.2.2.2.2.2.2.2.2.2.1
theorem cf28 {s : Nat → Nat × Nat} {mr : Nat → Nat → Nat} (h : CS s mr) : (∀ r, r < 8 → mr (42 + 9 * r) 28 = 48 + 9 * r) := h.2.2.2.2.2.2.2.2.2.2.2.2.2.2.2.2.2.2.2.2.2.2.2.2.2.2.2.2.2.2.2.2.2.2.2.2.2.2.2.2.2.2.2.2.2.2.1
theorem cf29 {s : Nat → Nat × Nat} {mr : Nat → Nat → Nat} (h : CS s mr) : (∀ r, r < 8 → mr (42 + 9 * r) 29 = 49 + 9 * r) := h.2.2.2.2.2.2.2.2.2.2.2.2.2.2.2.2.2.2.2.2.2.2.2.2.2.2.2.2.2.2.2.2.2.2.2.2.2.2.2.2.2.2.2.2.2.2.2.1
theorem cf30 {s : Nat → Nat × Nat} {mr : Nat → Nat → Nat} (h : CS s mr) : (∀ r, r < 8 → mr (42 + 9 * r) 30 = 50 + 9 * r) := h.2.2.2.2.2.2.2.2.2.2.2.2.2.2.2.2.2.2.2.2.2.2.2.2.2.2.2.2.2.2.2.2.2.2.2.2.2.2.2.2.2.2.2.2.2.2.2.2.1
theorem cfL {s : Nat → Nat × Nat} {mr : Nat → Nat → Nat} (h : CS s mr) : (∀ r, r < 8 → mr (45 + 9 * r) 0 = 46 + 9 * r) := h.2.2.2.2.2.2.2.2.2.2.2.2.2.2.2.2.2.2.2.2.2.2.2.2.2.2.2.2.2.2.2.2.2.2.2.2.2.2.2.2.2.2.2.2.2.2.2.2.2.1
theorem cfU {s : Nat → Nat × Nat} {mr : Nat → Nat → Nat} (h : CS s mr) : (∀ r, r < 8 → mr (45 + 9 * r) 1 = 47 + 9 * r) := h.2.2.2.2.2.2.2.2.2.2.2.2.2.2.2.2.2.2.2.2.2.2.2.2.2.2.2.2.2.2.2.2.2.2.2.2.2.2.2.2.2.2.2.2.2.2.2.2.2.2
theorem gc43 {s : Nat → Nat × Nat} {mr : Nat → Nat → Nat} (h : CS s mr) {n : Nat × Nat} {mi : Nat → Nat → Int32} {ml : Nat → Nat → Int64} : hgR ((s, n, mi, ml, mr) : Hp) 4 43 = some (5) := by rw [rgR (cs4 h) hF11_43, cf43 h]
theorem gc44 {s : Nat → Nat × Nat} {mr : Nat → Nat → Nat} (h : CS s mr) {n : Nat × Nat} {mi : Nat → Nat → Int32} {ml : Nat → Nat → Int64} : hgI ((s, n, mi, ml, mr) : Hp) 4 44 = some (mi 4 44) := rgI (cs4 h) hF11_44
theorem pc44 {s : Nat → Nat × Nat} {mr : Nat → Nat → Nat} (h : CS s mr) {n : Nat × Nat} {mi : Nat → Nat → Int32} {ml : Nat → Nat → Int64} {v : Int32} : hpI ((s, n, mi, ml, mr) : Hp) 4 44 v = some (s, n, up2 mi 4 44 v, ml, mr) := rpI (cs4 h) hF11_44 (by omega)
theorem gc45 {s : Nat → Nat × Nat} {mr : Nat → Nat → Nat} (h : CS s mr) {n : Nat × Nat} {mi : Nat → Nat → Int32} {ml : Nat → Nat → Int64} : hgR ((s, n, mi, ml, mr) : Hp) 4 45 = some (6) := by rw [rgR (cs4 h) hF11_45, cf45 h]
theorem gc46 {s : Nat → Nat × Nat} {mr : Nat → Nat → Nat} (h : CS s mr) {n : Nat × Nat} {mi : Nat → Nat → Int32} {ml : Nat → Nat → Int64} : hgR ((s, n, mi, ml, mr) : Hp) 4 46 = some (7) := by rw [rgR (cs4 h) hF11_46, cf46 h]
theorem gc47 {s : Nat → Nat × Nat} {mr : Nat → Nat → Nat} (h : CS s mr) {n : Nat × Nat} {mi : Nat → Nat → Int32} {ml : Nat → Nat → Int64} : hgR ((s, n, mi, ml, mr) : Hp) 4 47 = some (8) := by rw [rgR (cs4 h) hF11_47, cf47 h]
theorem gc48 {s : Nat → Nat × Nat} {mr : Nat → Nat → Nat} (h : CS s mr) {n : Nat × Nat} {mi : Nat → Nat → Int32} {ml : Nat → Nat → Int64} : hgR ((s, n, mi, ml, mr) : Hp) 4 48 = some (10) := by rw [rgR (cs4 h) hF11_48, cf48 h]
theorem gc49 {s : Nat → Nat × Nat} {mr : Nat → Nat → Nat} (h : CS s mr) {n : Nat × Nat} {mi : Nat → Nat → Int32} {ml : Nat → Nat → Int64} : hgR ((s, n, mi, ml, mr) : Hp) 4 49 = some (41) := by rw [rgR (cs4 h) hF11_49, cf49 h]
theorem gc40 {s : Nat → Nat × Nat} {mr : Nat → Nat → Nat} (h : CS s mr) {n : Nat × Nat} {mi : Nat → Nat → Int32} {ml : Nat → Nat → Int64} : hgR ((s, n, mi, ml, mr) : Hp) 8 40 = some (9) := by rw [rgR (cs8 h) hF9_40, cf40 h]
theorem gc41 {s : Nat → Nat × Nat} {mr : Nat → Nat → Nat} (h : CS s mr) {n : Nat × Nat} {mi : Nat → Nat → Int32} {ml : Nat → Nat → Int64} : hgI ((s, n, mi, ml, mr) : Hp) 8 41 = some (mi 8 41) := rgI (cs8 h) hF9_41
theorem pc41 {s : Nat → Nat × Nat} {mr : Nat → Nat → Nat} (h : CS s mr) {n : Nat × Nat} {mi : Nat → Nat → Int32} {ml : Nat → Nat → Int64} {v : Int32} : hpI ((s, n, mi, ml, mr) : Hp) 8 41 v = some (s, n, up2 mi 8 41 v, ml, mr) := rpI (cs8 h) hF9_41 (by omega)
theorem gc14 {s : Nat → Nat × Nat} {mr : Nat → Nat → Nat} (h : CS s mr) {n : Nat × Nat} {mi : Nat → Nat → Int32} {ml : Nat → Nat → Int64} : hgR ((s, n, mi, ml, mr) : Hp) 10 14 = some (11) := by rw [rgR (cs10 h) hF6_14, cf14 h]
theorem gc15 {s : Nat → Nat × Nat} {mr : Nat → Nat → Nat} (h : CS s mr) {n : Nat × Nat} {mi : Nat → Nat → Int32} {ml : Nat → Nat → Int64} : hgR ((s, n, mi, ml, mr) : Hp) 10 15 = some (20) := by rw [rgR (cs10 h) hF6_15, cf15 h]
theorem gc16 {s : Nat → Nat × Nat} {mr : Nat → Nat → Nat} (h : CS s mr) {n : Nat × Nat} {mi : Nat → Nat → Int32} {ml : Nat → Nat → Int64} : hgI ((s, n, mi, ml, mr) : Hp) 10 16 = some (mi 10 16) := rgI (cs10 h) hF6_16
theorem pc16 {s : Nat → Nat × Nat} {mr : Nat → Nat → Nat} (h : CS s mr) {n : Nat × Nat} {mi : Nat → Nat → Int32} {ml : Nat → Nat → Int64} {v : Int32} : hpI ((s, n, mi, ml, mr) : Hp) 10 16 v = some (s, n, up2 mi 10 16 v, ml, mr) := rpI (cs10 h) hF6_16 (by omega)
theorem gc17 {s : Nat → Nat × Nat} {mr : Nat → Nat → Nat} (h : CS s mr) {n : Nat × Nat} {mi : Nat → Nat → Int32} {ml : Nat → Nat → Int64} : hgR ((s, n, mi, ml, mr) : Hp) 10 17 = some (39) := by rw [rgR (cs10 h) hF6_17, cf17 h]
theorem gc18 {s : Nat → Nat × Nat} {mr : Nat → Nat → Nat} (h : CS s mr) {n : Nat × Nat} {mi : Nat → Nat → Int32} {ml : Nat → Nat → Int64} : hgR ((s, n, mi, ml, mr) : Hp) 10 18 = some (40) := by rw [rgR (cs10 h) hF6_18, cf18 h]
theorem gc19 {s : Nat → Nat × Nat} {mr : Nat → Nat → Nat} (h : CS s mr) {n : Nat × Nat} {mi : Nat → Nat → Int32} {ml : Nat → Nat → Int64} : hgI ((s, n, mi, ml, mr) : Hp) 10 19 = some (mi 10 19) := rgI (cs10 h) hF6_19
theorem pc19 {s : Nat → Nat × Nat} {mr : Nat → Nat → Nat} (h : CS s mr) {n : Nat × Nat} {mi : Nat → Nat → Int32} {ml : Nat → Nat → Int64} {v : Int32} : hpI ((s, n, mi, ml, mr) : Hp) 10 19 v = some (s, n, up2 mi 10 19 v, ml, mr) := rpI (cs10 h) hF6_19 (by omega)
theorem gc20 {s : Nat → Nat × Nat} {mr : Nat → Nat → Nat} (h : CS s mr) {n : Nat × Nat} {mi : Nat → Nat → Int32} {ml : Nat → Nat → Int64} : hgI ((s, n, mi, ml, mr) : Hp) 10 20 = some (mi 10 20) := rgI (cs10 h) hF6_20
theorem pc20o {s : Nat → Nat × Nat} {mr : Nat → Nat → Nat} (h : CS s mr) {n : Nat × Nat} {mi : Nat → Nat → Int32} {ml : Nat → Nat → Int64} : hpZ ((s, n, mi, ml, mr) : Hp) 10 20 (zi 0) = some (s, n, up2 mi 10 20 (bz false), ml, mr) := rpZ (b := false) (cs10 h) hF6_20 (by omega)
theorem pc20l {s : Nat → Nat × Nat} {mr : Nat → Nat → Nat} (h : CS s mr) {n : Nat × Nat} {mi : Nat → Nat → Int32} {ml : Nat → Nat → Int64} : hpZ ((s, n, mi, ml, mr) : Hp) 10 20 (zi 1) = some (s, n, up2 mi 10 20 (bz true), ml, mr) := rpZ (b := true) (cs10 h) hF6_20 (by omega)
theorem pc20 {s : Nat → Nat × Nat} {mr : Nat → Nat → Nat} (h : CS s mr) {n : Nat × Nat} {mi : Nat → Nat → Int32} {ml : Nat → Nat → Int64} {b : Bool} : hpZ ((s, n, mi, ml, mr) : Hp) 10 20 (bz b) = some (s, n, up2 mi 10 20 (bz b), ml, mr) := rpZ (cs10 h) hF6_20 (by omega)
theorem gc12 {s : Nat → Nat × Nat} {mr : Nat → Nat → Nat} (h : CS s mr) {n : Nat × Nat} {mi : Nat → Nat → Int32} {ml : Nat → Nat → Int64} : hgR ((s, n, mi, ml, mr) : Hp) 11 12 = some (12) := by rw [rgR (cs11 h) hF5_12, cf12 h]
theorem gc13 {s : Nat → Nat × Nat} {mr : Nat → Nat → Nat} (h : CS s mr) {n : Nat × Nat} {mi : Nat → Nat → Int32} {ml : Nat → Nat → Int64} : hgR ((s, n, mi, ml, mr) : Hp) 11 13 = some (18) := by rw [rgR (cs11 h) hF5_13, cf13 h]
theorem gc33 {s : Nat → Nat × Nat} {mr : Nat → Nat → Nat} (h : CS s mr) {n : Nat × Nat} {mi : Nat → Nat → Int32} {ml : Nat → Nat → Int64} : hgI ((s, n, mi, ml, mr) : Hp) 41 33 = some (mi 41 33) := rgI (cs41 h) hF8_33
theorem pc33 {s : Nat → Nat × Nat} {mr : Nat → Nat → Nat} (h : CS s mr) {n : Nat × Nat} {mi : Nat → Nat → Int32} {ml : Nat → Nat → Int64} {v : Int32} : hpI ((s, n, mi, ml, mr) : Hp) 41 33 v = some (s, n, up2 mi 41 33 v, ml, mr) := rpI (cs41 h) hF8_33 (by omega)
theorem gc34 {s : Nat → Nat × Nat} {mr : Nat → Nat → Nat} (h : CS s mr) {n : Nat × Nat} {mi : Nat → Nat → Int32} {ml : Nat → Nat → Int64} : hgI ((s, n, mi, ml, mr) : Hp) 41 34 = some (mi 41 34) := rgI (cs41 h) hF8_34
theorem pc34 {s : Nat → Nat × Nat} {mr : Nat → Nat → Nat} (h : CS s mr) {n : Nat × Nat} {mi : Nat → Nat → Int32} {ml : Nat → Nat → Int64} {v : Int32} : hpI ((s, n, mi, ml, mr) : Hp) 41 34 v = some (s, n, up2 mi 41 34 v, ml, mr) := rpI (cs41 h) hF8_34 (by omega)
theorem gc35 {s : Nat → Nat × Nat} {mr : Nat → Nat → Nat} (h : CS s mr) {n : Nat × Nat} {mi : Nat → Nat → Int32} {ml : Nat → Nat → Int64} : hgI ((s, n, mi, ml, mr) : Hp) 41 35 = some (mi 41 35) := rgI (cs41 h) hF8_35
theorem pc35 {s : Nat → Nat × Nat} {mr : Nat → Nat → Nat} (h : CS s mr) {n : Nat × Nat} {mi : Nat → Nat → Int32} {ml : Nat → Nat → Int64} {v : Int32} : hpI ((s, n, mi, ml, mr) : Hp) 41 35 v = some (s, n, up2 mi 41 35 v, ml, mr) := rpI (cs41 h) hF8_35 (by omega)
theorem gc36 {s : Nat → Nat × Nat} {mr : Nat → Nat → Nat} (h : CS s mr) {n : Nat × Nat} {mi : Nat → Nat → Int32} {ml : Nat → Nat → Int64} : hgI ((s, n, mi, ml, mr) : Hp) 41 36 = some (mi 41 36) := rgI (cs41 h) hF8_36
theorem pc36 {s : Nat → Nat × Nat} {mr : Nat → Nat → Nat} (h : CS s mr) {n : Nat × Nat} {mi : Nat → Nat → Int32} {ml : Nat → Nat → Int64} {v : Int32} : hpI ((s, n, mi, ml, mr) : Hp) 41 36 v = some (s, n, up2 mi 41 36 v, ml, mr) := rpI (cs41 h) hF8_36 (by omega)
theorem gc37 {s : Nat → Nat × Nat} {mr : Nat → Nat → Nat} (h : CS s mr) {n : Nat × Nat} {mi : Nat → Nat → Int32} {ml : Nat → Nat → Int64} : hgI ((s, n, mi, ml, mr) : Hp) 41 37 = some (mi 41 37) := rgI (cs41 h) hF8_37
theorem pc37o {s : Nat → Nat × Nat} {mr : Nat → Nat → Nat} (h : CS s mr) {n : Nat × Nat} {mi : Nat → Nat → Int32} {ml : Nat → Nat → Int64} : hpZ ((s, n, mi, ml, mr) : Hp) 41 37 (zi 0) = some (s, n, up2 mi 41 37 (bz false), ml, mr) := rpZ (b := false) (cs41 h) hF8_37 (by omega)
theorem pc37l {s : Nat → Nat × Nat} {mr : Nat → Nat → Nat} (h : CS s mr) {n : Nat × Nat} {mi : Nat → Nat → Int32} {ml : Nat → Nat → Int64} : hpZ ((s, n, mi, ml, mr) : Hp) 41 37 (zi 1) = some (s, n, up2 mi 41 37 (bz true), ml, mr) := rpZ (b := true) (cs41 h) hF8_37 (by omega)
theorem pc37 {s : Nat → Nat × Nat} {mr : Nat → Nat → Nat} (h : CS s mr) {n : Nat × Nat} {mi : Nat → Nat → Int32} {ml : Nat → Nat → Int64} {b : Bool} : hpZ ((s, n, mi, ml, mr) : Hp) 41 37 (bz b) = some (s, n, up2 mi 41 37 (bz b), ml, mr) := rpZ (cs41 h) hF8_37 (by omega)
theorem gc38 {s : Nat → Nat × Nat} {mr : Nat → Nat → Nat} (h : CS s mr) {n : Nat × Nat} {mi : Nat → Nat → Int32} {ml : Nat → Nat → Int64} : hgR ((s, n, mi, ml, mr) : Hp) 41 38 = some (mr 41 38) := rgR (cs41 h) hF8_38
theorem pc38 {s : Nat → Nat × Nat} {mr : Nat → Nat → Nat} (h : CS s mr) {n : Nat × Nat} {mi : Nat → Nat → Int32} {ml : Nat → Nat → Int64} {v : Nat} : hpR ((s, n, mi, ml, mr) : Hp) 41 38 v = some (s, n, mi, ml, up2 mr 41 38 v) := rpR (cs41 h) hF8_38
theorem gc39 {s : Nat → Nat × Nat} {mr : Nat → Nat → Nat} (h : CS s mr) {n : Nat × Nat} {mi : Nat → Nat → Int32} {ml : Nat → Nat → Int64} : hgI ((s, n, mi, ml, mr) : Hp) 41 39 = some (mi 41 39) := rgI (cs41 h) hF8_39
theorem pc39 {s : Nat → Nat × Nat} {mr : Nat → Nat → Nat} (h : CS s mr) {n : Nat × Nat} {mi : Nat → Nat → Int32} {ml : Nat → Nat → Int64} {v : Int32} : hpI ((s, n, mi, ml, mr) : Hp) 41 39 v = some (s, n, up2 mi 41 39 v, ml, mr) := rpI (cs41 h) hF8_39 (by omega)
theorem gc21 {s : Nat → Nat × Nat} {mr : Nat → Nat → Nat} (h : CS s mr) {n : Nat × Nat} {mi : Nat → Nat → Int32} {ml : Nat → Nat → Int64} {r : Nat} (hr : r < 8) : hgI ((s, n, mi, ml, mr) : Hp) (42 + 9 * r) 21 = some (mi (42 + 9 * r) 21) := rgI (cs42 h _ hr) hF7_21
theorem pc21 {s : Nat → Nat × Nat} {mr : Nat → Nat → Nat} (h : CS s mr) {n : Nat × Nat} {mi : Nat → Nat → Int32} {ml : Nat → Nat → Int64} {r : Nat} (hr : r < 8) {v : Int32} : hpI ((s, n, mi, ml, mr) : Hp) (42 + 9 * r) 21 v = some (s, n, up2 mi (42 + 9 * r) 21 v, ml, mr) := rpI (cs42 h _ hr) hF7_21 (by omega)
theorem gc22 {s : Nat → Nat × Nat} {mr : Nat → Nat → Nat} (h : CS s mr) {n : Nat × Nat} {mi : Nat → Nat → Int32} {ml : Nat → Nat → Int64} {r : Nat} (hr : r < 8) : hgR ((s, n, mi, ml, mr) : Hp) (42 + 9 * r) 22 = some (43 + 9 * r) := by rw [rgR (cs42 h _ hr) hF7_22, cf22 h _ hr]
theorem gc23 {s : Nat → Nat × Nat} {mr : Nat → Nat → Nat} (h : CS s mr) {n : Nat × Nat} {mi : Nat → Nat → Int32} {ml : Nat → Nat → Int64} {r : Nat} (hr : r < 8) : hgI ((s, n, mi, ml, mr) : Hp) (42 + 9 * r) 23 = some (mi (42 + 9 * r) 23) := rgI (cs42 h _ hr) hF7_23
theorem pc23 {s : Nat → Nat × Nat} {mr : Nat → Nat → Nat} (h : CS s mr) {n : Nat × Nat} {mi : Nat → Nat → Int32} {ml : Nat → Nat → Int64} {r : Nat} (hr : r < 8) {v : Int32} : hpI ((s, n, mi, ml, mr) : Hp) (42 + 9 * r) 23 v = some (s, n, up2 mi (42 + 9 * r) 23 v, ml, mr) := rpI (cs42 h _ hr) hF7_23 (by omega)
theorem gc24 {s : Nat → Nat × Nat} {mr : Nat → Nat → Nat} (h : CS s mr) {n : Nat × Nat} {mi : Nat → Nat → Int32} {ml : Nat → Nat → Int64} {r : Nat} (hr : r < 8) : hgR ((s, n, mi, ml, mr) : Hp) (42 + 9 * r) 24 = some (44 + 9 * r) := by rw [rgR (cs42 h _ hr) hF7_24, cf24 h _ hr]
theorem gc25 {s : Nat → Nat × Nat} {mr : Nat → Nat → Nat} (h : CS s mr) {n : Nat × Nat} {mi : Nat → Nat → Int32} {ml : Nat → Nat → Int64} {r : Nat} (hr : r < 8) : hgI ((s, n, mi, ml, mr) : Hp) (42 + 9 * r) 25 = some (mi (42 + 9 * r) 25) := rgI (cs42 h _ hr) hF7_25
theorem pc25 {s : Nat → Nat × Nat} {mr : Nat → Nat → Nat} (h : CS s mr) {n : Nat × Nat} {mi : Nat → Nat → Int32} {ml : Nat → Nat → Int64} {r : Nat} (hr : r < 8) {v : Int32} : hpI ((s, n, mi, ml, mr) : Hp) (42 + 9 * r) 25 v = some (s, n, up2 mi (42 + 9 * r) 25 v, ml, mr) := rpI (cs42 h _ hr) hF7_25 (by omega)
theorem gc26 {s : Nat → Nat × Nat} {mr : Nat → Nat → Nat} (h : CS s mr) {n : Nat × Nat} {mi : Nat → Nat → Int32} {ml : Nat → Nat → Int64} {r : Nat} (hr : r < 8) : hgI ((s, n, mi, ml, mr) : Hp) (42 + 9 * r) 26 = some (mi (42 + 9 * r) 26) := rgI (cs42 h _ hr) hF7_26
theorem pc26 {s : Nat → Nat × Nat} {mr : Nat → Nat → Nat} (h : CS s mr) {n : Nat × Nat} {mi : Nat → Nat → Int32} {ml : Nat → Nat → Int64} {r : Nat} (hr : r < 8) {v : Int32} : hpI ((s, n, mi, ml, mr) : Hp) (42 + 9 * r) 26 v = some (s, n, up2 mi (42 + 9 * r) 26 v, ml, mr) := rpI (cs42 h _ hr) hF7_26 (by omega)
theorem gc27 {s : Nat → Nat × Nat} {mr : Nat → Nat → Nat} (h : CS s mr) {n : Nat × Nat} {mi : Nat → Nat → Int32} {ml : Nat → Nat → Int64} {r : Nat} (hr : r < 8) : hgR ((s, n, mi, ml, mr) : Hp) (42 + 9 * r) 27 = some (45 + 9 * r) := by rw [rgR (cs42 h _ hr) hF7_27, cf27 h _ hr]
theorem gc28 {s : Nat → Nat × Nat} {mr : Nat → Nat → Nat} (h : CS s mr) {n : Nat × Nat} {mi : Nat → Nat → Int32} {ml : Nat → Nat → Int64} {r : Nat} (hr : r < 8) : hgR ((s, n, mi, ml, mr) : Hp) (42 + 9 * r) 28 = some (48 + 9 * r) := by rw [rgR (cs42 h _ hr) hF7_28, cf28 h _ hr]
theorem gc29 {s : Nat → Nat × Nat} {mr : Nat → Nat → Nat} (h : CS s mr) {n : Nat × Nat} {mi : Nat → Nat → Int32} {ml : Nat → Nat → Int64} {r : Nat} (hr : r < 8) : hgR ((s, n, mi, ml, mr) : Hp) (42 + 9 * r) 29 = some (49 + 9 * r) := by rw [rgR (cs42 h _ hr) hF7_29, cf29 h _ hr]
theorem gc30 {s : Nat → Nat × Nat} {mr : Nat → Nat → Nat} (h : CS s mr) {n : Nat × Nat} {mi : Nat → Nat → Int32} {ml : Nat → Nat → Int64} {r : Nat} (hr : r < 8) : hgR ((s, n, mi, ml, mr) : Hp) (42 + 9 * r) 30 = some (50 + 9 * r) := by rw [rgR (cs42 h _ hr) hF7_30, cf30 h _ hr]
theorem gc31 {s : Nat → Nat × Nat} {mr : Nat → Nat → Nat} (h : CS s mr) {n : Nat × Nat} {mi : Nat → Nat → Int32} {ml : Nat → Nat → Int64} {r : Nat} (hr : r < 8) : hgR ((s, n, mi, ml, mr) : Hp) (42 + 9 * r) 31 = some (mr (42 + 9 * r) 31) := rgR (cs42 h _ hr) hF7_31
theorem pc31 {s : Nat → Nat × Nat} {mr : Nat → Nat → Nat} (h : CS s mr) {n : Nat × Nat} {mi : Nat → Nat → Int32} {ml : Nat → Nat → Int64} {r : Nat} (hr : r < 8) {v : Nat} : hpR ((s, n, mi, ml, mr) : Hp) (42 + 9 * r) 31 v = some (s, n, mi, ml, up2 mr (42 + 9 * r) 31 v) := rpR (cs42 h _ hr) hF7_31
theorem gc32 {s : Nat → Nat × Nat} {mr : Nat → Nat → Nat} (h : CS s mr) {n : Nat × Nat} {mi : Nat → Nat → Int32} {ml : Nat → Nat → Int64} {r : Nat} (hr : r < 8) : hgI ((s, n, mi, ml, mr) : Hp) (42 + 9 * r) 32 = some (mi (42 + 9 * r) 32) := rgI (cs42 h _ hr) hF7_32
theorem pc32 {s : Nat → Nat × Nat} {mr : Nat → Nat → Nat} (h : CS s mr) {n : Nat × Nat} {mi : Nat → Nat → Int32} {ml : Nat → Nat → Int64} {r : Nat} (hr : r < 8) {v : Int32} : hpI ((s, n, mi, ml, mr) : Hp) (42 + 9 * r) 32 v = some (s, n, up2 mi (42 + 9 * r) 32 v, ml, mr) := rpI (cs42 h _ hr) hF7_32 (by omega)
theorem ac2 {s : Nat → Nat × Nat} {mr : Nat → Nat → Nat} (h : CS s mr) {n : Nat × Nat} {mi : Nat → Nat → Int32} {ml : Nat → Nat → Int64} {i : Nat} (hi : i < 6) : hAI ((s, n, mi, ml, mr) : Hp) 2 (zi i) = some (mi 2 i) := raC (cs2 h) hi (by decide)
theorem lc2 {s : Nat → Nat × Nat} {mr : Nat → Nat → Nat} (h : CS s mr) {n : Nat × Nat} {mi : Nat → Nat → Int32} {ml : Nat → Nat → Int64} : hLen ((s, n, mi, ml, mr) : Hp) 2 = some (zi 6) := rlen (cs2 h) rfl
theorem ac3 {s : Nat → Nat × Nat} {mr : Nat → Nat → Nat} (h : CS s mr) {n : Nat × Nat} {mi : Nat → Nat → Int32} {ml : Nat → Nat → Int64} {i : Nat} (hi : i < 30) : hAI ((s, n, mi, ml, mr) : Hp) 3 (zi i) = some (mi 3 i) := raC (cs3 h) hi (by decide)
theorem lc3 {s : Nat → Nat × Nat} {mr : Nat → Nat → Nat} (h : CS s mr) {n : Nat × Nat} {mi : Nat → Nat → Int32} {ml : Nat → Nat → Int64} : hLen ((s, n, mi, ml, mr) : Hp) 3 = some (zi 30) := rlen (cs3 h) rfl
theorem ac6 {s : Nat → Nat × Nat} {mr : Nat → Nat → Nat} (h : CS s mr) {n : Nat × Nat} {mi : Nat → Nat → Int32} {ml : Nat → Nat → Int64} {i : Nat} (hi : i < 6) : hAI ((s, n, mi, ml, mr) : Hp) 6 (zi i) = some (mi 6 i) := raI (cs6 h) hi (by decide)
theorem wc6 {s : Nat → Nat × Nat} {mr : Nat → Nat → Nat} (h : CS s mr) {n : Nat × Nat} {mi : Nat → Nat → Int32} {ml : Nat → Nat → Int64} {i : Nat} {y : Int32} (hi : i < 6) : hSI ((s, n, mi, ml, mr) : Hp) 6 (zi i) y = some (s, n, up2 mi 6 i y, ml, mr) := rsI (cs6 h) hi (by decide) (by omega)
theorem lc6 {s : Nat → Nat × Nat} {mr : Nat → Nat → Nat} (h : CS s mr) {n : Nat × Nat} {mi : Nat → Nat → Int32} {ml : Nat → Nat → Int64} : hLen ((s, n, mi, ml, mr) : Hp) 6 = some (zi 6) := rlen (cs6 h) rfl
theorem ac7 {s : Nat → Nat × Nat} {mr : Nat → Nat → Nat} (h : CS s mr) {n : Nat × Nat} {mi : Nat → Nat → Int32} {ml : Nat → Nat → Int64} {i : Nat} (hi : i < 6) : hAI ((s, n, mi, ml, mr) : Hp) 7 (zi i) = some (mi 7 i) := raI (cs7 h) hi (by decide)
theorem wc7 {s : Nat → Nat × Nat} {mr : Nat → Nat → Nat} (h : CS s mr) {n : Nat × Nat} {mi : Nat → Nat → Int32} {ml : Nat → Nat → Int64} {i : Nat} {y : Int32} (hi : i < 6) : hSI ((s, n, mi, ml, mr) : Hp) 7 (zi i) y = some (s, n, up2 mi 7 i y, ml, mr) := rsI (cs7 h) hi (by decide) (by omega)
theorem lc7 {s : Nat → Nat × Nat} {mr : Nat → Nat → Nat} (h : CS s mr) {n : Nat × Nat} {mi : Nat → Nat → Int32} {ml : Nat → Nat → Int64} : hLen ((s, n, mi, ml, mr) : Hp) 7 = some (zi 6) := rlen (cs7 h) rfl
theorem ac9 {s : Nat → Nat × Nat} {mr : Nat → Nat → Nat} (h : CS s mr) {n : Nat × Nat} {mi : Nat → Nat → Int32} {ml : Nat → Nat → Int64} {i : Nat} (hi : i < 16) : hAI ((s, n, mi, ml, mr) : Hp) 9 (zi i) = some (mi 9 i) := raI (cs9 h) hi (by decide)
theorem wc9 {s : Nat → Nat × Nat} {mr : Nat → Nat → Nat} (h : CS s mr) {n : Nat × Nat} {mi : Nat → Nat → Int32} {ml : Nat → Nat → Int64} {i : Nat} {y : Int32} (hi : i < 16) : hSI ((s, n, mi, ml, mr) : Hp) 9 (zi i) y = some (s, n, up2 mi 9 i y, ml, mr) := rsI (cs9 h) hi (by decide) (by omega)
theorem lc9 {s : Nat → Nat × Nat} {mr : Nat → Nat → Nat} (h : CS s mr) {n : Nat × Nat} {mi : Nat → Nat → Int32} {ml : Nat → Nat → Int64} : hLen ((s, n, mi, ml, mr) : Hp) 9 = some (zi 16) := rlen (cs9 h) rfl
theorem ac18 {s : Nat → Nat × Nat} {mr : Nat → Nat → Nat} (h : CS s mr) {n : Nat × Nat} {mi : Nat → Nat → Int32} {ml : Nat → Nat → Int64} {i : Nat} (hi : i < 252) : hAI ((s, n, mi, ml, mr) : Hp) 18 (zi i) = some (mi 18 i) := raI (cs18 h) hi (by decide)
theorem wc18 {s : Nat → Nat × Nat} {mr : Nat → Nat → Nat} (h : CS s mr) {n : Nat × Nat} {mi : Nat → Nat → Int32} {ml : Nat → Nat → Int64} {i : Nat} {y : Int32} (hi : i < 252) : hSI ((s, n, mi, ml, mr) : Hp) 18 (zi i) y = some (s, n, up2 mi 18 i y, ml, mr) := rsI (cs18 h) hi (by decide) (by omega)
theorem lc18 {s : Nat → Nat × Nat} {mr : Nat → Nat → Nat} (h : CS s mr) {n : Nat × Nat} {mi : Nat → Nat → Int32} {ml : Nat → Nat → Int64} : hLen ((s, n, mi, ml, mr) : Hp) 18 = some (zi 252) := rlen (cs18 h) rfl
theorem ac39 {s : Nat → Nat × Nat} {mr : Nat → Nat → Nat} (h : CS s mr) {n : Nat × Nat} {mi : Nat → Nat → Int32} {ml : Nat → Nat → Int64} {i : Nat} (hi : i < 252) : hAJ ((s, n, mi, ml, mr) : Hp) 39 (zi i) = some (ml 39 i) := raJ (cs39 h) hi (by decide)
theorem wc39 {s : Nat → Nat × Nat} {mr : Nat → Nat → Nat} (h : CS s mr) {n : Nat × Nat} {mi : Nat → Nat → Int32} {ml : Nat → Nat → Int64} {i : Nat} {y : Int64} (hi : i < 252) : hSJ ((s, n, mi, ml, mr) : Hp) 39 (zi i) y = some (s, n, mi, up2 ml 39 i y, mr) := rsJ (cs39 h) hi (by decide) (by omega)
theorem lc39 {s : Nat → Nat × Nat} {mr : Nat → Nat → Nat} (h : CS s mr) {n : Nat × Nat} {mi : Nat → Nat → Int32} {ml : Nat → Nat → Int64} : hLen ((s, n, mi, ml, mr) : Hp) 39 = some (zi 252) := rlen (cs39 h) rfl
theorem ac40 {s : Nat → Nat × Nat} {mr : Nat → Nat → Nat} (h : CS s mr) {n : Nat × Nat} {mi : Nat → Nat → Int32} {ml : Nat → Nat → Int64} {i : Nat} (hi : i < 252) : hAJ ((s, n, mi, ml, mr) : Hp) 40 (zi i) = some (ml 40 i) := raJ (cs40 h) hi (by decide)
theorem wc40 {s : Nat → Nat × Nat} {mr : Nat → Nat → Nat} (h : CS s mr) {n : Nat × Nat} {mi : Nat → Nat → Int32} {ml : Nat → Nat → Int64} {i : Nat} {y : Int64} (hi : i < 252) : hSJ ((s, n, mi, ml, mr) : Hp) 40 (zi i) y = some (s, n, mi, up2 ml 40 i y, mr) := rsJ (cs40 h) hi (by decide) (by omega)
theorem lc40 {s : Nat → Nat × Nat} {mr : Nat → Nat → Nat} (h : CS s mr) {n : Nat × Nat} {mi : Nat → Nat → Int32} {ml : Nat → Nat → Int64} : hLen ((s, n, mi, ml, mr) : Hp) 40 = some (zi 252) := rlen (cs40 h) rfl
theorem acT {s : Nat → Nat × Nat} {mr : Nat → Nat → Nat} (h : CS s mr) {n : Nat × Nat} {mi : Nat → Nat → Int32} {ml : Nat → Nat → Int64} {v : Nat} (hv : v < 5) {i : Nat} (hi : i < 252) : hAI ((s, n, mi, ml, mr) : Hp) (13 + v) (zi i) = some (mi (13 + v) i) := raI (csT h _ hv) hi (by decide)
theorem wcT {s : Nat → Nat × Nat} {mr : Nat → Nat → Nat} (h : CS s mr) {n : Nat × Nat} {mi : Nat → Nat → Int32} {ml : Nat → Nat → Int64} {v : Nat} (hv : v < 5) {i : Nat} {y : Int32} (hi : i < 252) : hSI ((s, n, mi, ml, mr) : Hp) (13 + v) (zi i) y = some (s, n, up2 mi (13 + v) i y, ml, mr) := rsI (csT h _ hv) hi (by decide) (by omega)
theorem lcT {s : Nat → Nat × Nat} {mr : Nat → Nat → Nat} (h : CS s mr) {n : Nat × Nat} {mi : Nat → Nat → Int32} {ml : Nat → Nat → Int64} {v : Nat} (hv : v < 5) : hLen ((s, n, mi, ml, mr) : Hp) (13 + v) = some (zi 252) := rlen (csT h _ hv) rfl
theorem acW {s : Nat → Nat × Nat} {mr : Nat → Nat → Nat} (h : CS s mr) {n : Nat × Nat} {mi : Nat → Nat → Int32} {ml : Nat → Nat → Int64} {v : Nat} (hv : v < 18) {i : Nat} (hi : i < 252) : hAJ ((s, n, mi, ml, mr) : Hp) (21 + v) (zi i) = some (ml (21 + v) i) := raJ (csW h _ hv) hi (by decide)
theorem wcW {s : Nat → Nat × Nat} {mr : Nat → Nat → Nat} (h : CS s mr) {n : Nat × Nat} {mi : Nat → Nat → Int32} {ml : Nat → Nat → Int64} {v : Nat} (hv : v < 18) {i : Nat} {y : Int64} (hi : i < 252) : hSJ ((s, n, mi, ml, mr) : Hp) (21 + v) (zi i) y = some (s, n, mi, up2 ml (21 + v) i y, mr) := rsJ (csW h _ hv) hi (by decide) (by omega)
theorem lcW {s : Nat → Nat × Nat} {mr : Nat → Nat → Nat} (h : CS s mr) {n : Nat × Nat} {mi : Nat → Nat → Int32} {ml : Nat → Nat → Int64} {v : Nat} (hv : v < 18) : hLen ((s, n, mi, ml, mr) : Hp) (21 + v) = some (zi 252) := rlen (csW h _ hv) rfl
theorem ac44 {s : Nat → Nat × Nat} {mr : Nat → Nat → Nat} (h : CS s mr) {n : Nat × Nat} {mi : Nat → Nat → Int32} {ml : Nat → Nat → Int64} {r : Nat} (hr : r < 8) {i : Nat} (hi : i < 24) : hAI ((s, n, mi, ml, mr) : Hp) (44 + 9 * r) (zi i) = some (mi (44 + 9 * r) i) := raI (cs44 h _ hr) hi (by decide)
theorem wc44 {s : Nat → Nat × Nat} {mr : Nat → Nat → Nat} (h : CS s mr) {n : Nat × Nat} {mi : Nat → Nat → Int32} {ml : Nat → Nat → Int64} {r : Nat} (hr : r < 8) {i : Nat} {y : Int32} (hi : i < 24) : hSI ((s, n, mi, ml, mr) : Hp) (44 + 9 * r) (zi i) y = some (s, n, up2 mi (44 + 9 * r) i y, ml, mr) := rsI (cs44 h _ hr) hi (by decide) (by omega)
theorem lc44 {s : Nat → Nat × Nat} {mr : Nat → Nat → Nat} (h : CS s mr) {n : Nat × Nat} {mi : Nat → Nat → Int32} {ml : Nat → Nat → Int64} {r : Nat} (hr : r < 8) : hLen ((s, n, mi, ml, mr) : Hp) (44 + 9 * r) = some (zi 24) := rlen (cs44 h _ hr) rfl
theorem ac46 {s : Nat → Nat × Nat} {mr : Nat → Nat → Nat} (h : CS s mr) {n : Nat × Nat} {mi : Nat → Nat → Int32} {ml : Nat → Nat → Int64} {r : Nat} (hr : r < 8) {i : Nat} (hi : i < 36) : hAJ ((s, n, mi, ml, mr) : Hp) (46 + 9 * r) (zi i) = some (ml (46 + 9 * r) i) := raJ (cs46 h _ hr) hi (by decide)
theorem wc46 {s : Nat → Nat × Nat} {mr : Nat → Nat → Nat} (h : CS s mr) {n : Nat × Nat} {mi : Nat → Nat → Int32} {ml : Nat → Nat → Int64} {r : Nat} (hr : r < 8) {i : Nat} {y : Int64} (hi : i < 36) : hSJ ((s, n, mi, ml, mr) : Hp) (46 + 9 * r) (zi i) y = some (s, n, mi, up2 ml (46 + 9 * r) i y, mr) := rsJ (cs46 h _ hr) hi (by decide) (by omega)
theorem lc46 {s : Nat → Nat × Nat} {mr : Nat → Nat → Nat} (h : CS s mr) {n : Nat × Nat} {mi : Nat → Nat → Int32} {ml : Nat → Nat → Int64} {r : Nat} (hr : r < 8) : hLen ((s, n, mi, ml, mr) : Hp) (46 + 9 * r) = some (zi 36) := rlen (cs46 h _ hr) rfl
theorem ac47 {s : Nat → Nat × Nat} {mr : Nat → Nat → Nat} (h : CS s mr) {n : Nat × Nat} {mi : Nat → Nat → Int32} {ml : Nat → Nat → Int64} {r : Nat} (hr : r < 8) {i : Nat} (hi : i < 36) : hAJ ((s, n, mi, ml, mr) : Hp) (47 + 9 * r) (zi i) = some (ml (47 + 9 * r) i) := raJ (cs47 h _ hr) hi (by decide)
theorem wc47 {s : Nat → Nat × Nat} {mr : Nat → Nat → Nat} (h : CS s mr) {n : Nat × Nat} {mi : Nat → Nat → Int32} {ml : Nat → Nat → Int64} {r : Nat} (hr : r < 8) {i : Nat} {y : Int64} (hi : i < 36) : hSJ ((s, n, mi, ml, mr) : Hp) (47 + 9 * r) (zi i) y = some (s, n, mi, up2 ml (47 + 9 * r) i y, mr) := rsJ (cs47 h _ hr) hi (by decide) (by omega)
theorem lc47 {s : Nat → Nat × Nat} {mr : Nat → Nat → Nat} (h : CS s mr) {n : Nat × Nat} {mi : Nat → Nat → Int32} {ml : Nat → Nat → Int64} {r : Nat} (hr : r < 8) : hLen ((s, n, mi, ml, mr) : Hp) (47 + 9 * r) = some (zi 36) := rlen (cs47 h _ hr) rfl
theorem ac48 {s : Nat → Nat × Nat} {mr : Nat → Nat → Nat} (h : CS s mr) {n : Nat × Nat} {mi : Nat → Nat → Int32} {ml : Nat → Nat → Int64} {r : Nat} (hr : r < 8) {i : Nat} (hi : i < 2) : hAI ((s, n, mi, ml, mr) : Hp) (48 + 9 * r) (zi i) = some (mi (48 + 9 * r) i) := raI (cs48 h _ hr) hi (by decide)
theorem wc48 {s : Nat → Nat × Nat} {mr : Nat → Nat → Nat} (h : CS s mr) {n : Nat × Nat} {mi : Nat → Nat → Int32} {ml : Nat → Nat → Int64} {r : Nat} (hr : r < 8) {i : Nat} {y : Int32} (hi : i < 2) : hSI ((s, n, mi, ml, mr) : Hp) (48 + 9 * r) (zi i) y = some (s, n, up2 mi (48 + 9 * r) i y, ml, mr) := rsI (cs48 h _ hr) hi (by decide) (by omega)
theorem lc48 {s : Nat → Nat × Nat} {mr : Nat → Nat → Nat} (h : CS s mr) {n : Nat × Nat} {mi : Nat → Nat → Int32} {ml : Nat → Nat → Int64} {r : Nat} (hr : r < 8) : hLen ((s, n, mi, ml, mr) : Hp) (48 + 9 * r) = some (zi 2) := rlen (cs48 h _ hr) rfl
theorem ac49 {s : Nat → Nat × Nat} {mr : Nat → Nat → Nat} (h : CS s mr) {n : Nat × Nat} {mi : Nat → Nat → Int32} {ml : Nat → Nat → Int64} {r : Nat} (hr : r < 8) {i : Nat} (hi : i < 5) : hAJ ((s, n, mi, ml, mr) : Hp) (49 + 9 * r) (zi i) = some (ml (49 + 9 * r) i) := raJ (cs49 h _ hr) hi (by decide)
theorem wc49 {s : Nat → Nat × Nat} {mr : Nat → Nat → Nat} (h : CS s mr) {n : Nat × Nat} {mi : Nat → Nat → Int32} {ml : Nat → Nat → Int64} {r : Nat} (hr : r < 8) {i : Nat} {y : Int64} (hi : i < 5) : hSJ ((s, n, mi, ml, mr) : Hp) (49 + 9 * r) (zi i) y = some (s, n, mi, up2 ml (49 + 9 * r) i y, mr) := rsJ (cs49 h _ hr) hi (by decide) (by omega)
theorem lc49 {s : Nat → Nat × Nat} {mr : Nat → Nat → Nat} (h : CS s mr) {n : Nat × Nat} {mi : Nat → Nat → Int32} {ml : Nat → Nat → Int64} {r : Nat} (hr : r < 8) : hLen ((s, n, mi, ml, mr) : Hp) (49 + 9 * r) = some (zi 5) := rlen (cs49 h _ hr) rfl
theorem ac50 {s : Nat → Nat × Nat} {mr : Nat → Nat → Nat} (h : CS s mr) {n : Nat × Nat} {mi : Nat → Nat → Int32} {ml : Nat → Nat → Int64} {r : Nat} (hr : r < 8) {i : Nat} (hi : i < 5) : hAJ ((s, n, mi, ml, mr) : Hp) (50 + 9 * r) (zi i) = some (ml (50 + 9 * r) i) := raJ (cs50 h _ hr) hi (by decide)
theorem wc50 {s : Nat → Nat × Nat} {mr : Nat → Nat → Nat} (h : CS s mr) {n : Nat × Nat} {mi : Nat → Nat → Int32} {ml : Nat → Nat → Int64} {r : Nat} (hr : r < 8) {i : Nat} {y : Int64} (hi : i < 5) : hSJ ((s, n, mi, ml, mr) : Hp) (50 + 9 * r) (zi i) y = some (s, n, mi, up2 ml (50 + 9 * r) i y, mr) := rsJ (cs50 h _ hr) hi (by decide) (by omega)
theorem lc50 {s : Nat → Nat × Nat} {mr : Nat → Nat → Nat} (h : CS s mr) {n : Nat × Nat} {mi : Nat → Nat → Int32} {ml : Nat → Nat → Int64} {r : Nat} (hr : r < 8) : hLen ((s, n, mi, ml, mr) : Hp) (50 + 9 * r) = some (zi 5) := rlen (cs50 h _ hr) rfl
theorem ac5 {s : Nat → Nat × Nat} {mr : Nat → Nat → Nat} (h : CS s mr) {n : Nat × Nat} {mi : Nat → Nat → Int32} {ml : Nat → Nat → Int64} {r : Nat} (hr : r < 8) : hAR ((s, n, mi, ml, mr) : Hp) 5 (zi r) = some (42 + 9 * r) := by rw [raR (cs5 h) rfl hr (by decide), cf5 h _ hr]
theorem ac12 {s : Nat → Nat × Nat} {mr : Nat → Nat → Nat} (h : CS s mr) {n : Nat × Nat} {mi : Nat → Nat → Int32} {ml : Nat → Nat → Int64} {v : Nat} (hv : v < 5) : hAR ((s, n, mi, ml, mr) : Hp) 12 (zi v) = some (13 + v) := by rw [raR (cs12 h) rfl hv (by decide), cfT h _ hv]
theorem ac20 {s : Nat → Nat × Nat} {mr : Nat → Nat → Nat} (h : CS s mr) {n : Nat × Nat} {mi : Nat → Nat → Int32} {ml : Nat → Nat → Int64} {v : Nat} (hv : v < 18) : hAR ((s, n, mi, ml, mr) : Hp) 20 (zi v) = some (21 + v) := by rw [raR (cs20 h) rfl hv (by decide), cfW h _ hv]
theorem ac43 {s : Nat → Nat × Nat} {mr : Nat → Nat → Nat} (h : CS s mr) {n : Nat × Nat} {mi : Nat → Nat → Int32} {ml : Nat → Nat → Int64} {r i : Nat} (hr : r < 8) (hi : i < 24) : hAR ((s, n, mi, ml, mr) : Hp) (43 + 9 * r) (zi i) = some (mr (43 + 9 * r) i) := raR (cs43 h _ hr) rfl hi (by decide)
theorem ac45 {s : Nat → Nat × Nat} {mr : Nat → Nat → Nat} (h : CS s mr) {n : Nat × Nat} {mi : Nat → Nat → Int32} {ml : Nat → Nat → Int64} {r i : Nat} (hr : r < 8) (hi : i < 2) : hAR ((s, n, mi, ml, mr) : Hp) (45 + 9 * r) (zi i) = some (46 + 9 * r + i) := by
  rw [raR (cs45 h _ hr) rfl hi (by decide)]
  have h2 : i = 0 ∨ i = 1 := by omega
  rcases h2 with rfl | rfl
  · exact congrArg some ((cfL h _ hr).trans rfl)
  · rw [cfU h _ hr]; congr 1; omega
theorem kc4 {s : Nat → Nat × Nat} {mr : Nat → Nat → Nat} (h : CS s mr) : (s 4).1 = 11 := by rw [cs4 h]
theorem kc8 {s : Nat → Nat × Nat} {mr : Nat → Nat → Nat} (h : CS s mr) : (s 8).1 = 9 := by rw [cs8 h]
theorem kc10 {s : Nat → Nat × Nat} {mr : Nat → Nat → Nat} (h : CS s mr) : (s 10).1 = 6 := by rw [cs10 h]
theorem kc11 {s : Nat → Nat × Nat} {mr : Nat → Nat → Nat} (h : CS s mr) : (s 11).1 = 5 := by rw [cs11 h]
theorem kc41 {s : Nat → Nat × Nat} {mr : Nat → Nat → Nat} (h : CS s mr) : (s 41).1 = 8 := by rw [cs41 h]
theorem kc42 {s : Nat → Nat × Nat} {mr : Nat → Nat → Nat} (h : CS s mr) {r : Nat} (hr : r < 8) : (s (42 + 9 * r)).1 = 7 := by rw [cs42 h _ hr]
theorem CS_ext {s s' : Nat → Nat × Nat} {mr mr' : Nat → Nat → Nat} (h : CS s mr) (hs : ∀ a, a < 142 → s' a = s a) (hr : ∀ a f, a < 41 ∨ (∃ r, r < 8 ∧ a = 42 + 9 * r ∧ f ≠ 31) ∨ (∃ r, r < 8 ∧ a = 45 + 9 * r) → mr' a f = mr a f) : CS s' mr' :=
  ⟨(hs 2 (by decide)).trans (cs2 h), (hs 3 (by decide)).trans (cs3 h), (hs 4 (by decide)).trans (cs4 h), (hs 5 (by decide)).trans (cs5 h), (hs 6 (by decide)).trans (cs6 h), (hs 7 (by decide)).trans (cs7 h), (hs 8 (by decide)).trans (cs8 h), (hs 9 (by decide)).trans (cs9 h), (hs 10 (by decide)).trans (cs10 h), (hs 11 (by decide)).trans (cs11 h), (hs 12 (by decide)).trans (cs12 h), (hs 18 (by decide)).trans (cs18 h), (hs 20 (by decide)).trans (cs20 h), (hs 39 (by decide)).trans (cs39 h), (hs 40 (by decide)).trans (cs40 h), (hs 41 (by decide)).trans (cs41 h), fun v hv => (hs _ (by omega)).trans (csT h v hv), fun v hv => (hs _ (by omega)).trans (csW h v hv), fun v hv => (hs _ (by omega)).trans (cs42 h v hv), fun v hv => (hs _ (by omega)).trans (cs43 h v hv), fun v hv => (hs _ (by omega)).trans (cs44 h v hv), fun v hv => (hs _ (by omega)).trans (cs45 h v hv), fun v hv => (hs _ (by omega)).trans (cs46 h v hv), fun v hv => (hs _ (by omega)).trans (cs47 h v hv), fun v hv => (hs _ (by omega)).trans (cs48 h v hv), fun v hv => (hs _ (by omega)).trans (cs49 h v hv), fun v hv => (hs _ (by omega)).trans (cs50 h v hv), (hr 4 43 (Or.inl (by decide))).trans (cf43 h), (hr 4 45 (Or.inl (by decide))).trans (cf45 h), (hr 4 46 (Or.inl (by decide))).trans (cf46 h), (hr 4 47 (Or.inl (by decide))).trans (cf47 h), (hr 4 48 (Or.inl (by decide))).trans (cf48 h), (hr 4 49 (Or.inl (by decide))).trans (cf49 h), (hr 8 40 (Or.inl (by decide))).trans (cf40 h), (hr 10 14 (Or.inl (by decide))).trans (cf14 h), (hr 10 15 (Or.inl (by decide))).trans (cf15 h), (hr 10 17 (Or.inl (by decide))).trans (cf17 h), (hr 10 18 (Or.inl (by decide))).trans (cf18 h), (hr 11 12 (Or.inl (by decide))).trans (cf12 h), (hr 11 13 (Or.inl (by decide))).trans (cf13 h), fun v hv => (hr _ _ (Or.inl (by decide))).trans (cf5 h v hv), fun v hv => (hr _ _ (Or.inl (by decide))).trans (cfT h v hv), fun v hv => (hr _ _ (Or.inl (by decide))).trans (cfW h v hv), fun v hv => (hr _ _ (Or.inr (Or.inl ⟨v, hv, rfl, by decide⟩))).trans (cf22 h v hv), fun v hv => (hr _ _ (Or.inr (Or.inl ⟨v, hv, rfl, by decide⟩))).trans (cf24 h v hv), fun v hv => (hr _ _ (Or.inr (Or.inl ⟨v, hv, rfl, by decide⟩))).trans (cf27 h v hv), fun v hv => (hr _ _ (Or.inr (Or.inl ⟨v, hv, rfl, by decide⟩))).trans (cf28 h v hv), fun v hv => (hr _ _ (Or.inr (Or.inl ⟨v, hv, rfl, by decide⟩))).trans (cf29 h v hv), fun v hv => (hr _ _ (Or.inr (Or.inl ⟨v, hv, rfl, by decide⟩))).trans (cf30 h v hv), fun v hv => (hr _ _ (Or.inr (Or.inr ⟨v, hv, rfl⟩))).trans (cfL h v hv), fun v hv => (hr _ _ (Or.inr (Or.inr ⟨v, hv, rfl⟩))).trans (cfU h v hv)⟩
theorem MS_ext {s s' : Nat → Nat × Nat} {mr mr' : Nat → Nat → Nat} (h : MS s mr) (hs : ∀ a, a < 142 → s' a = s a) (hr : ∀ f, mr' 114 f = mr 114 f) : MS s' mr' :=
  ⟨(hs 114 (by decide)).trans (ms114 h), (hs 115 (by decide)).trans (ms115 h), (hs 116 (by decide)).trans (ms116 h), (hs 117 (by decide)).trans (ms117 h), (hs 118 (by decide)).trans (ms118 h), (hs 119 (by decide)).trans (ms119 h), (hs 120 (by decide)).trans (ms120 h), (hs 121 (by decide)).trans (ms121 h), (hs 122 (by decide)).trans (ms122 h), (hs 123 (by decide)).trans (ms123 h), (hs 124 (by decide)).trans (ms124 h), (hs 125 (by decide)).trans (ms125 h), (hs 126 (by decide)).trans (ms126 h), (hs 127 (by decide)).trans (ms127 h), (hs 128 (by decide)).trans (ms128 h), (hs 129 (by decide)).trans (ms129 h), (hs 130 (by decide)).trans (ms130 h), (hs 131 (by decide)).trans (ms131 h), (hs 132 (by decide)).trans (ms132 h), (hs 133 (by decide)).trans (ms133 h), (hs 134 (by decide)).trans (ms134 h), (hs 135 (by decide)).trans (ms135 h), (hs 136 (by decide)).trans (ms136 h), (hs 137 (by decide)).trans (ms137 h), (hs 138 (by decide)).trans (ms138 h), (hs 139 (by decide)).trans (ms139 h), (hs 140 (by decide)).trans (ms140 h), (hs 141 (by decide)).trans (ms141 h), (hr 51).trans (mf51 h), (hr 52).trans (mf52 h), (hr 53).trans (mf53 h), (hr 54).trans (mf54 h), (hr 55).trans (mf55 h), (hr 56).trans (mf56 h), (hr 58).trans (mf58 h), (hr 61).trans (mf61 h), (hr 62).trans (mf62 h), (hr 64).trans (mf64 h), (hr 65).trans (mf65 h), (hr 67).trans (mf67 h), (hr 68).trans (mf68 h), (hr 69).trans (mf69 h), (hr 70).trans (mf70 h), (hr 71).trans (mf71 h), (hr 72).trans (mf72 h), (hr 73).trans (mf73 h), (hr 74).trans (mf74 h), (hr 75).trans (mf75 h), (hr 82).trans (mf82 h), (hr 84).trans (mf84 h), (hr 85).trans (mf85 h), (hr 86).trans (mf86 h), (hr 87).trans (mf87 h), (hr 88).trans (mf88 h), (hr 89).trans (mf89 h)⟩
