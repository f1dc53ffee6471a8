/-! the first state: the model -/
theorem rsIl {s : Nat → Nat × Nat} {mr : Nat → Nat → Nat} {n : Nat × Nat} {mi : Nat → Nat → Int32} {ml : Nat → Nat → Int64} {r l k : Nat} {i v : Int32} (hik : i = zi k) (h : s r = (20, l)) (hi : k < l) (hl : l ≤ 100000) (h4 : 4 ≤ r) : hSI ((s, n, mi, ml, mr) : Hp) r i v = some (s, n, up2 mi r k v, ml, mr) := by
  rw [hik]
  exact rsI h hi hl h4
def w132 (mi : Nat → Nat → Int32) : Nat → Nat → Int32 := up2 (up2 (up2 (up2 (up2 (up2 (up2 (up2 (up2 (up2 (up2 (up2 (up2 (up2 (up2 (up2 (up2 (up2 (up2 (up2 (up2 (up2 (up2 (up2 (up2 (up2 (up2 (up2 (up2 (up2 mi 132 0 (0)) 132 1 (60)) 132 2 (0)) 132 3 (0)) 132 4 (0)) 132 5 (0)) 132 6 (0)) 132 7 (30)) 132 8 (30)) 132 9 (0)) 132 10 (0)) 132 11 (0)) 132 12 (0)) 132 13 (10)) 132 14 (30)) 132 15 (20)) 132 16 (0)) 132 17 (0)) 132 18 (0)) 132 19 (0)) 132 20 (15)) 132 21 (30)) 132 22 (15)) 132 23 (0)) 132 24 (0)) 132 25 (-2)) 132 26 (0)) 132 27 (20)) 132 28 (30)) 132 29 (12)
set_option maxRecDepth 10000 in
theorem w132_at (mi : Nat → Nat → Int32) : ∀ i, i < 30 → w132 mi 132 i = smT.getD i 0 := by
  intro i hi
  have h : i = 0 ∨ i = 1 ∨ i = 2 ∨ i = 3 ∨ i = 4 ∨ i = 5 ∨ i = 6 ∨ i = 7 ∨ i = 8 ∨ i = 9 ∨ i = 10 ∨ i = 11 ∨ i = 12 ∨ i = 13 ∨ i = 14 ∨ i = 15 ∨ i = 16 ∨ i = 17 ∨ i = 18 ∨ i = 19 ∨ i = 20 ∨ i = 21 ∨ i = 22 ∨ i = 23 ∨ i = 24 ∨ i = 25 ∨ i = 26 ∨ i = 27 ∨ i = 28 ∨ i = 29 := by omega
  unfold w132
  rcases h with rfl | rfl | rfl | rfl | rfl | rfl | rfl | rfl | rfl | rfl | rfl | rfl | rfl | rfl | rfl | rfl | rfl | rfl | rfl | rfl | rfl | rfl | rfl | rfl | rfl | rfl | rfl | rfl | rfl | rfl <;> (simp only [up2_ap]; rfl)
theorem w132_n (mi : Nat → Nat → Int32) {a : Nat} (ha : a ≠ 132) : w132 mi a = mi a := by
  unfold w132
  rw [up2_n _ _ ha, up2_n _ _ ha, up2_n _ _ ha, up2_n _ _ ha, up2_n _ _ ha, up2_n _ _ ha, up2_n _ _ ha, up2_n _ _ ha, up2_n _ _ ha, up2_n _ _ ha, up2_n _ _ ha, up2_n _ _ ha, up2_n _ _ ha, up2_n _ _ ha, up2_n _ _ ha, up2_n _ _ ha, up2_n _ _ ha, up2_n _ _ ha, up2_n _ _ ha, up2_n _ _ ha, up2_n _ _ ha, up2_n _ _ ha, up2_n _ _ ha, up2_n _ _ ha, up2_n _ _ ha, up2_n _ _ ha, up2_n _ _ ha, up2_n _ _ ha, up2_n _ _ ha, up2_n _ _ ha]
def r127 (mr : Nat → Nat → Nat) : Nat → Nat → Nat := up2 (up2 (up2 (up2 (up2 (up2 (up2 (up2 (up2 (up2 (up2 (up2 (up2 (up2 (up2 (up2 (up2 (up2 (up2 (up2 (up2 (up2 (up2 (up2 (up2 (up2 (up2 mr 114 51 115) 114 52 116) 114 53 117) 114 54 118) 114 55 119) 114 56 120) 114 58 121) 114 61 122) 114 62 123) 114 64 124) 114 65 125) 114 67 126) 114 68 127) 114 69 128) 114 70 129) 114 71 130) 114 72 131) 114 73 132) 114 74 133) 114 75 134) 114 82 135) 114 84 136) 114 85 137) 114 86 138) 114 87 139) 114 88 140) 114 89 141
theorem r127_n (mr : Nat → Nat → Nat) {a : Nat} (ha : a ≠ 114) : r127 mr a = mr a := by
  unfold r127
  rw [up2_n _ _ ha, up2_n _ _ ha, up2_n _ _ ha, up2_n _ _ ha, up2_n _ _ ha, up2_n _ _ ha, up2_n _ _ ha, up2_n _ _ ha, up2_n _ _ ha, up2_n _ _ ha, up2_n _ _ ha, up2_n _ _ ha, up2_n _ _ ha, up2_n _ _ ha, up2_n _ _ ha, up2_n _ _ ha, up2_n _ _ ha, up2_n _ _ ha, up2_n _ _ ha, up2_n _ _ ha, up2_n _ _ ha, up2_n _ _ ha, up2_n _ _ ha, up2_n _ _ ha, up2_n _ _ ha, up2_n _ _ ha, up2_n _ _ ha]
theorem r127_at (mr : Nat → Nat → Nat) : r127 mr 114 51 = 115 ∧ r127 mr 114 52 = 116 ∧ r127 mr 114 53 = 117 ∧ r127 mr 114 54 = 118 ∧ r127 mr 114 55 = 119 ∧ r127 mr 114 56 = 120 ∧ r127 mr 114 58 = 121 ∧ r127 mr 114 61 = 122 ∧ r127 mr 114 62 = 123 ∧ r127 mr 114 64 = 124 ∧ r127 mr 114 65 = 125 ∧ r127 mr 114 67 = 126 ∧ r127 mr 114 68 = 127 ∧ r127 mr 114 69 = 128 ∧ r127 mr 114 70 = 129 ∧ r127 mr 114 71 = 130 ∧ r127 mr 114 72 = 131 ∧ r127 mr 114 73 = 132 ∧ r127 mr 114 74 = 133 ∧ r127 mr 114 75 = 134 ∧ r127 mr 114 82 = 135 ∧ r127 mr 114 84 = 136 ∧ r127 mr 114 85 = 137 ∧ r127 mr 114 86 = 138 ∧ r127 mr 114 87 = 139 ∧ r127 mr 114 88 = 140 ∧ r127 mr 114 89 = 141 := by
  unfold r127
  refine ⟨?_, ?_, ?_, ?_, ?_, ?_, ?_, ?_, ?_, ?_, ?_, ?_, ?_, ?_, ?_, ?_, ?_, ?_, ?_, ?_, ?_, ?_, ?_, ?_, ?_, ?_, ?_⟩ <;> (simp only [up2_ap]; rfl)
theorem z127a {G : AG} (hG : FIX G) {L : Nat} {m : Nat} {mi : Nat → Nat → Int32} {mr : Nat → Nat → Nat} (hi : Zi 114 mi) (hr : Zn 114 mr) : ∃ k, k ≤ m + 40000 ∧ G 127 0 [some (.inr (.inr 114)), none, none, none, none, none] [] (sN L 115, (115, m), mi, Z0, mr) = G 127 400 [some (.inr (.inr 114)), some (.inl (zi 0)), some (.inl (zi 0)), none, none, none] [] (sN L 142, (142, k), w132 (up2 mi 114 57 1), Z0, r127 mr) := by
  refine ⟨m + 8 + 192 + 192 + 192 + 2304 + 12 + 16 + 1260 + 7776 + 24 + 24 + 17640 + 8 + 8 + 16 + 252 + 252 + 30 + 24 + 24 + 3 + 220 + 220 + 220 + 220 + 220 + 1540, by omega, ?_⟩
  obtain ⟨r1, hr1⟩ : ∃ x, x = up2 mr 114 51 115 := ⟨_, rfl⟩
  obtain ⟨r2, hr2⟩ : ∃ x, x = up2 r1 114 52 116 := ⟨_, rfl⟩
  obtain ⟨r3, hr3⟩ : ∃ x, x = up2 r2 114 53 117 := ⟨_, rfl⟩
  obtain ⟨r4, hr4⟩ : ∃ x, x = up2 r3 114 54 118 := ⟨_, rfl⟩
  obtain ⟨r5, hr5⟩ : ∃ x, x = up2 r4 114 55 119 := ⟨_, rfl⟩
  obtain ⟨r6, hr6⟩ : ∃ x, x = up2 r5 114 56 120 := ⟨_, rfl⟩
  obtain ⟨r7, hr7⟩ : ∃ x, x = up2 r6 114 58 121 := ⟨_, rfl⟩
  obtain ⟨r8, hr8⟩ : ∃ x, x = up2 r7 114 61 122 := ⟨_, rfl⟩
  obtain ⟨r9, hr9⟩ : ∃ x, x = up2 r8 114 62 123 := ⟨_, rfl⟩
  obtain ⟨r10, hr10⟩ : ∃ x, x = up2 r9 114 64 124 := ⟨_, rfl⟩
  obtain ⟨r11, hr11⟩ : ∃ x, x = up2 r10 114 65 125 := ⟨_, rfl⟩
  obtain ⟨r12, hr12⟩ : ∃ x, x = up2 r11 114 67 126 := ⟨_, rfl⟩
  obtain ⟨r13, hr13⟩ : ∃ x, x = up2 r12 114 68 127 := ⟨_, rfl⟩
  obtain ⟨r14, hr14⟩ : ∃ x, x = up2 r13 114 69 128 := ⟨_, rfl⟩
  obtain ⟨r15, hr15⟩ : ∃ x, x = up2 r14 114 70 129 := ⟨_, rfl⟩
  obtain ⟨r16, hr16⟩ : ∃ x, x = up2 r15 114 71 130 := ⟨_, rfl⟩
  obtain ⟨r17, hr17⟩ : ∃ x, x = up2 r16 114 72 131 := ⟨_, rfl⟩
  obtain ⟨r18, hr18⟩ : ∃ x, x = up2 r17 114 73 132 := ⟨_, rfl⟩
  obtain ⟨r19, hr19⟩ : ∃ x, x = up2 r18 114 74 133 := ⟨_, rfl⟩
  obtain ⟨r20, hr20⟩ : ∃ x, x = up2 r19 114 75 134 := ⟨_, rfl⟩
  obtain ⟨r21, hr21⟩ : ∃ x, x = up2 r20 114 82 135 := ⟨_, rfl⟩
  obtain ⟨r22, hr22⟩ : ∃ x, x = up2 r21 114 84 136 := ⟨_, rfl⟩
  obtain ⟨r23, hr23⟩ : ∃ x, x = up2 r22 114 85 137 := ⟨_, rfl⟩
  obtain ⟨r24, hr24⟩ : ∃ x, x = up2 r23 114 86 138 := ⟨_, rfl⟩
  obtain ⟨r25, hr25⟩ : ∃ x, x = up2 r24 114 87 139 := ⟨_, rfl⟩
  obtain ⟨r26, hr26⟩ : ∃ x, x = up2 r25 114 88 140 := ⟨_, rfl⟩
  obtain ⟨r27, hr27⟩ : ∃ x, x = up2 r26 114 89 141 := ⟨_, rfl⟩
  have zr0 : Zn 115 mr := Zn_le hr (by decide)
  have zr1 : Zn 115 r1 := by rw [hr1]; exact Zn_up zr0 (by decide)
  have zr2 : Zn 115 r2 := by rw [hr2]; exact Zn_up zr1 (by decide)
  have zr3 : Zn 115 r3 := by rw [hr3]; exact Zn_up zr2 (by decide)
  have zr4 : Zn 115 r4 := by rw [hr4]; exact Zn_up zr3 (by decide)
  have zr5 : Zn 115 r5 := by rw [hr5]; exact Zn_up zr4 (by decide)
  have zr6 : Zn 115 r6 := by rw [hr6]; exact Zn_up zr5 (by decide)
  have zr7 : Zn 115 r7 := by rw [hr7]; exact Zn_up zr6 (by decide)
  have zr8 : Zn 115 r8 := by rw [hr8]; exact Zn_up zr7 (by decide)
  have zr9 : Zn 115 r9 := by rw [hr9]; exact Zn_up zr8 (by decide)
  have zr10 : Zn 115 r10 := by rw [hr10]; exact Zn_up zr9 (by decide)
  have zr11 : Zn 115 r11 := by rw [hr11]; exact Zn_up zr10 (by decide)
  have zr12 : Zn 115 r12 := by rw [hr12]; exact Zn_up zr11 (by decide)
  have zr13 : Zn 115 r13 := by rw [hr13]; exact Zn_up zr12 (by decide)
  have zr14 : Zn 115 r14 := by rw [hr14]; exact Zn_up zr13 (by decide)
  have zr15 : Zn 115 r15 := by rw [hr15]; exact Zn_up zr14 (by decide)
  have zr16 : Zn 115 r16 := by rw [hr16]; exact Zn_up zr15 (by decide)
  have zr17 : Zn 115 r17 := by rw [hr17]; exact Zn_up zr16 (by decide)
  have zr18 : Zn 115 r18 := by rw [hr18]; exact Zn_up zr17 (by decide)
  have zr19 : Zn 115 r19 := by rw [hr19]; exact Zn_up zr18 (by decide)
  have zr20 : Zn 115 r20 := by rw [hr20]; exact Zn_up zr19 (by decide)
  have zr21 : Zn 115 r21 := by rw [hr21]; exact Zn_up zr20 (by decide)
  have zr22 : Zn 115 r22 := by rw [hr22]; exact Zn_up zr21 (by decide)
  have zr23 : Zn 115 r23 := by rw [hr23]; exact Zn_up zr22 (by decide)
  have zr24 : Zn 115 r24 := by rw [hr24]; exact Zn_up zr23 (by decide)
  have zr25 : Zn 115 r25 := by rw [hr25]; exact Zn_up zr24 (by decide)
  have zr26 : Zn 115 r26 := by rw [hr26]; exact Zn_up zr25 (by decide)
  have zr27 : Zn 115 r27 := by rw [hr27]; exact Zn_up zr26 (by decide)
  have er : r127 mr = r27 := by
    unfold r127
    rw [← hr1, ← hr2, ← hr3, ← hr4, ← hr5, ← hr6, ← hr7, ← hr8, ← hr9, ← hr10, ← hr11, ← hr12, ← hr13, ← hr14, ← hr15, ← hr16, ← hr17, ← hr18, ← hr19, ← hr20, ← hr21, ← hr22, ← hr23, ← hr24, ← hr25, ← hr26, ← hr27]
  obtain ⟨i1, hi1⟩ : ∃ x, x = up2 mi 114 57 (1 : Int32) := ⟨_, rfl⟩
  have zi0 : Zi 115 mi := Zi_le hi (by decide)
  have zi1 : Zi 115 i1 := by rw [hi1]; exact Zi_up zi0 (by decide)
  obtain ⟨i2, hi2⟩ : ∃ x, x = w132 i1 := ⟨_, rfl⟩
  have zi2 : Zi 133 i2 := fun b hb => by rw [hi2, w132_n _ (by omega)]; exact zi1 b (by omega)
  have sx : ∀ n, 114 < n → sN L n 114 = (12, 40) := fun n hn => sN_at hn (by decide) rfl
  have s132 : sN L (132 + 1) 132 = (20, 30) := sN_at (by decide) (by decide) rfl
  rw [er, ← hi1, ← hi2]
  refine (b127_0 hG ..).trans ?_
  rw [show (Nat.beq 114 0 || false) = false from rfl, cnd_f, bind_s]
  rw [naE (n := 115) (l := 8) (by decide) (Zi_le zi0 (by decide)) (Zn_le zr0 (by decide)) rfl rfl rfl, bind_s]
  rw [rpR (sx _ (by decide)) rfl, bind_s]
  rw [show up2 mr 114 51 ((sN L 115, (115, m), mi, Z0, mr) : Hp).2.1.1 = r1 from hr1.symm]
  rw [show 115 + 1 = 116 from rfl]
  rw [naE (n := 116) (l := 192) (by decide) (Zi_le zi0 (by decide)) (Zn_le zr1 (by decide)) rfl rfl rfl, bind_s]
  rw [rpR (sx _ (by decide)) rfl, bind_s]
  rw [show up2 r1 114 52 ((sN L 116, (116, m + 8), mi, Z0, r1) : Hp).2.1.1 = r2 from hr2.symm]
  rw [show 116 + 1 = 117 from rfl]
  rw [naE (n := 117) (l := 192) (by decide) (Zi_le zi0 (by decide)) (Zn_le zr2 (by decide)) rfl rfl rfl, bind_s]
  rw [rpR (sx _ (by decide)) rfl, bind_s]
  rw [show up2 r2 114 53 ((sN L 117, (117, m + 8 + 192), mi, Z0, r2) : Hp).2.1.1 = r3 from hr3.symm]
  rw [show 117 + 1 = 118 from rfl]
  rw [naE (n := 118) (l := 192) (by decide) (Zi_le zi0 (by decide)) (Zn_le zr3 (by decide)) rfl rfl rfl, bind_s]
  rw [rpR (sx _ (by decide)) rfl, bind_s]
  rw [show up2 r3 114 54 ((sN L 118, (118, m + 8 + 192 + 192), mi, Z0, r3) : Hp).2.1.1 = r4 from hr4.symm]
  rw [show 118 + 1 = 119 from rfl]
  rw [naE (n := 119) (l := 2304) (by decide) (Zi_le zi0 (by decide)) (Zn_le zr4 (by decide)) rfl rfl rfl, bind_s]
  rw [rpR (sx _ (by decide)) rfl, bind_s]
  rw [show up2 r4 114 55 ((sN L 119, (119, m + 8 + 192 + 192 + 192), mi, Z0, r4) : Hp).2.1.1 = r5 from hr5.symm]
  rw [show 119 + 1 = 120 from rfl]
  rw [naE (n := 120) (l := 12) (by decide) (Zi_le zi0 (by decide)) (Zn_le zr5 (by decide)) rfl rfl rfl, bind_s]
  rw [rpR (sx _ (by decide)) rfl, bind_s]
  rw [show up2 r5 114 56 ((sN L 120, (120, m + 8 + 192 + 192 + 192 + 2304), mi, Z0, r5) : Hp).2.1.1 = r6 from hr6.symm]
  rw [show 120 + 1 = 121 from rfl]
  rw [rpI (sx _ (by decide)) rfl (by decide), bind_s, ← hi1]
  rw [naE (n := 121) (l := 16) (by decide) (Zi_le zi1 (by decide)) (Zn_le zr6 (by decide)) rfl rfl rfl, bind_s]
  rw [rpR (sx _ (by decide)) rfl, bind_s]
  rw [show up2 r6 114 58 ((sN L 121, (121, m + 8 + 192 + 192 + 192 + 2304 + 12), i1, Z0, r6) : Hp).2.1.1 = r7 from hr7.symm]
  rw [show 121 + 1 = 122 from rfl]
  rw [naE (n := 122) (l := 1260) (by decide) (Zi_le zi1 (by decide)) (Zn_le zr7 (by decide)) rfl rfl rfl, bind_s]
  rw [rpR (sx _ (by decide)) rfl, bind_s]
  rw [show up2 r7 114 61 ((sN L 122, (122, m + 8 + 192 + 192 + 192 + 2304 + 12 + 16), i1, Z0, r7) : Hp).2.1.1 = r8 from hr8.symm]
  rw [show 122 + 1 = 123 from rfl]
  rw [naE (n := 123) (l := 7776) (by decide) (Zi_le zi1 (by decide)) (Zn_le zr8 (by decide)) rfl rfl rfl, bind_s]
  rw [rpR (sx _ (by decide)) rfl, bind_s]
  rw [show up2 r8 114 62 ((sN L 123, (123, m + 8 + 192 + 192 + 192 + 2304 + 12 + 16 + 1260), i1, Z0, r8) : Hp).2.1.1 = r9 from hr9.symm]
  rw [show 123 + 1 = 124 from rfl]
  rw [naE (n := 124) (l := 24) (by decide) (Zi_le zi1 (by decide)) (Zn_le zr9 (by decide)) rfl rfl rfl, bind_s]
  rw [rpR (sx _ (by decide)) rfl, bind_s]
  rw [show up2 r9 114 64 ((sN L 124, (124, m + 8 + 192 + 192 + 192 + 2304 + 12 + 16 + 1260 + 7776), i1, Z0, r9) : Hp).2.1.1 = r10 from hr10.symm]
  rw [show 124 + 1 = 125 from rfl]
  rw [naE (n := 125) (l := 24) (by decide) (Zi_le zi1 (by decide)) (Zn_le zr10 (by decide)) rfl rfl rfl, bind_s]
  rw [rpR (sx _ (by decide)) rfl, bind_s]
  rw [show up2 r10 114 65 ((sN L 125, (125, m + 8 + 192 + 192 + 192 + 2304 + 12 + 16 + 1260 + 7776 + 24), i1, Z0, r10) : Hp).2.1.1 = r11 from hr11.symm]
  rw [show 125 + 1 = 126 from rfl]
  rw [naE (n := 126) (l := 17640) (by decide) (Zi_le zi1 (by decide)) (Zn_le zr11 (by decide)) rfl rfl rfl, bind_s]
  rw [rpR (sx _ (by decide)) rfl, bind_s]
  rw [show up2 r11 114 67 ((sN L 126, (126, m + 8 + 192 + 192 + 192 + 2304 + 12 + 16 + 1260 + 7776 + 24 + 24), i1, Z0, r11) : Hp).2.1.1 = r12 from hr12.symm]
  rw [show 126 + 1 = 127 from rfl]
  rw [naE (n := 127) (l := 8) (by decide) (Zi_le zi1 (by decide)) (Zn_le zr12 (by decide)) rfl rfl rfl, bind_s]
  rw [rpR (sx _ (by decide)) rfl, bind_s]
  rw [show up2 r12 114 68 ((sN L 127, (127, m + 8 + 192 + 192 + 192 + 2304 + 12 + 16 + 1260 + 7776 + 24 + 24 + 17640), i1, Z0, r12) : Hp).2.1.1 = r13 from hr13.symm]
  rw [show 127 + 1 = 128 from rfl]
  rw [naE (n := 128) (l := 8) (by decide) (Zi_le zi1 (by decide)) (Zn_le zr13 (by decide)) rfl rfl rfl, bind_s]
  rw [rpR (sx _ (by decide)) rfl, bind_s]
  rw [show up2 r13 114 69 ((sN L 128, (128, m + 8 + 192 + 192 + 192 + 2304 + 12 + 16 + 1260 + 7776 + 24 + 24 + 17640 + 8), i1, Z0, r13) : Hp).2.1.1 = r14 from hr14.symm]
  rw [show 128 + 1 = 129 from rfl]
  rw [naE (n := 129) (l := 16) (by decide) (Zi_le zi1 (by decide)) (Zn_le zr14 (by decide)) rfl rfl rfl, bind_s]
  rw [rpR (sx _ (by decide)) rfl, bind_s]
  rw [show up2 r14 114 70 ((sN L 129, (129, m + 8 + 192 + 192 + 192 + 2304 + 12 + 16 + 1260 + 7776 + 24 + 24 + 17640 + 8 + 8), i1, Z0, r14) : Hp).2.1.1 = r15 from hr15.symm]
  rw [show 129 + 1 = 130 from rfl]
  rw [naE (n := 130) (l := 252) (by decide) (Zi_le zi1 (by decide)) (Zn_le zr15 (by decide)) rfl rfl rfl, bind_s]
  rw [rpR (sx _ (by decide)) rfl, bind_s]
  rw [show up2 r15 114 71 ((sN L 130, (130, m + 8 + 192 + 192 + 192 + 2304 + 12 + 16 + 1260 + 7776 + 24 + 24 + 17640 + 8 + 8 + 16), i1, Z0, r15) : Hp).2.1.1 = r16 from hr16.symm]
  rw [show 130 + 1 = 131 from rfl]
  rw [naE (n := 131) (l := 252) (by decide) (Zi_le zi1 (by decide)) (Zn_le zr16 (by decide)) rfl rfl rfl, bind_s]
  rw [rpR (sx _ (by decide)) rfl, bind_s]
  rw [show up2 r16 114 72 ((sN L 131, (131, m + 8 + 192 + 192 + 192 + 2304 + 12 + 16 + 1260 + 7776 + 24 + 24 + 17640 + 8 + 8 + 16 + 252), i1, Z0, r16) : Hp).2.1.1 = r17 from hr17.symm]
  rw [show 131 + 1 = 132 from rfl]
  rw [naE (n := 132) (l := 30) (by decide) (Zi_le zi1 (by decide)) (Zn_le zr17 (by decide)) rfl rfl rfl, bind_s]
  rw [rsIl (r := 132) (show (0 : Int32) = zi 0 from rfl) s132 (by decide : 0 < 30) (by decide) (by decide), bind_s]
  rw [rsIl (r := 132) (show (1 : Int32) = zi 1 from rfl) s132 (by decide : 1 < 30) (by decide) (by decide), bind_s]
  rw [rsIl (r := 132) (show (2 : Int32) = zi 2 from rfl) s132 (by decide : 2 < 30) (by decide) (by decide), bind_s]
  rw [rsIl (r := 132) (show (3 : Int32) = zi 3 from rfl) s132 (by decide : 3 < 30) (by decide) (by decide), bind_s]
  rw [rsIl (r := 132) (show (4 : Int32) = zi 4 from rfl) s132 (by decide : 4 < 30) (by decide) (by decide), bind_s]
  rw [rsIl (r := 132) (show (5 : Int32) = zi 5 from rfl) s132 (by decide : 5 < 30) (by decide) (by decide), bind_s]
  rw [rsIl (r := 132) (show (6 : Int32) = zi 6 from rfl) s132 (by decide : 6 < 30) (by decide) (by decide), bind_s]
  rw [rsIl (r := 132) (show (7 : Int32) = zi 7 from rfl) s132 (by decide : 7 < 30) (by decide) (by decide), bind_s]
  rw [rsIl (r := 132) (show (8 : Int32) = zi 8 from rfl) s132 (by decide : 8 < 30) (by decide) (by decide), bind_s]
  rw [rsIl (r := 132) (show (9 : Int32) = zi 9 from rfl) s132 (by decide : 9 < 30) (by decide) (by decide), bind_s]
  rw [rsIl (r := 132) (show (10 : Int32) = zi 10 from rfl) s132 (by decide : 10 < 30) (by decide) (by decide), bind_s]
  rw [rsIl (r := 132) (show (11 : Int32) = zi 11 from rfl) s132 (by decide : 11 < 30) (by decide) (by decide), bind_s]
  rw [rsIl (r := 132) (show (12 : Int32) = zi 12 from rfl) s132 (by decide : 12 < 30) (by decide) (by decide), bind_s]
  rw [rsIl (r := 132) (show (13 : Int32) = zi 13 from rfl) s132 (by decide : 13 < 30) (by decide) (by decide), bind_s]
  rw [rsIl (r := 132) (show (14 : Int32) = zi 14 from rfl) s132 (by decide : 14 < 30) (by decide) (by decide), bind_s]
  rw [rsIl (r := 132) (show (15 : Int32) = zi 15 from rfl) s132 (by decide : 15 < 30) (by decide) (by decide), bind_s]
  rw [rsIl (r := 132) (show (16 : Int32) = zi 16 from rfl) s132 (by decide : 16 < 30) (by decide) (by decide), bind_s]
  rw [rsIl (r := 132) (show (17 : Int32) = zi 17 from rfl) s132 (by decide : 17 < 30) (by decide) (by decide), bind_s]
  rw [rsIl (r := 132) (show (18 : Int32) = zi 18 from rfl) s132 (by decide : 18 < 30) (by decide) (by decide), bind_s]
  rw [rsIl (r := 132) (show (19 : Int32) = zi 19 from rfl) s132 (by decide : 19 < 30) (by decide) (by decide), bind_s]
  rw [rsIl (r := 132) (show (20 : Int32) = zi 20 from rfl) s132 (by decide : 20 < 30) (by decide) (by decide), bind_s]
  rw [rsIl (r := 132) (show (21 : Int32) = zi 21 from rfl) s132 (by decide : 21 < 30) (by decide) (by decide), bind_s]
  rw [rsIl (r := 132) (show (22 : Int32) = zi 22 from rfl) s132 (by decide : 22 < 30) (by decide) (by decide), bind_s]
  rw [rsIl (r := 132) (show (23 : Int32) = zi 23 from rfl) s132 (by decide : 23 < 30) (by decide) (by decide), bind_s]
  rw [rsIl (r := 132) (show (24 : Int32) = zi 24 from rfl) s132 (by decide : 24 < 30) (by decide) (by decide), bind_s]
  rw [rsIl (r := 132) (show (25 : Int32) = zi 25 from rfl) s132 (by decide : 25 < 30) (by decide) (by decide), bind_s]
  rw [rsIl (r := 132) (show (26 : Int32) = zi 26 from rfl) s132 (by decide : 26 < 30) (by decide) (by decide), bind_s]
  rw [rsIl (r := 132) (show (27 : Int32) = zi 27 from rfl) s132 (by decide : 27 < 30) (by decide) (by decide), bind_s]
  rw [rsIl (r := 132) (show (28 : Int32) = zi 28 from rfl) s132 (by decide : 28 < 30) (by decide) (by decide), bind_s]
  rw [rsIl (r := 132) (show (29 : Int32) = zi 29 from rfl) s132 (by decide : 29 < 30) (by decide) (by decide), bind_s]
  rw [rpR (sx _ (by decide)) rfl, bind_s]
  rw [show up2 r17 114 73 ((sN L 132, (132, m + 8 + 192 + 192 + 192 + 2304 + 12 + 16 + 1260 + 7776 + 24 + 24 + 17640 + 8 + 8 + 16 + 252 + 252), i1, Z0, r17) : Hp).2.1.1 = r18 from hr18.symm]
  rw [show up2 (up2 (up2 (up2 (up2 (up2 (up2 (up2 (up2 (up2 (up2 (up2 (up2 (up2 (up2 (up2 (up2 (up2 (up2 (up2 (up2 (up2 (up2 (up2 (up2 (up2 (up2 (up2 (up2 (up2 i1 132 0 (0)) 132 1 (60)) 132 2 (0)) 132 3 (0)) 132 4 (0)) 132 5 (0)) 132 6 (0)) 132 7 (30)) 132 8 (30)) 132 9 (0)) 132 10 (0)) 132 11 (0)) 132 12 (0)) 132 13 (10)) 132 14 (30)) 132 15 (20)) 132 16 (0)) 132 17 (0)) 132 18 (0)) 132 19 (0)) 132 20 (15)) 132 21 (30)) 132 22 (15)) 132 23 (0)) 132 24 (0)) 132 25 (-2)) 132 26 (0)) 132 27 (20)) 132 28 (30)) 132 29 (12) = i2 from hi2.symm]
  rw [show 132 + 1 = 133 from rfl]
  rw [naE (n := 133) (l := 24) (by decide) (Zi_le zi2 (by decide)) (Zn_le zr18 (by decide)) rfl rfl rfl, bind_s]
  rw [rpR (sx _ (by decide)) rfl, bind_s]
  rw [show up2 r18 114 74 ((sN L 133, (133, m + 8 + 192 + 192 + 192 + 2304 + 12 + 16 + 1260 + 7776 + 24 + 24 + 17640 + 8 + 8 + 16 + 252 + 252 + 30), i2, Z0, r18) : Hp).2.1.1 = r19 from hr19.symm]
  rw [show 133 + 1 = 134 from rfl]
  rw [naE (n := 134) (l := 24) (by decide) (Zi_le zi2 (by decide)) (Zn_le zr19 (by decide)) rfl rfl rfl, bind_s]
  rw [rpR (sx _ (by decide)) rfl, bind_s]
  rw [show up2 r19 114 75 ((sN L 134, (134, m + 8 + 192 + 192 + 192 + 2304 + 12 + 16 + 1260 + 7776 + 24 + 24 + 17640 + 8 + 8 + 16 + 252 + 252 + 30 + 24), i2, Z0, r19) : Hp).2.1.1 = r20 from hr20.symm]
  rw [show 134 + 1 = 135 from rfl]
  rw [naE (n := 135) (l := 3) (by decide) (Zi_le zi2 (by decide)) (Zn_le zr20 (by decide)) rfl rfl rfl, bind_s]
  rw [rpR (sx _ (by decide)) rfl, bind_s]
  rw [show up2 r20 114 82 ((sN L 135, (135, m + 8 + 192 + 192 + 192 + 2304 + 12 + 16 + 1260 + 7776 + 24 + 24 + 17640 + 8 + 8 + 16 + 252 + 252 + 30 + 24 + 24), i2, Z0, r20) : Hp).2.1.1 = r21 from hr21.symm]
  rw [show 135 + 1 = 136 from rfl]
  rw [naE (n := 136) (l := 220) (by decide) (Zi_le zi2 (by decide)) (Zn_le zr21 (by decide)) rfl rfl rfl, bind_s]
  rw [rpR (sx _ (by decide)) rfl, bind_s]
  rw [show up2 r21 114 84 ((sN L 136, (136, m + 8 + 192 + 192 + 192 + 2304 + 12 + 16 + 1260 + 7776 + 24 + 24 + 17640 + 8 + 8 + 16 + 252 + 252 + 30 + 24 + 24 + 3), i2, Z0, r21) : Hp).2.1.1 = r22 from hr22.symm]
  rw [show 136 + 1 = 137 from rfl]
  rw [naE (n := 137) (l := 220) (by decide) (Zi_le zi2 (by decide)) (Zn_le zr22 (by decide)) rfl rfl rfl, bind_s]
  rw [rpR (sx _ (by decide)) rfl, bind_s]
  rw [show up2 r22 114 85 ((sN L 137, (137, m + 8 + 192 + 192 + 192 + 2304 + 12 + 16 + 1260 + 7776 + 24 + 24 + 17640 + 8 + 8 + 16 + 252 + 252 + 30 + 24 + 24 + 3 + 220), i2, Z0, r22) : Hp).2.1.1 = r23 from hr23.symm]
  rw [show 137 + 1 = 138 from rfl]
  rw [naE (n := 138) (l := 220) (by decide) (Zi_le zi2 (by decide)) (Zn_le zr23 (by decide)) rfl rfl rfl, bind_s]
  rw [rpR (sx _ (by decide)) rfl, bind_s]
  rw [show up2 r23 114 86 ((sN L 138, (138, m + 8 + 192 + 192 + 192 + 2304 + 12 + 16 + 1260 + 7776 + 24 + 24 + 17640 + 8 + 8 + 16 + 252 + 252 + 30 + 24 + 24 + 3 + 220 + 220), i2, Z0, r23) : Hp).2.1.1 = r24 from hr24.symm]
  rw [show 138 + 1 = 139 from rfl]
  rw [naE (n := 139) (l := 220) (by decide) (Zi_le zi2 (by decide)) (Zn_le zr24 (by decide)) rfl rfl rfl, bind_s]
  rw [rpR (sx _ (by decide)) rfl, bind_s]
  rw [show up2 r24 114 87 ((sN L 139, (139, m + 8 + 192 + 192 + 192 + 2304 + 12 + 16 + 1260 + 7776 + 24 + 24 + 17640 + 8 + 8 + 16 + 252 + 252 + 30 + 24 + 24 + 3 + 220 + 220 + 220), i2, Z0, r24) : Hp).2.1.1 = r25 from hr25.symm]
  rw [show 139 + 1 = 140 from rfl]
  rw [naE (n := 140) (l := 220) (by decide) (Zi_le zi2 (by decide)) (Zn_le zr25 (by decide)) rfl rfl rfl, bind_s]
  rw [rpR (sx _ (by decide)) rfl, bind_s]
  rw [show up2 r25 114 88 ((sN L 140, (140, m + 8 + 192 + 192 + 192 + 2304 + 12 + 16 + 1260 + 7776 + 24 + 24 + 17640 + 8 + 8 + 16 + 252 + 252 + 30 + 24 + 24 + 3 + 220 + 220 + 220 + 220), i2, Z0, r25) : Hp).2.1.1 = r26 from hr26.symm]
  rw [show 140 + 1 = 141 from rfl]
  rw [naE (n := 141) (l := 1540) (by decide) (Zi_le zi2 (by decide)) (Zn_le zr26 (by decide)) rfl rfl rfl, bind_s]
  rw [rpR (sx _ (by decide)) rfl, bind_s]
  rw [show up2 r26 114 89 ((sN L 141, (141, m + 8 + 192 + 192 + 192 + 2304 + 12 + 16 + 1260 + 7776 + 24 + 24 + 17640 + 8 + 8 + 16 + 252 + 252 + 30 + 24 + 24 + 3 + 220 + 220 + 220 + 220 + 220), i2, Z0, r26) : Hp).2.1.1 = r27 from hr27.symm]
  rw [show 141 + 1 = 142 from rfl]
  rfl