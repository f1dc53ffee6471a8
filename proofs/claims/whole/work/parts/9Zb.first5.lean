/-! the first state: the class's object -/
/-- what the class's constructor has made -/
def CFst (mi mi' : Nat → Nat → Int32) (mr' : Nat → Nat → Nat) : Prop := ((∀ a, a < 4 → mi' a = mi a) ∧ mi' 4 44 = 0 ∧ (∀ q, mi' 6 q = 0) ∧ (∀ q, mi' 7 q = 0) ∧ mi' 8 41 = 0 ∧ mi' 41 33 = 1 ∧ TB (fun _ q => q < 126) mi' ∧ LPr 252 mi') ∧ ((mr' 4 43 = 5 ∧ mr' 4 45 = 6 ∧ mr' 4 46 = 7 ∧ mr' 4 47 = 8 ∧ mr' 4 48 = 10 ∧ mr' 4 49 = 41) ∧ (mr' 8 40 = 9 ∧ mr' 10 14 = 11 ∧ mr' 10 15 = 20 ∧ mr' 10 17 = 39 ∧ mr' 10 18 = 40 ∧ mr' 11 12 = 12 ∧ mr' 11 13 = 18) ∧ (∀ v, v < 5 → mr' 12 v = 13 + v) ∧ ∀ v, v < 18 → mr' 20 v = 21 + v) ∧ (∀ b, b < 8 → RtOK b mi' mr') ∧ Zi 114 mi' ∧ Zn 114 mr'
theorem z0 {G : AG} (hG : FIX G) {L : Nat} {m : Nat} {mi : Nat → Nat → Int32} {mr : Nat → Nat → Nat} (hi : Zi 4 mi) (hr : Zn 4 mr) (h2 : ∀ j, j < 6 → mi 2 j = zi (upn j)) : ∃ k mi' mr', k ≤ m + 9000 ∧ G 0 0 [some (.inr (.inr 4)), none] [] (sN L 5, (5, m), mi, Z0, mr) = some (none, (sN L 114, (114, k), mi', Z0, mr')) ∧ CFst mi mi' mr' := by
  obtain ⟨r1, hr1⟩ : ∃ x, x = up2 mr 4 43 5 := ⟨_, rfl⟩
  obtain ⟨r2, hr2⟩ : ∃ x, x = up2 r1 4 45 6 := ⟨_, rfl⟩
  obtain ⟨r3, hr3⟩ : ∃ x, x = up2 r2 4 46 7 := ⟨_, rfl⟩
  obtain ⟨r4, hr4⟩ : ∃ x, x = up2 r3 8 40 9 := ⟨_, rfl⟩
  obtain ⟨r5, hr5⟩ : ∃ x, x = up2 r4 4 47 8 := ⟨_, rfl⟩
  obtain ⟨i1, hi1⟩ : ∃ x, x = up2 mi 4 44 (0 : Int32) := ⟨_, rfl⟩
  obtain ⟨i2, hi2⟩ : ∃ x, x = up2 i1 8 41 (0 : Int32) := ⟨_, rfl⟩
  have zr0 : Zn 5 mr := Zn_le hr (by decide)
  have zr1 : Zn 6 r1 := by rw [hr1]; exact Zn_up (Zn_le hr (by decide)) (by decide)
  have zr2 : Zn 7 r2 := by rw [hr2]; exact Zn_up (Zn_le zr1 (by decide)) (by decide)
  have zr3 : Zn 8 r3 := by rw [hr3]; exact Zn_up (Zn_le zr2 (by decide)) (by decide)
  have zr5 : Zn 10 r5 := by rw [hr5, hr4]; exact Zn_up (Zn_up (Zn_le zr3 (by decide)) (by decide)) (by decide)
  have zi0 : Zi 5 mi := Zi_le hi (by decide)
  have zi1 : Zi 6 i1 := by rw [hi1]; exact Zi_up (Zi_le hi (by decide)) (by decide)
  have zi2 : Zi 10 i2 := by rw [hi2]; exact Zi_up (Zi_le zi1 (by decide)) (by decide)
  obtain ⟨i3, r6, e3, a1, a2, a3, a4, a5, a6, a7⟩ := z3 hG (L := L) (m := m + 8 + 6 + 6 + 2 + 16 + 7) (Zi_le zi2 (by decide : 10 ≤ 11)) (Zn_le zr5 (by decide : 10 ≤ 11)) (fun j hj => by rw [hi2, hi1, up2_n _ _ (by decide), up2_n _ _ (by decide)]; exact h2 j hj)
  obtain ⟨r7, hr7⟩ : ∃ x, x = up2 r6 4 48 10 := ⟨_, rfl⟩
  obtain ⟨r8, hr8⟩ : ∃ x, x = up2 r7 41 38 0 := ⟨_, rfl⟩
  obtain ⟨r9, hr9⟩ : ∃ x, x = up2 r8 4 49 41 := ⟨_, rfl⟩
  obtain ⟨i4, hi4⟩ : ∃ x, x = up2 (up2 (up2 (up2 (up2 (up2 i3 41 33 (1 : Int32)) 41 34 0) 41 35 0) 41 36 0) 41 37 0) 41 39 0 := ⟨_, rfl⟩
  have zi3 : Zi 41 i3 := fun b hb => by rw [a3 b (by omega)]; exact zi2 b (by omega)
  have zr6 : Zn 41 r6 := fun b hb => by rw [a4 b (by omega)]; exact zr5 b (by omega)
  have zr7 : Zn 41 r7 := by rw [hr7]; exact Zn_up zr6 (by decide)
  have zr9 : Zn 42 r9 := by rw [hr9, hr8]; exact Zn_up (Zn_up (Zn_le zr7 (by decide)) (by decide)) (by decide)
  have zi4 : Zi 42 i4 := by rw [hi4]; exact Zi_up (Zi_up (Zi_up (Zi_up (Zi_up (Zi_up (Zi_le zi3 (by decide)) (by decide)) (by decide)) (by decide)) (by decide)) (by decide)) (by decide)
  have g4 : ∀ f, f ≠ 49 → r9 4 f = r7 4 f := fun f hf => by rw [hr9, up2_s, up1_n _ _ hf, hr8, up2_n _ _ (by decide)]
  have g6 : r6 4 = r5 4 := a4 4 (by decide)
  have h43 : r9 4 43 = 5 := by rw [g4 _ (by decide), hr7, up2_s, up1_n _ _ (by decide), g6, hr5, up2_s, up1_n _ _ (by decide), hr4, up2_n _ _ (by decide), hr3, up2_s, up1_n _ _ (by decide), hr2, up2_s, up1_n _ _ (by decide), hr1, up2_s, up1_s]
  obtain ⟨i5, r10, e5, b1, b2, b3, b4, b5⟩ := z69 hG (L := L) 8 0 (m + 8 + 6 + 6 + 2 + 16 + 7 + 2 + (5 + 5 * 252) + 252 + 252 + (18 + 18 * 252) + 252 + 252 + 7) i4 r9 (by omega) zi4 zr9 h43 (fun b hb => by omega)
  refine ⟨m + 8 + 6 + 6 + 2 + 16 + 7 + 2 + (5 + 5 * 252) + 252 + 252 + (18 + 18 * 252) + 252 + 252 + 7 + 146 * 8, i5, r10, by omega, ?_, ⟨⟨fun a ha => ?_, ?_, fun q => ?_, fun q => ?_, ?_, ?_, TB_o a1 (fun a h1 h2 => ?_), ?_⟩, ⟨⟨?_, ?_, ?_, ?_, ?_, ?_⟩, ⟨?_, ?_, ?_, ?_, ?_, ?_, ?_⟩, fun v hv => ?_, fun v hv => ?_⟩, b1, b4, b5⟩⟩
  · have hk9 : Nat.beq (sN L 9 8).1 9 = true := by rw [sN_at (by decide) (by decide) rfl]; rfl
    have hk6 : Nat.beq (sN L 11 10).1 6 = true := by rw [sN_at (by decide) (by decide) rfl]; rfl
    have hk8 : Nat.beq (sN L 42 41).1 8 = true := by rw [sN_at (by decide) (by decide) rfl]; rfl
    refine (b0_0 hG ..).trans ?_
    rw [show (Nat.beq 4 0 || false) = false from rfl, cnd_f, bind_s, naE (n := 5) (l := 8) (by decide) zi0 zr0 rfl rfl rfl, bind_s, rpR (sN_at (by decide) (by decide) rfl) rfl, bind_s]
    rw [show up2 mr 4 43 ((sN L 5, (5, m), mi, Z0, mr) : Hp).2.1.1 = r1 from hr1.symm]
    rw [rpI (sN_at (by decide) (by decide) rfl) rfl (by decide), bind_s, ← hi1, show 5 + 1 = 6 from rfl, naE (n := 6) (l := 6) (by decide) zi1 zr1 rfl rfl rfl, bind_s, rpR (sN_at (by decide) (by decide) rfl) rfl, bind_s]
    rw [show up2 r1 4 45 ((sN L 6, (6, m + 8), i1, Z0, r1) : Hp).2.1.1 = r2 from hr2.symm]
    rw [show 6 + 1 = 7 from rfl, naE (n := 7) (l := 6) (by decide) (Zi_le zi1 (by decide)) zr2 rfl rfl rfl, bind_s, rpR (sN_at (by decide) (by decide) rfl) rfl, bind_s]
    rw [show up2 r2 4 46 ((sN L 7, (7, m + 8 + 6), i1, Z0, r2) : Hp).2.1.1 = r3 from hr3.symm]
    rw [show 7 + 1 = 8 from rfl, nwE (n := 8) (kd := 9) (l := 2) (by decide) (Zi_le zi1 (by decide)) zr3 rfl, bind_s]
    show (bif Nat.beq (sN L 9 8).1 9 then (G 2 0 [some (.inr (.inr 8))] [] (sN L 9, (9, m + 8 + 6 + 6 + 2), i1, Z0, r3)).bind _ else _) = _
    rw [hk9, cnd_t, z2 hG (Zi_le zi1 (by decide)) (Zn_le zr3 (by decide)), bind_s, as_V, bind_s, ← hi2, ← hr4, rpR (sN_at (by decide) (by decide) rfl) rfl, bind_s]
    rw [show up2 r4 4 47 ((sN L 8, (8, m + 8 + 6 + 6), i1, Z0, r3) : Hp).2.1.1 = r5 from hr5.symm]
    rw [nwE (n := 10) (kd := 6) (l := 7) (by decide) zi2 zr5 rfl, bind_s]
    show (bif Nat.beq (sN L 11 10).1 6 then (G 3 0 [some (.inr (.inr 10))] [] (sN L 11, (11, m + 8 + 6 + 6 + 2 + 16 + 7), i2, Z0, r5)).bind _ else _) = _
    rw [hk6, cnd_t, e3, bind_s, as_V, bind_s, rpR (sN_at (by decide) (by decide) rfl) rfl, bind_s]
    rw [show up2 r6 4 48 ((sN L 10, (10, m + 8 + 6 + 6 + 2 + 16), i2, Z0, r5) : Hp).2.1.1 = r7 from hr7.symm]
    rw [nwE (n := 41) (kd := 8) (l := 7) (by decide) zi3 zr7 rfl, bind_s]
    show (bif Nat.beq (sN L 42 41).1 8 then (G 9 0 [some (.inr (.inr 41))] [] (sN L 42, (42, m + 8 + 6 + 6 + 2 + 16 + 7 + 2 + (5 + 5 * 252) + 252 + 252 + (18 + 18 * 252) + 252 + 252 + 7), i3, Z0, r7)).bind _ else _) = _
    rw [hk8, cnd_t, z9 hG (Zi_le zi3 (by decide)), bind_s, as_V, bind_s, ← hi4, ← hr8, rpR (sN_at (by decide) (by decide) rfl) rfl, bind_s]
    rw [show up2 r8 4 49 ((sN L 41, (41, m + 8 + 6 + 6 + 2 + 16 + 7 + 2 + (5 + 5 * 252) + 252 + 252 + (18 + 18 * 252) + 252 + 252), i3, Z0, r7) : Hp).2.1.1 = r9 from hr9.symm]
    exact e5
  · have x4 : i4 a = i3 a := by rw [hi4, up2_n _ _ (by omega), up2_n _ _ (by omega), up2_n _ _ (by omega), up2_n _ _ (by omega), up2_n _ _ (by omega), up2_n _ _ (by omega)]
    rw [b2 a (by omega), x4, a3 a (by omega), hi2, up2_n _ _ (by omega), hi1, up2_n _ _ (by omega)]
  · rw [b2 4 (by decide), hi4, up2_n _ _ (by decide), up2_n _ _ (by decide), up2_n _ _ (by decide), up2_n _ _ (by decide), up2_n _ _ (by decide), up2_n _ _ (by decide), a3 4 (by decide), hi2, up2_n _ _ (by decide), hi1, up2_s, up1_s]
  · rw [b2 6 (by decide), hi4, up2_n _ _ (by decide), up2_n _ _ (by decide), up2_n _ _ (by decide), up2_n _ _ (by decide), up2_n _ _ (by decide), up2_n _ _ (by decide), a3 6 (by decide), hi2, up2_n _ _ (by decide), zi1 6 (by decide)]
  · rw [b2 7 (by decide), hi4, up2_n _ _ (by decide), up2_n _ _ (by decide), up2_n _ _ (by decide), up2_n _ _ (by decide), up2_n _ _ (by decide), up2_n _ _ (by decide), a3 7 (by decide), hi2, up2_n _ _ (by decide), zi1 7 (by decide)]
  · rw [b2 8 (by decide), hi4, up2_n _ _ (by decide), up2_n _ _ (by decide), up2_n _ _ (by decide), up2_n _ _ (by decide), up2_n _ _ (by decide), up2_n _ _ (by decide), a3 8 (by decide), hi2, up2_s, up1_s]
  · rw [b2 41 (by decide), hi4, up2_s, up1_n _ _ (by decide), up2_s, up1_n _ _ (by decide), up2_s, up1_n _ _ (by decide), up2_s, up1_n _ _ (by decide), up2_s, up1_n _ _ (by decide), up2_s, up1_s]
  · rw [b2 a (by omega), hi4, up2_n _ _ (by omega), up2_n _ _ (by omega), up2_n _ _ (by omega), up2_n _ _ (by omega), up2_n _ _ (by omega), up2_n _ _ (by omega)]
  · have x4 : ∀ a, a < 41 → i5 a = i3 a := fun a ha => by rw [b2 a (by omega), hi4, up2_n _ _ (by omega), up2_n _ _ (by omega), up2_n _ _ (by omega), up2_n _ _ (by omega), up2_n _ _ (by omega), up2_n _ _ (by omega)]
    exact ⟨fun q hq => by rw [x4 18 (by decide)]; exact a2.1 q hq, fun q h1 hq => by rw [x4 19 (by decide)]; exact a2.2 q h1 hq⟩
  · rw [b3 4 (by decide) (by decide)]; exact h43
  · rw [b3 4 (by decide) (by decide), g4 _ (by decide), hr7, up2_s, up1_n _ _ (by decide), g6, hr5, up2_s, up1_n _ _ (by decide), hr4, up2_n _ _ (by decide), hr3, up2_s, up1_n _ _ (by decide), hr2, up2_s, up1_s]
  · rw [b3 4 (by decide) (by decide), g4 _ (by decide), hr7, up2_s, up1_n _ _ (by decide), g6, hr5, up2_s, up1_n _ _ (by decide), hr4, up2_n _ _ (by decide), hr3, up2_s, up1_s]
  · rw [b3 4 (by decide) (by decide), g4 _ (by decide), hr7, up2_s, up1_n _ _ (by decide), g6, hr5, up2_s, up1_s]
  · rw [b3 4 (by decide) (by decide), g4 _ (by decide), hr7, up2_s, up1_s]
  · rw [b3 4 (by decide) (by decide), hr9, up2_s, up1_s]
  · rw [b3 8 (by decide) (by decide), hr9, up2_n _ _ (by decide), hr8, up2_n _ _ (by decide), hr7, up2_n _ _ (by decide), a4 8 (by decide), hr5, up2_n _ _ (by decide), hr4, up2_s, up1_s]
  · rw [b3 10 (by decide) (by decide), hr9, up2_n _ _ (by decide), hr8, up2_n _ _ (by decide), hr7, up2_n _ _ (by decide)]; exact a5.1
  · rw [b3 10 (by decide) (by decide), hr9, up2_n _ _ (by decide), hr8, up2_n _ _ (by decide), hr7, up2_n _ _ (by decide)]; exact a5.2.1
  · rw [b3 10 (by decide) (by decide), hr9, up2_n _ _ (by decide), hr8, up2_n _ _ (by decide), hr7, up2_n _ _ (by decide)]; exact a5.2.2.1
  · rw [b3 10 (by decide) (by decide), hr9, up2_n _ _ (by decide), hr8, up2_n _ _ (by decide), hr7, up2_n _ _ (by decide)]; exact a5.2.2.2.1
  · rw [b3 11 (by decide) (by decide), hr9, up2_n _ _ (by decide), hr8, up2_n _ _ (by decide), hr7, up2_n _ _ (by decide)]; exact a5.2.2.2.2.1
  · rw [b3 11 (by decide) (by decide), hr9, up2_n _ _ (by decide), hr8, up2_n _ _ (by decide), hr7, up2_n _ _ (by decide)]; exact a5.2.2.2.2.2
  · rw [b3 12 (by decide) (by decide), hr9, up2_n _ _ (by decide), hr8, up2_n _ _ (by decide), hr7, up2_n _ _ (by decide)]; exact a6 v hv
  · rw [b3 20 (by decide) (by decide), hr9, up2_n _ _ (by decide), hr8, up2_n _ _ (by decide), hr7, up2_n _ _ (by decide)]; exact a7 v hv