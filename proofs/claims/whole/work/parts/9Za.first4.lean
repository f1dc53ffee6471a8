/-! the first state: the class whole -/
def RtOK (r : Nat) (mi : Nat → Nat → Int32) (mr : Nat → Nat → Nat) : Prop := (mi (42 + 9 * r) 21 = zi r ∧ (∀ f, f ≠ 21 → mi (42 + 9 * r) f = 0) ∧ ∀ a, 43 + 9 * r ≤ a → a ≤ 50 + 9 * r → mi a = fun _ => 0) ∧ (mr (42 + 9 * r) 22 = 43 + 9 * r ∧ mr (42 + 9 * r) 24 = 44 + 9 * r ∧ mr (42 + 9 * r) 27 = 45 + 9 * r ∧ mr (42 + 9 * r) 28 = 48 + 9 * r ∧ mr (42 + 9 * r) 29 = 49 + 9 * r ∧ mr (42 + 9 * r) 30 = 50 + 9 * r ∧ mr (45 + 9 * r) 0 = 46 + 9 * r ∧ mr (45 + 9 * r) 1 = 47 + 9 * r) ∧ mr 5 r = 42 + 9 * r
theorem z3 {G : AG} (hG : FIX G) {L : Nat} {m : Nat} {mi : Nat → Nat → Int32} {mr : Nat → Nat → Nat} (hi : Zi 11 mi) (hr : Zn 11 mr) (h2 : ∀ j, j < 6 → mi 2 j = zi (upn j)) : ∃ mi' mr', G 3 0 [some (.inr (.inr 10))] [] (sN L 11, (11, m), mi, Z0, mr) = some (none, (sN L 41, (41, m + 2 + (5 + 5 * 252) + 252 + 252 + (18 + 18 * 252) + 252 + 252), mi', Z0, mr')) ∧ TB (fun _ q => q < 126) mi' ∧ LPr 252 mi' ∧ (∀ a, a < 10 ∨ 20 ≤ a → mi' a = mi a) ∧ (∀ a, a < 10 ∨ 21 ≤ a → mr' a = mr a) ∧ (mr' 10 14 = 11 ∧ mr' 10 15 = 20 ∧ mr' 10 17 = 39 ∧ mr' 10 18 = 40 ∧ mr' 11 12 = 12 ∧ mr' 11 13 = 18) ∧ (∀ v, v < 5 → mr' 12 v = 13 + v) ∧ ∀ v, v < 18 → mr' 20 v = 21 + v := by
  obtain ⟨m4, e4, a1, a2, a3⟩ := z4 hG (L := L) (m := m + 2) (Zi_le hi (by decide : 11 ≤ 12)) (Zn_le hr (by decide : 11 ≤ 12)) h2
  obtain ⟨r1, hr1⟩ : ∃ x, x = up2 (up2 (up1 mr 12 (fun j => if j < 5 then 12 + 1 + j else 0)) 11 12 12) 11 13 18 := ⟨_, rfl⟩
  rw [← hr1] at e4
  obtain ⟨r2, hr2⟩ : ∃ x, x = up2 r1 10 14 11 := ⟨_, rfl⟩
  obtain ⟨r3, hr3⟩ : ∃ x, x = up1 r2 20 (fun j => if j < 18 then 20 + 1 + j else 0) := ⟨_, rfl⟩
  obtain ⟨r4, hr4⟩ : ∃ x, x = up2 r3 10 15 20 := ⟨_, rfl⟩
  obtain ⟨r5, hr5⟩ : ∃ x, x = up2 r4 10 17 39 := ⟨_, rfl⟩
  obtain ⟨r6, hr6⟩ : ∃ x, x = up2 r5 10 18 40 := ⟨_, rfl⟩
  obtain ⟨m5, hm5⟩ : ∃ x, x = up2 m4 10 16 (0 : Int32) := ⟨_, rfl⟩
  obtain ⟨m6, hm6⟩ : ∃ x, x = up2 m5 10 19 (0 : Int32) := ⟨_, rfl⟩
  obtain ⟨m7, hm7⟩ : ∃ x, x = up2 m6 10 20 (0 : Int32) := ⟨_, rfl⟩
  have zi4 : Zi 20 m4 := fun b hb => by rw [a3 b (by omega)]; exact hi b (by omega)
  have zi5 : Zi 39 m5 := by rw [hm5]; exact Zi_up (Zi_le zi4 (by decide)) (by decide)
  have zr2 : Zn 20 r2 := by
    rw [hr2, hr1]
    exact fun b hb => by rw [up2_n _ _ (by omega), up2_n _ _ (by omega), up2_n _ _ (by omega), up1_n _ _ (by omega)]; exact hr b (by omega)
  have zr4 : Zn 39 r4 := by
    rw [hr4, hr3]
    exact fun b hb => by rw [up2_n _ _ (by omega), up1_n _ _ (by omega)]; exact zr2 b (by omega)
  have zr5 : Zn 40 r5 := by rw [hr5]; exact Zn_up (Zn_le zr4 (by decide)) (by decide)
  refine ⟨m7, r6, ?_, TB_o a1 (fun a h1 h2 => by rw [hm7, hm6, hm5, up2_n _ _ (by omega), up2_n _ _ (by omega), up2_n _ _ (by omega)]), ?_, fun a ha => ?_, fun a ha => ?_, ⟨?_, ?_, ?_, ?_, ?_, ?_⟩, fun v hv => ?_, fun v hv => ?_⟩
  · have hb5 : Nat.beq (sN L (11 + 1) 11).1 5 = true := by rw [sN_at (by decide) (by decide) rfl]; rfl
    refine (b3_0 hG ..).trans ?_
    rw [show (Nat.beq 10 0 || false) = false from rfl, cnd_f, bind_s, nwE (n := 11) (kd := 5) (l := 2) (by decide) hi hr rfl, bind_s]
    show (bif Nat.beq (sN L (11 + 1) 11).1 5 then _ else _) = _
    rw [hb5, cnd_t]
    show (G 4 0 [some (.inr (.inr 11)), none, none, none] [] (sN L 12, (12, m + 2), mi, Z0, mr)).bind _ = _
    rw [e4, bind_s, as_V, bind_s, rpR (sN_at (by decide) (by decide) rfl) rfl, bind_s]
    rw [show up2 r1 10 14 ((sN L 11, (11, m), mi, Z0, mr) : Hp).2.1.1 = r2 from hr2.symm]
    rw [show (Nat.ble 4 ((sN L 20, (20, m + 2 + (5 + 5 * 252) + 252 + 252), m4, Z0, r2) : Hp).2.1.1 && (decide ((0 : Int32) ≤ 18) && (decide ((0 : Int32) ≤ 252) && (Nat.ble (18 : Int32).toNatClampNeg 10000 && Nat.ble (252 : Int32).toNatClampNeg 10000)))) = true from rfl, cnd_t, bind_s, show (18 : Int32).toNatClampNeg = 18 from rfl, show (252 : Int32).toNatClampNeg = 252 from rfl]
    rw [muE (n := 20) (kO := 26) (kI := 21) (N := 18) (K := 252) (by decide) zi4 zr2 rfl (by
      have : ∀ j, j < 19 → 1 ≤ j → SAL.getD (20 + j) (0, 0) = (21, 252) := by decide
      exact fun j h1 h5 => this j (by omega) h1)]
    rw [← hr3, show 20 + (1 + 18) = 39 from rfl, rpR (sN_at (by decide) (by decide) rfl) rfl, bind_s]
    rw [show up2 r3 10 15 ((sN L 20, (20, m + 2 + (5 + 5 * 252) + 252 + 252), m4, Z0, r2) : Hp).2.1.1 = r4 from hr4.symm]
    rw [rpI (sN_at (by decide) (by decide) rfl) rfl (by decide), bind_s, ← hm5, naE (n := 39) (l := 252) (by decide) zi5 zr4 rfl rfl rfl, bind_s, rpR (sN_at (by decide) (by decide) rfl) rfl, bind_s]
    rw [show up2 r4 10 17 ((sN L 39, (39, m + 2 + (5 + 5 * 252) + 252 + 252 + (18 + 18 * 252)), m5, Z0, r4) : Hp).2.1.1 = r5 from hr5.symm]
    rw [show 39 + 1 = 40 from rfl, naE (n := 40) (l := 252) (by decide) (Zi_le zi5 (by decide)) zr5 rfl rfl rfl, bind_s, rpR (sN_at (by decide) (by decide) rfl) rfl, bind_s]
    rw [show up2 r5 10 18 ((sN L 40, (40, m + 2 + (5 + 5 * 252) + 252 + 252 + (18 + 18 * 252) + 252), m5, Z0, r5) : Hp).2.1.1 = r6 from hr6.symm]
    rw [rpI (sN_at (by decide) (by decide) rfl) rfl (by decide), bind_s, ← hm6]
    rw [show hpZ ((sN L (40 + 1), (40 + 1, m + 2 + (5 + 5 * 252) + 252 + 252 + (18 + 18 * 252) + 252 + 252), m6, Z0, r6) : Hp) 10 20 0 = some (sN L (40 + 1), (40 + 1, m + 2 + (5 + 5 * 252) + 252 + 252 + (18 + 18 * 252) + 252 + 252), up2 m6 10 20 0, Z0, r6) from rpZ (b := false) (sN_at (by decide) (by decide) rfl) rfl (by decide), bind_s, ← hm7]
  · exact ⟨fun q hq => by rw [hm7, hm6, hm5, up2_n _ _ (by decide), up2_n _ _ (by decide), up2_n _ _ (by decide)]; exact a2.1 q hq, fun q h1 hq => by rw [hm7, hm6, hm5, up2_n _ _ (by decide), up2_n _ _ (by decide), up2_n _ _ (by decide)]; exact a2.2 q h1 hq⟩
  · rw [hm7, hm6, hm5, up2_n _ _ (by omega), up2_n _ _ (by omega), up2_n _ _ (by omega)]
    exact a3 a (by omega)
  · rw [hr6, hr5, hr4, up2_n _ _ (by omega), up2_n _ _ (by omega), up2_n _ _ (by omega), hr3, up1_n _ _ (by omega), hr2, hr1, up2_n _ _ (by omega), up2_n _ _ (by omega), up2_n _ _ (by omega), up1_n _ _ (by omega)]
  · rw [hr6, up2_s, up1_n _ _ (by decide), hr5, up2_s, up1_n _ _ (by decide), hr4, up2_s, up1_n _ _ (by decide), hr3, up1_n _ _ (by decide), hr2, up2_s, up1_s]
  · rw [hr6, up2_s, up1_n _ _ (by decide), hr5, up2_s, up1_n _ _ (by decide), hr4, up2_s, up1_s]
  · rw [hr6, up2_s, up1_n _ _ (by decide), hr5, up2_s, up1_s]
  · rw [hr6, up2_s, up1_s]
  · rw [hr6, hr5, hr4, up2_n _ _ (by decide), up2_n _ _ (by decide), up2_n _ _ (by decide), hr3, up1_n _ _ (by decide), hr2, hr1, up2_n _ _ (by decide), up2_s, up1_n _ _ (by decide), up2_s, up1_s]
  · rw [hr6, hr5, hr4, up2_n _ _ (by decide), up2_n _ _ (by decide), up2_n _ _ (by decide), hr3, up1_n _ _ (by decide), hr2, hr1, up2_n _ _ (by decide), up2_s, up1_s]
  · rw [hr6, hr5, hr4, up2_n _ _ (by decide), up2_n _ _ (by decide), up2_n _ _ (by decide), hr3, up1_n _ _ (by decide), hr2, hr1, up2_n _ _ (by decide), up2_n _ _ (by decide), up2_n _ _ (by decide), up1_s, if_pos hv]
  · rw [hr6, hr5, hr4, up2_n _ _ (by decide), up2_n _ _ (by decide), up2_n _ _ (by decide), hr3, up1_s, if_pos hv]
theorem z69 {G : AG} (hG : FIX G) {L : Nat} : ∀ (f r m : Nat) (mi : Nat → Nat → Int32) (mr : Nat → Nat → Nat), r + f = 8 → Zi (42 + 9 * r) mi → Zn (42 + 9 * r) mr → mr 4 43 = 5 → (∀ b, b < r → RtOK b mi mr) → ∃ mi' mr', G 0 69 [some (.inr (.inr 4)), some (.inl (zi r))] [] (sN L (42 + 9 * r), (42 + 9 * r, m), mi, Z0, mr) = some (none, (sN L 114, (114, m + 146 * f), mi', Z0, mr')) ∧ (∀ b, b < 8 → RtOK b mi' mr') ∧ (∀ a, a < 42 → mi' a = mi a) ∧ (∀ a, a < 42 → a ≠ 5 → mr' a = mr a) ∧ Zi 114 mi' ∧ Zn 114 mr' := by
  intro f
  induction f with
  | zero =>
    intro r m mi mr hf hi hr h43 hk
    have e : r = 8 := by omega
    subst e
    refine ⟨mi, mr, ?_, hk, fun _ _ => rfl, fun _ _ _ => rfl, hi, hr⟩
    refine (b0_69 hG ..).trans ?_
    rw [show decide ((8 : Int32) ≤ zi 8) = true from by decide, cnd_t]
    rfl
  | succ f ih =>
    intro r m mi mr hf hi hr h43 hk
    have hr8 : r < 8 := by omega
    have k0 : SAL.getD (42 + 9 * r) (0, 0) = (7, 12) := by
      have : ∀ r, r < 8 → SAL.getD (42 + 9 * r) (0, 0) = (7, 12) := by decide
      exact this r hr8
    obtain ⟨m1, r1, e1, b1, b2, b3, b4, b5⟩ := z10 hG (L := L) (m := m + 12) hr8 hi hr
    have hmo : ∀ a, a ≠ 42 + 9 * r → a ≠ 45 + 9 * r → a ≠ 5 → up2 r1 5 r (42 + 9 * r) a = mr a := fun a h1 h2 h3 => by rw [up2_n _ _ h3, b4 a h1 h2]
    obtain ⟨m2, r2, e2, c1, c2, c3, c4, c5⟩ := ih (r + 1) (m + 12 + 24 + 24 + (2 + 2 * 36) + 2 + 5 + 5) m1 (up2 r1 5 r (42 + 9 * r)) (by omega) (fun a ha => by rw [b1 a (by omega)]; exact hi a (by omega)) (fun a ha => by rw [hmo a (by omega) (by omega) (by omega)]; exact hr a (by omega)) (by rw [hmo 4 (by omega) (by omega) (by decide)]; exact h43) (fun b hb => by
      by_cases e : b = r
      · subst e
        obtain ⟨d1, d2, d3, d4, d5, d6, d7, d8⟩ := b5
        refine ⟨⟨b2, b3, fun a h1 h2 => by rw [b1 a (by omega)]; exact hi a (by omega)⟩, ⟨by rw [up2_n _ _ (by omega)]; exact d1, by rw [up2_n _ _ (by omega)]; exact d2, by rw [up2_n _ _ (by omega)]; exact d3, by rw [up2_n _ _ (by omega)]; exact d4, by rw [up2_n _ _ (by omega)]; exact d5, by rw [up2_n _ _ (by omega)]; exact d6, by rw [up2_n _ _ (by omega)]; exact d7, by rw [up2_n _ _ (by omega)]; exact d8⟩, by rw [up2_s, up1_s]⟩
      · obtain ⟨⟨d1, d2, d3⟩, ⟨g1, g2, g3, g4, g5, g6, g7, g8⟩, d5⟩ := hk b (by omega)
        have x1 : up2 r1 5 r (42 + 9 * r) (42 + 9 * b) = mr (42 + 9 * b) := hmo _ (by omega) (by omega) (by omega)
        have x2 : up2 r1 5 r (42 + 9 * r) (45 + 9 * b) = mr (45 + 9 * b) := hmo _ (by omega) (by omega) (by omega)
        refine ⟨⟨by rw [b1 _ (by omega)]; exact d1, fun f hf => by rw [b1 _ (by omega)]; exact d2 f hf, fun a h1 h2 => by rw [b1 a (by omega)]; exact d3 a h1 h2⟩, ?_, by rw [up2_s, up1_n _ _ e, b4 5 (by omega) (by omega)]; exact d5⟩
        rw [x1, x2]
        exact ⟨g1, g2, g3, g4, g5, g6, g7, g8⟩)
    refine ⟨m2, r2, ?_, c1, fun a ha => (c2 a ha).trans (b1 a (by omega)), fun a h1 h2 => (c3 a h1 h2).trans (hmo a (by omega) (by omega) h2), c4, c5⟩
    have hb7 : Nat.beq (sN L (42 + 9 * r + 1) (42 + 9 * r)).1 7 = true := by rw [sN_at (by omega) (by omega) k0]; rfl
    refine (b0_69 hG ..).trans ?_
    rw [decide_eq_false (by show ¬ zi 8 ≤ zi r; rw [zi_le (by omega) (by omega)]; omega : ¬ (8 : Int32) ≤ zi r), cnd_f, rgR (sN_at (by omega) (by decide) rfl : sN L (42 + 9 * r) 4 = (11, 7)) rfl, bind_s, h43, nwE (n := 42 + 9 * r) (kd := 7) (l := 12) (by omega) hi hr k0, bind_s]
    show (bif Nat.beq (sN L (42 + 9 * r + 1) (42 + 9 * r)).1 7 then _ else _) = _
    rw [hb7, cnd_t]
    show (G 10 0 [some (.inr (.inr (42 + 9 * r))), some (.inl (zi r))] [] (sN L (42 + 9 * r + 1), (42 + 9 * r + 1, m + 12), mi, Z0, mr)).bind _ = _
    rw [show 42 + 9 * r + 1 = 43 + 9 * r by omega, e1, bind_s, as_V, bind_s]
    show (hSR ((sN L (51 + 9 * r), (51 + 9 * r, m + 12 + 24 + 24 + (2 + 2 * 36) + 2 + 5 + 5), m1, Z0, r1) : Hp) 5 (zi r) (42 + 9 * r)).bind _ = _
    rw [rsR24 (sN_at (by omega) (by decide) rfl) hr8 (by decide) (sN_at (by omega) (by omega) k0), bind_s, show zi r + 1 = zi (r + 1) from zi_add r 1]
    rw [show 42 + 9 * (r + 1) = 51 + 9 * r by omega] at e2
    rw [e2]
    congr 3
    congr 1
    congr 1
    omega