/-! the first state: the class's constructors -/
theorem rsR24 {s : Nat → Nat × Nat} {mr : Nat → Nat → Nat} {n : Nat × Nat} {mi : Nat → Nat → Int32} {ml : Nat → Nat → Int64} {r l i v lv : Nat} (h : s r = (24, l)) (hi : i < l) (hl : l ≤ 100000) (hv : s v = (7, lv)) : hSR ((s, n, mi, ml, mr) : Hp) r (zi i) v = some (s, n, mi, ml, up2 mr r i v) := by
  unfold hSR
  rw [show (s, n, mi, ml, mr).1 r = (24, l) from h, inb_zi hi (by omega), zi_cl (by omega), show (s, n, mi, ml, mr).1 v = (7, lv) from hv]
  rfl
theorem z2 {G : AG} (hG : FIX G) {L m : Nat} {mi : Nat → Nat → Int32} {mr : Nat → Nat → Nat} (hi : Zi 9 mi) (hr : Zn 9 mr) : G 2 0 [some (.inr (.inr 8))] [] (sN L 9, (9, m), mi, Z0, mr) = some (none, (sN L 10, (10, m + 16), up2 mi 8 41 0, Z0, up2 mr 8 40 9)) := by
  refine (b2_0 hG ..).trans ?_
  rw [show (Nat.beq 8 0 || false) = false from rfl, cnd_f, bind_s, naE (l := 16) (by decide) hi hr rfl rfl rfl, bind_s, rpR (sN_at (by decide) (by decide) rfl) rfl, bind_s, rpI (sN_at (by decide) (by decide) rfl) rfl (by decide), bind_s]
theorem z4 {G : AG} (hG : FIX G) {L m : Nat} {mi : Nat → Nat → Int32} {mr : Nat → Nat → Nat} (hi : Zi 12 mi) (hr : Zn 12 mr) (h2 : ∀ j, j < 6 → mi 2 j = zi (upn j)) : ∃ mi', G 4 0 [some (.inr (.inr 11)), none, none, none] [] (sN L 12, (12, m), mi, Z0, mr) = some (none, (sN L 20, (20, m + (5 + 5 * 252) + 252 + 252), mi', Z0, up2 (up2 (up1 mr 12 (fun j => if j < 5 then 12 + 1 + j else 0)) 11 12 12) 11 13 18)) ∧ TB (fun _ q => q < 126) mi' ∧ LPr 252 mi' ∧ T1f mi mi' := by
  have hr1 : Zn 18 (up2 (up1 mr 12 (fun j => if j < 5 then 12 + 1 + j else 0)) 11 12 12) := fun b hb => by rw [up2_n _ _ (by omega), up1_n _ _ (by omega)]; exact hr b (by omega)
  have hr2 : Zn 19 (up2 (up2 (up1 mr 12 (fun j => if j < 5 then 12 + 1 + j else 0)) 11 12 12) 11 13 18) := fun b hb => by rw [up2_n _ _ (by omega)]; exact hr1 b (by omega)
  have hP : PSh (sN L 20) (up2 (up2 (up1 mr 12 (fun j => if j < 5 then 12 + 1 + j else 0)) 11 12 12) 11 13 18) := by
    refine ⟨⟨sN_at (by decide) (by decide) rfl, sN_at (by decide) (by decide) rfl, sN_at (by decide) (by decide) rfl, sN_at (by decide) (by decide) rfl, sN_at (by decide) (by decide) rfl, by rw [up2_s, up1_n _ _ (by decide), up2_s, up1_s], by rw [up2_s, up1_s]⟩, fun v hv => ?_, fun v hv => ?_⟩
    · have h5 : v = 0 ∨ v = 1 ∨ v = 2 ∨ v = 3 ∨ v = 4 := by omega
      rcases h5 with rfl | rfl | rfl | rfl | rfl <;> exact sN_at (by decide) (by decide) rfl
    · rw [up2_n _ _ (by decide), up2_n _ _ (by decide), up1_s, if_pos hv]
  obtain ⟨m', e, h1, h3, h4⟩ := t33 hG hP (n := (20, m + (5 + 5 * 252) + 252 + 252)) (ml := Z0) h2 (by rw [hi 18 (by decide)])
  refine ⟨m', ?_, h1, h3, h4⟩
  refine (b4_0 hG ..).trans ?_
  rw [show (Nat.beq 11 0 || false) = false from rfl, cnd_f, bind_s]
  rw [show (Nat.ble 4 ((sN L 12, (12, m), mi, Z0, mr) : Hp).2.1.1 && (decide ((0 : Int32) ≤ 5) && (decide ((0 : Int32) ≤ 252) && (Nat.ble (5 : Int32).toNatClampNeg 10000 && Nat.ble (252 : Int32).toNatClampNeg 10000)))) = true from rfl, cnd_t, bind_s, show (5 : Int32).toNatClampNeg = 5 from rfl, show (252 : Int32).toNatClampNeg = 252 from rfl]
  rw [muE (n := 12) (kO := 25) (kI := 20) (N := 5) (K := 252) (by decide) hi hr rfl (fun j h1 h5 => by
    have h5 : j = 1 ∨ j = 2 ∨ j = 3 ∨ j = 4 ∨ j = 5 := by omega
    rcases h5 with rfl | rfl | rfl | rfl | rfl <;> rfl)]
  rw [rpR (sN_at (by decide) (by decide) rfl) rfl, bind_s]
  show Option.bind (hNa ((sN L 18, (18, m + (5 + 5 * 252)), mi, Z0, up2 (up1 mr 12 (fun j => if j < 5 then 12 + 1 + j else 0)) 11 12 12) : Hp) 20 252) _ = _
  rw [naE (n := 18) (l := 252) (by decide) (Zi_le hi (by decide)) hr1 rfl rfl rfl, bind_s, rpR (sN_at (by decide) (by decide) rfl) rfl, bind_s]
  show Option.bind (hNa ((sN L 19, (19, m + (5 + 5 * 252) + 252), mi, Z0, up2 (up2 (up1 mr 12 (fun j => if j < 5 then 12 + 1 + j else 0)) 11 12 12) 11 13 18) : Hp) 20 252) _ = _
  rw [naE (n := 19) (l := 252) (by decide) (Zi_le hi (by decide)) hr2 rfl rfl rfl, bind_s]
  exact e
theorem z9 {G : AG} (hG : FIX G) {L m : Nat} {mi : Nat → Nat → Int32} {mr : Nat → Nat → Nat} (hi : Zi 42 mi) : G 9 0 [some (.inr (.inr 41))] [] (sN L 42, (42, m), mi, Z0, mr) = some (none, (sN L 42, (42, m), up2 (up2 (up2 (up2 (up2 (up2 mi 41 33 1) 41 34 0) 41 35 0) 41 36 0) 41 37 0) 41 39 0, Z0, up2 mr 41 38 0)) := by
  refine (b9_0 hG ..).trans ?_
  rw [show (Nat.beq 41 0 || false) = false from rfl, cnd_f, bind_s, rpI (sN_at (by decide) (by decide) rfl) rfl (by decide), bind_s, rpI (sN_at (by decide) (by decide) rfl) rfl (by decide), bind_s, rpI (sN_at (by decide) (by decide) rfl) rfl (by decide), bind_s, rpI (sN_at (by decide) (by decide) rfl) rfl (by decide), bind_s]
  rw [show hpZ ((sN L 42, (42, m), up2 (up2 (up2 (up2 mi 41 33 1) 41 34 0) 41 35 0) 41 36 0, Z0, mr) : Hp) 41 37 0 = some (sN L 42, (42, m), up2 (up2 (up2 (up2 (up2 mi 41 33 1) 41 34 0) 41 35 0) 41 36 0) 41 37 0, Z0, mr) from rpZ (b := false) (sN_at (by decide) (by decide) rfl) rfl (by decide), bind_s, rpR (sN_at (by decide) (by decide) rfl) rfl, bind_s, rpI (sN_at (by decide) (by decide) rfl) rfl (by decide), bind_s]
theorem sR8 {L : Nat} (n : Nat) (hn : n ≤ 142) : ∀ r, r < 8 → 42 + 9 * r + 9 ≤ n → ∀ i, i < 9 → sN L n (42 + 9 * r + i) = [(7, 12), (23, 24), (20, 24), (26, 2), (21, 36), (21, 36), (20, 2), (21, 5), (21, 5)].getD i (0, 0) := by
  have k : ∀ r, r < 8 → ∀ i, i < 9 → SAL.getD (42 + 9 * r + i) (0, 0) = [(7, 12), (23, 24), (20, 24), (26, 2), (21, 36), (21, 36), (20, 2), (21, 5), (21, 5)].getD i (0, 0) := by decide
  intro r hr h i hi
  exact sN_at (by omega) (by omega) (k r hr i hi)
