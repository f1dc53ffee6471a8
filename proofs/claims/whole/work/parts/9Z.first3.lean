/-! the first state: a routine; the class whole -/
theorem z10 {G : AG} (hG : FIX G) {L m : Nat} {mi : Nat → Nat → Int32} {mr : Nat → Nat → Nat} {r : Nat} (hr8 : r < 8) (hi : Zi (42 + 9 * r) mi) (hr : Zn (42 + 9 * r) mr) : ∃ mi' mr', G 10 0 [some (.inr (.inr (42 + 9 * r))), some (.inl (zi r))] [] (sN L (43 + 9 * r), (43 + 9 * r, m), mi, Z0, mr) = some (none, (sN L (51 + 9 * r), (51 + 9 * r, m + 24 + 24 + (2 + 2 * 36) + 2 + 5 + 5), mi', Z0, mr')) ∧ (∀ a, a ≠ 42 + 9 * r → mi' a = mi a) ∧ mi' (42 + 9 * r) 21 = zi r ∧ (∀ f, f ≠ 21 → mi' (42 + 9 * r) f = 0) ∧ (∀ a, a ≠ 42 + 9 * r → a ≠ 45 + 9 * r → mr' a = mr a) ∧ (mr' (42 + 9 * r) 22 = 43 + 9 * r ∧ mr' (42 + 9 * r) 24 = 44 + 9 * r ∧ mr' (42 + 9 * r) 27 = 45 + 9 * r ∧ mr' (42 + 9 * r) 28 = 48 + 9 * r ∧ mr' (42 + 9 * r) 29 = 49 + 9 * r ∧ mr' (42 + 9 * r) 30 = 50 + 9 * r ∧ mr' (45 + 9 * r) 0 = 46 + 9 * r ∧ mr' (45 + 9 * r) 1 = 47 + 9 * r) := by
  have k : ∀ r, r < 8 → SAL.getD (42 + 9 * r) (0, 0) = (7, 12) ∧ SAL.getD (43 + 9 * r) (0, 0) = (23, 24) ∧ SAL.getD (44 + 9 * r) (0, 0) = (20, 24) ∧ SAL.getD (45 + 9 * r) (0, 0) = (26, 2) ∧ SAL.getD (46 + 9 * r) (0, 0) = (21, 36) ∧ SAL.getD (47 + 9 * r) (0, 0) = (21, 36) ∧ SAL.getD (48 + 9 * r) (0, 0) = (20, 2) ∧ SAL.getD (49 + 9 * r) (0, 0) = (21, 5) ∧ SAL.getD (50 + 9 * r) (0, 0) = (21, 5) := by decide
  obtain ⟨k0, k1, k2, k3, k4, k5, k6, k7, k8⟩ := k r hr8
  obtain ⟨o, ho⟩ : ∃ o, o = 42 + 9 * r := ⟨_, rfl⟩
  have so : ∀ n, o < n → sN L n o = (7, 12) := fun n hn => sN_at hn (by omega) (by rw [ho]; exact k0)
  rw [← ho] at hi hr
  have z : ∀ f, mi o f = 0 := fun f => by rw [hi o (Nat.le_refl _)]
  rw [show 43 + 9 * r = o + 1 by omega] at k1 ⊢
  rw [show 44 + 9 * r = o + 2 by omega] at k2 ⊢
  rw [show 45 + 9 * r = o + 3 by omega] at k3 ⊢
  rw [show 46 + 9 * r = o + 4 by omega] at k4 ⊢
  rw [show 47 + 9 * r = o + 5 by omega] at k5 ⊢
  rw [show 48 + 9 * r = o + 6 by omega] at k6 ⊢
  rw [show 49 + 9 * r = o + 7 by omega] at k7 ⊢
  rw [show 50 + 9 * r = o + 8 by omega] at k8 ⊢
  rw [show 51 + 9 * r = o + 9 by omega, ← ho]
  obtain ⟨r1, hr1⟩ : ∃ x, x = up2 mr o 22 (o + 1) := ⟨_, rfl⟩
  obtain ⟨r2, hr2⟩ : ∃ x, x = up2 r1 o 24 (o + 2) := ⟨_, rfl⟩
  obtain ⟨r3, hr3⟩ : ∃ x, x = up1 r2 (o + 3) (fun j => if j < 2 then o + 3 + 1 + j else 0) := ⟨_, rfl⟩
  obtain ⟨r4, hr4⟩ : ∃ x, x = up2 r3 o 27 (o + 3) := ⟨_, rfl⟩
  obtain ⟨r5, hr5⟩ : ∃ x, x = up2 r4 o 28 (o + 6) := ⟨_, rfl⟩
  obtain ⟨r6, hr6⟩ : ∃ x, x = up2 r5 o 29 (o + 7) := ⟨_, rfl⟩
  obtain ⟨r7, hr7⟩ : ∃ x, x = up2 r6 o 30 (o + 8) := ⟨_, rfl⟩
  obtain ⟨r8, hr8'⟩ : ∃ x, x = up2 r7 o 31 0 := ⟨_, rfl⟩
  obtain ⟨m1, hm1⟩ : ∃ x, x = up2 mi o 23 (0 : Int32) := ⟨_, rfl⟩
  obtain ⟨m2, hm2⟩ : ∃ x, x = up2 m1 o 25 (0 : Int32) := ⟨_, rfl⟩
  obtain ⟨m3, hm3⟩ : ∃ x, x = up2 m2 o 26 (0 : Int32) := ⟨_, rfl⟩
  obtain ⟨m4, hm4⟩ : ∃ x, x = up2 m3 o 32 (0 : Int32) := ⟨_, rfl⟩
  obtain ⟨m5, hm5⟩ : ∃ x, x = up2 m4 o 21 (zi r) := ⟨_, rfl⟩
  have zi1 : Zi (o + 1) mi := Zi_le hi (by omega)
  have zr1 : Zn (o + 1) mr := Zn_le hr (by omega)
  have zr2 : Zn (o + 2) r1 := by rw [hr1]; exact Zn_up (Zn_le hr (by omega)) (by omega)
  have zi2 : Zi (o + 2) m1 := by rw [hm1]; exact Zi_up (Zi_le hi (by omega)) (by omega)
  have zr3 : Zn (o + 3) r2 := by rw [hr2]; exact Zn_up (Zn_le zr2 (by omega)) (by omega)
  have zi3 : Zi (o + 3) m3 := by rw [hm3, hm2]; exact Zi_up (Zi_up (Zi_le zi2 (by omega)) (by omega)) (by omega)
  have zr6 : Zn (o + 6) r4 := by
    rw [hr4, hr3]
    exact fun b hb => by rw [up2_n _ _ (by omega), up1_n _ _ (by omega)]; exact zr3 b (by omega)
  have zr7 : Zn (o + 7) r5 := by rw [hr5]; exact Zn_up (Zn_le zr6 (by omega)) (by omega)
  have zr8 : Zn (o + 8) r6 := by rw [hr6]; exact Zn_up (Zn_le zr7 (by omega)) (by omega)
  refine ⟨m5, r8, ?_, ?_, ?_, ?_, ?_, ?_⟩
  · refine (b10_0 hG ..).trans ?_
    rw [show (Nat.beq o 0 || false) = false from by rw [nbeq_f (by omega)]; rfl, cnd_f, bind_s]
    show Option.bind (hNa ((sN L (o + 1), (o + 1, m), mi, Z0, mr) : Hp) 23 24) _ = _
    rw [naE (l := 24) (by omega) zi1 zr1 k1 rfl rfl, bind_s, rpR (so _ (by omega)) rfl, bind_s]
    rw [show up2 mr o 22 ((sN L (o + 1), (o + 1, m), mi, Z0, mr) : Hp).2.1.1 = r1 from hr1.symm]
    rw [rpI (so _ (by omega)) rfl (by omega), bind_s, ← hm1]
    rw [show o + 1 + 1 = o + 2 from rfl, naE (n := o + 2) (l := 24) (by omega) zi2 zr2 k2 rfl rfl, bind_s, rpR (so _ (by omega)) rfl, bind_s]
    rw [show up2 r1 o 24 ((sN L (o + 2), (o + 2, m + 24), m1, Z0, r1) : Hp).2.1.1 = r2 from hr2.symm]
    rw [rpI (so _ (by omega)) rfl (by omega), bind_s, ← hm2, rpI (so _ (by omega)) rfl (by omega), bind_s, ← hm3, show o + 2 + 1 = o + 3 from rfl]
    rw [show (Nat.ble 4 ((sN L (o + 3), (o + 3, m + 24 + 24), m3, Z0, r2) : Hp).2.1.1 && (decide ((0 : Int32) ≤ 2) && (decide ((0 : Int32) ≤ 36) && (Nat.ble (2 : Int32).toNatClampNeg 10000 && Nat.ble (36 : Int32).toNatClampNeg 10000)))) = true from by
      rw [show Nat.ble 4 ((sN L (o + 3), (o + 3, m + 24 + 24), m3, Z0, r2) : Hp).2.1.1 = true from Nat.ble_eq_true_of_le (by show 4 ≤ o + 3; omega)]
      rfl, cnd_t, bind_s, show (2 : Int32).toNatClampNeg = 2 from rfl, show (36 : Int32).toNatClampNeg = 36 from rfl]
    rw [muE (n := o + 3) (kO := 26) (kI := 21) (N := 2) (K := 36) (by omega) zi3 zr3 k3 (fun j h1 h5 => by
      have h5 : j = 1 ∨ j = 2 := by omega
      rcases h5 with rfl | rfl
      · exact k4
      · exact k5)]
    rw [← hr3, show o + 3 + (1 + 2) = o + 6 from rfl, rpR (so _ (by omega)) rfl, bind_s]
    rw [show up2 r3 o 27 ((sN L (o + 3), (o + 3, m + 24 + 24), m3, Z0, r2) : Hp).2.1.1 = r4 from hr4.symm]
    rw [naE (n := o + 6) (l := 2) (by omega) (Zi_le zi3 (by omega)) zr6 k6 rfl rfl, bind_s, rpR (so _ (by omega)) rfl, bind_s]
    rw [show up2 r4 o 28 ((sN L (o + 6), (o + 6, m + 24 + 24 + (2 + 2 * 36)), m3, Z0, r4) : Hp).2.1.1 = r5 from hr5.symm]
    rw [show o + 6 + 1 = o + 7 from rfl, naE (n := o + 7) (l := 5) (by omega) (Zi_le zi3 (by omega)) zr7 k7 rfl rfl, bind_s, rpR (so _ (by omega)) rfl, bind_s]
    rw [show up2 r5 o 29 ((sN L (o + 7), (o + 7, m + 24 + 24 + (2 + 2 * 36) + 2), m3, Z0, r5) : Hp).2.1.1 = r6 from hr6.symm]
    rw [show o + 7 + 1 = o + 8 from rfl, naE (n := o + 8) (l := 5) (by omega) (Zi_le zi3 (by omega)) zr8 k8 rfl rfl, bind_s, rpR (so _ (by omega)) rfl, bind_s]
    rw [show up2 r6 o 30 ((sN L (o + 8), (o + 8, m + 24 + 24 + (2 + 2 * 36) + 2 + 5), m3, Z0, r6) : Hp).2.1.1 = r7 from hr7.symm]
    rw [rpR (so _ (by omega)) rfl, bind_s, ← hr8', rpI (so _ (by omega)) rfl (by omega), bind_s, ← hm4, rpI (so _ (by omega)) rfl (by omega), bind_s, ← hm5]
  · intro a ha
    rw [hm5, hm4, hm3, hm2, hm1, up2_n _ _ ha, up2_n _ _ ha, up2_n _ _ ha, up2_n _ _ ha, up2_n _ _ ha]
  · rw [hm5, up2_s, up1_s]
  · intro f hf
    rw [hm5, up2_s, up1_n _ _ hf, hm4, hm3, hm2, hm1]
    simp only [up2_ap]
    simp only [if_true, z, ite_self]
  · intro a h1 h2
    rw [hr8', hr7, hr6, hr5, hr4, up2_n _ _ h1, up2_n _ _ h1, up2_n _ _ h1, up2_n _ _ h1, up2_n _ _ h1, hr3, up1_n _ _ (by omega), hr2, hr1, up2_n _ _ h1, up2_n _ _ h1]
  · refine ⟨?_, ?_, ?_, ?_, ?_, ?_, ?_, ?_⟩
    · rw [hr8', up2_s, up1_n _ _ (by decide), hr7, up2_s, up1_n _ _ (by decide), hr6, up2_s, up1_n _ _ (by decide), hr5, up2_s, up1_n _ _ (by decide), hr4, up2_s, up1_n _ _ (by decide), hr3, up1_n _ _ (by omega), hr2, up2_s, up1_n _ _ (by decide), hr1, up2_s, up1_s]
    · rw [hr8', up2_s, up1_n _ _ (by decide), hr7, up2_s, up1_n _ _ (by decide), hr6, up2_s, up1_n _ _ (by decide), hr5, up2_s, up1_n _ _ (by decide), hr4, up2_s, up1_n _ _ (by decide), hr3, up1_n _ _ (by omega), hr2, up2_s, up1_s]
    · rw [hr8', up2_s, up1_n _ _ (by decide), hr7, up2_s, up1_n _ _ (by decide), hr6, up2_s, up1_n _ _ (by decide), hr5, up2_s, up1_n _ _ (by decide), hr4, up2_s, up1_s]
    · rw [hr8', up2_s, up1_n _ _ (by decide), hr7, up2_s, up1_n _ _ (by decide), hr6, up2_s, up1_n _ _ (by decide), hr5, up2_s, up1_s]
    · rw [hr8', up2_s, up1_n _ _ (by decide), hr7, up2_s, up1_n _ _ (by decide), hr6, up2_s, up1_s]
    · rw [hr8', up2_s, up1_n _ _ (by decide), hr7, up2_s, up1_s]
    · rw [hr8', hr7, hr6, hr5, hr4, up2_n _ _ (by omega), up2_n _ _ (by omega), up2_n _ _ (by omega), up2_n _ _ (by omega), up2_n _ _ (by omega), hr3, up1_s]
      rfl
    · rw [hr8', hr7, hr6, hr5, hr4, up2_n _ _ (by omega), up2_n _ _ (by omega), up2_n _ _ (by omega), up2_n _ _ (by omega), up2_n _ _ (by omega), hr3, up1_s]
      rfl