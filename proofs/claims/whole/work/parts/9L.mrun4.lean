/-! the model: runs: CALL -/
theorem m174c {G : AG} (hG : FIX G) {s : Nat → Nat × Nat} {mr : Nat → Nat → Nat} (hM : MS s mr) {n : Nat × Nat} {Q : Pg} {w t r p x0 x1 sp k : Nat} {z a1 a2 a3 : Int32} {L : List En} {R : List Fr} {mi : Nat → Nat → Int32} {ml : Nat → Nat → Int64} {o6 o7 o8 o9 : Option AV} (hW : WP Q) (hD : mdQ Q mi) (hI : IA Q t ((r, p, x0, x1, L) :: R, sp, k, z)) (hR : RMd Q w mi ml ((r, p, x0, x1, L) :: R, sp, k, z)) (hp : p < qn Q r) (hk : qk Q r p = 4) :
    PM G s n mr a1 a2 a3 Q w mi ml (G 174 41 [some (.inr (.inr 114)), some (.inl a1), some (.inl a2), some (.inl a3), some (.inl (zi w)), some (.inl (zi r)), o6, o7, o8, o9] [] (s, n, mi, ml, mr)) (stA Q w ((r, p, x0, x1, L) :: R, sp, k, z)) := by
  have hB := IA_b hI
  have hle := bse_le hW hI.1
  have hFs := hI.1
  obtain ⟨⟨⟨i1, i2, i3, i4, i5⟩, i6, i7⟩, -, j1, j2, jX, j4, j5, jE, j6⟩ := hI
  obtain ⟨⟨g76, g77, g57, g78, g79, g80, g81, g83⟩, f1, f2, f3⟩ := hR
  have j1' : k ≤ 20000 := j1
  have hn24 : qn Q r ≤ 24 := hW.2.1 r
  have hWF := hW.2.2.2.1 r
  have hl3 := lps_3 (WF_le hWF i3)
  have hnil := whl_nil hW i1 i2
  have h115 := hD.2.1 r i1
  obtain ⟨h116, h117, h118, h119⟩ := hD.2.2 r p i1 hp
  have hb12 : Nat.beq (s 114).1 12 = true := by rw [km hM]; rfl
  have ix : (24 : Int32) * zi r + zi (qn Q r) = zi (24 * r + qn Q r) := by rw [show (24 : Int32) = zi 24 from rfl, zi_mul, zi_add]
  obtain ⟨h, hh⟩ : ∃ h, h = bse Q R + (stk (qk Q r) p).length := ⟨_, rfl⟩
  rw [← hh] at g83 hle
  obtain ⟨l, hl⟩ : ∃ l, l = lps (stk (qk Q r) p) := ⟨_, rfl⟩
  rw [← hl] at g81 hl3 f1
  have hd := hW.2.2.2.2.2.1 r p hp hk
  have h118' := h118 hk
  obtain ⟨v1, hv1⟩ : ∃ v, v = exv (qt Q r p) x0 x1 (cf (stk (qk Q r) p) L) := ⟨_, rfl⟩
  obtain ⟨v2, hv2⟩ : ∃ v, v = exv (fun q => qt Q r p (6 + q)) x0 x1 (cf (stk (qk Q r) p) L) := ⟨_, rfl⟩
  rw [stA_4 hp hk, ← hv1, ← hv2]
  have s867 : G 174 41 [some (Sum.inr (Sum.inr 114)), some (Sum.inl a1), some (Sum.inl a2), some (Sum.inl a3), some (Sum.inl (zi w)), some (Sum.inl (zi r)), o6, o7, o8, o9] [] (s, n, mi, ml, mr) = G 174 867 [some (Sum.inr (Sum.inr 114)), some (Sum.inl a1), some (Sum.inl a2), some (Sum.inl a3), some (Sum.inl (zi w)), some (Sum.inl (zi r)), some (Sum.inl (zi (24 * r + p))), o7, o8, o9] [] (s, n, mi, ml, mr) := by
    refine (b174_41 hG ..).trans ?_
    rw [gm78 hM, bind_s, g78, gm51 hM, bind_s, am115 hM i1, bind_s, h115, ix, decide_eq_true (by rw [zi_lt (by omega) (by omega)]; omega : zi (24 * r + p) < zi (24 * r + qn Q r)), cnd_t]
    refine (b174_68 hG ..).trans ?_
    rw [gm78 hM, bind_s, g78, gm51 hM, bind_s, am115 hM i1, bind_s, h115, ix, show decide (zi (24 * r + p) ≠ zi (24 * r + qn Q r)) = true from decide_eq_true (by rw [zi_ne (by omega) (by omega)]; omega), cnd_t, bind_s, gm52 hM, bind_s, am116 hM (by omega), bind_s, h116, hk, show decide (zi 4 = Int32.ofInt 1) = false from by decide, cnd_f, show decide (zi 4 = Int32.ofInt (1 + 1)) = false from by decide, cnd_f, show decide (zi 4 = Int32.ofInt ((1 + 1) + 1)) = false from by decide, cnd_f, show decide (zi 4 = Int32.ofInt (((1 + 1) + 1) + 1)) = true from by decide, cnd_t]
  rw [s867]
  by_cases hk2 : k = 20000
  · rw [if_pos hk2]
    rw [hk2] at g76
    refine ⟨up2 mi 114 76 (zi 20001), ml, ?_, by simp only [up2_ap]; exact g57, MRf_f (by decide)⟩
    refine (b174_867 hG ..).trans ?_
    rw [hb12, cnd_t, m177_f hG hM g76, bind_s, as_I, bind_s, show decide (bz false ≠ 0) = false from rfl, cnd_f]
  rw [if_neg hk2]
  obtain ⟨m1, hm1⟩ : ∃ m, m = up2 mi 114 76 (zi (k + 1)) := ⟨_, rfl⟩
  obtain ⟨m2, hm2⟩ : ∃ m, m = up2 m1 136 h (zi (24 * r + p)) := ⟨_, rfl⟩
  obtain ⟨m3, hm3⟩ : ∃ m, m = up2 m2 141 (7 * h) (zi x0) := ⟨_, rfl⟩
  obtain ⟨m4, hm4⟩ : ∃ m, m = up2 m3 141 (7 * h + 1) (zi x1) := ⟨_, rfl⟩
  obtain ⟨m5, hm5⟩ : ∃ m, m = up2 m4 141 (7 * h + 2) (zi l) := ⟨_, rfl⟩
  obtain ⟨m6, hm6⟩ : ∃ m, m = up2 m5 141 (7 * h + 3 + 0) (mi 135 0) := ⟨_, rfl⟩
  obtain ⟨m7, hm7⟩ : ∃ m, m = up2 m6 141 (7 * h + 3 + 1) (mi 135 1) := ⟨_, rfl⟩
  obtain ⟨m8, hm8⟩ : ∃ m, m = up2 m7 141 (7 * h + 3 + 2) (mi 135 2) := ⟨_, rfl⟩
  obtain ⟨m9, hm9⟩ : ∃ m, m = up2 m8 114 83 (zi (h + 1)) := ⟨_, rfl⟩
  obtain ⟨m10, hm10⟩ : ∃ m, m = up2 m9 114 78 (zi (24 * qd Q r p)) := ⟨_, rfl⟩
  obtain ⟨m11, hm11⟩ : ∃ m, m = up2 m10 114 79 (zi v1) := ⟨_, rfl⟩
  obtain ⟨m12, hm12⟩ : ∃ m, m = up2 m11 114 80 (zi v2) := ⟨_, rfl⟩
  obtain ⟨m13, hm13⟩ : ∃ m, m = up2 m12 114 81 (zi 0) := ⟨_, rfl⟩
  have fr1 : MRf mi m1 ml (up2 ml 114 77 (zl (sp + (sbe (stk (qk Q r) p) L + bsf Q R) + 1))) := by rw [hm1]; exact MRf_trans (MRf_f (by decide)) (MRf_l (Or.inl rfl))
  have hD1 := mdQ_MR hD fr1
  have b79 : m1 114 79 = zi x0 := by rw [hm1, up2_s, up1_n _ _ (by decide)]; exact g79
  have b80 : m1 114 80 = zi x1 := by rw [hm1, up2_s, up1_n _ _ (by decide)]; exact g80
  have b81 : m1 114 81 = zi l := by rw [hm1, up2_s, up1_n _ _ (by decide)]; exact g81
  have b83 : m1 114 83 = zi h := by rw [hm1, up2_s, up1_n _ _ (by decide)]; exact g83
  have b135 : m1 135 = mi 135 := by rw [hm1, up2_n _ _ (by decide)]
  have e1 := m175 hG hM (n := n) (ml := (up2 ml 114 77 (zl (sp + (sbe (stk (qk Q r) p) L + bsf Q R) + 1)))) (sd := 0) (c := cf (stk (qk Q r) p) L) hD1 hW i1 hp (by decide) b79 b80 b81 hl3 (fun j hj => by rw [b135]; exact f1 j hj) (fun j hj => cf_hi (stk_b _ _) (by omega))
  rw [show (fun q => qt Q r p (6 * 0 + q)) = qt Q r p from funext fun q => by rw [Nat.mul_zero, Nat.zero_add], ← hv1] at e1
  have e2 := m175 hG hM (n := n) (ml := (up2 ml 114 77 (zl (sp + (sbe (stk (qk Q r) p) L + bsf Q R) + 1)))) (sd := 1) (c := cf (stk (qk Q r) p) L) hD1 hW i1 hp (by decide) b79 b80 b81 hl3 (fun j hj => by rw [b135]; exact f1 j hj) (fun j hj => cf_hi (stk_b _ _) (by omega))
  rw [show (fun q => qt Q r p (6 * 1 + q)) = (fun q => qt Q r p (6 + q)) from rfl, ← hv2] at e2
  have c83 : m2 114 83 = zi h := by rw [hm2, up2_n _ _ (by decide), hm1, up2_s, up1_n _ _ (by decide)]; exact g83
  have c79 : m2 114 79 = zi x0 := by rw [hm2, up2_n _ _ (by decide), hm1, up2_s, up1_n _ _ (by decide)]; exact g79
  have d83 : m3 114 83 = zi h := by rw [hm3, up2_n _ _ (by decide), hm2, up2_n _ _ (by decide), hm1, up2_s, up1_n _ _ (by decide)]; exact g83
  have d80 : m3 114 80 = zi x1 := by rw [hm3, up2_n _ _ (by decide), hm2, up2_n _ _ (by decide), hm1, up2_s, up1_n _ _ (by decide)]; exact g80
  have e83 : m4 114 83 = zi h := by rw [hm4, up2_n _ _ (by decide), hm3, up2_n _ _ (by decide), hm2, up2_n _ _ (by decide), hm1, up2_s, up1_n _ _ (by decide)]; exact g83
  have e81 : m4 114 81 = zi l := by rw [hm4, up2_n _ _ (by decide), hm3, up2_n _ _ (by decide), hm2, up2_n _ _ (by decide), hm1, up2_s, up1_n _ _ (by decide)]; exact g81
  have f83 : m5 114 83 = zi h := by rw [hm5, up2_n _ _ (by decide), hm4, up2_n _ _ (by decide), hm3, up2_n _ _ (by decide), hm2, up2_n _ _ (by decide), hm1, up2_s, up1_n _ _ (by decide)]; exact g83
  have g83b : m6 114 83 = zi h := by rw [hm6, up2_n _ _ (by decide), hm5, up2_n _ _ (by decide), hm4, up2_n _ _ (by decide), hm3, up2_n _ _ (by decide), hm2, up2_n _ _ (by decide), hm1, up2_s, up1_n _ _ (by decide)]; exact g83
  have h83 : m7 114 83 = zi h := by rw [hm7, up2_n _ _ (by decide), hm6, up2_n _ _ (by decide), hm5, up2_n _ _ (by decide), hm4, up2_n _ _ (by decide), hm3, up2_n _ _ (by decide), hm2, up2_n _ _ (by decide), hm1, up2_s, up1_n _ _ (by decide)]; exact g83
  have k83 : m8 114 83 = zi h := by rw [hm8, up2_n _ _ (by decide), hm7, up2_n _ _ (by decide), hm6, up2_n _ _ (by decide), hm5, up2_n _ _ (by decide), hm4, up2_n _ _ (by decide), hm3, up2_n _ _ (by decide), hm2, up2_n _ _ (by decide), hm1, up2_s, up1_n _ _ (by decide)]; exact g83
  have z5 : m5 135 0 = mi 135 0 := by rw [hm5, up2_n _ _ (by decide), hm4, up2_n _ _ (by decide), hm3, up2_n _ _ (by decide), hm2, up2_n _ _ (by decide), hm1, up2_n _ _ (by decide)]
  have z6 : m6 135 1 = mi 135 1 := by rw [hm6, up2_n _ _ (by decide), hm5, up2_n _ _ (by decide), hm4, up2_n _ _ (by decide), hm3, up2_n _ _ (by decide), hm2, up2_n _ _ (by decide), hm1, up2_n _ _ (by decide)]
  have z7 : m7 135 2 = mi 135 2 := by rw [hm7, up2_n _ _ (by decide), hm6, up2_n _ _ (by decide), hm5, up2_n _ _ (by decide), hm4, up2_n _ _ (by decide), hm3, up2_n _ _ (by decide), hm2, up2_n _ _ (by decide), hm1, up2_n _ _ (by decide)]
  have w118 : m9 118 (24 * r + p) = zi (qd Q r p) := by rw [hm9, up2_n _ _ (by decide), hm8, up2_n _ _ (by decide), hm7, up2_n _ _ (by decide), hm6, up2_n _ _ (by decide), hm5, up2_n _ _ (by decide), hm4, up2_n _ _ (by decide), hm3, up2_n _ _ (by decide), hm2, up2_n _ _ (by decide), hm1, up2_n _ _ (by decide)]; exact h118 hk
  have nx : ∀ (m : Nat → Nat → Int32) (j : Nat), j < 3 → m 114 83 = zi h → G 174 972 [some (Sum.inr (Sum.inr 114)), some (Sum.inl a1), some (Sum.inl a2), some (Sum.inl a3), some (Sum.inl (zi w)), some (Sum.inl (zi r)), some (Sum.inl (zi (24 * r + p))), some (Sum.inl (zi v1)), some (Sum.inl (zi v2)), some (Sum.inl (zi j))] [] (s, n, m, (up2 ml 114 77 (zl (sp + (sbe (stk (qk Q r) p) L + bsf Q R) + 1))), mr) = G 174 972 [some (Sum.inr (Sum.inr 114)), some (Sum.inl a1), some (Sum.inl a2), some (Sum.inl a3), some (Sum.inl (zi w)), some (Sum.inl (zi r)), some (Sum.inl (zi (24 * r + p))), some (Sum.inl (zi v1)), some (Sum.inl (zi v2)), some (Sum.inl (zi (j + 1)))] [] (s, n, up2 m 141 (7 * h + 3 + j) (m 135 j), (up2 ml 114 77 (zl (sp + (sbe (stk (qk Q r) p) L + bsf Q R) + 1))), mr) := by
    intro m j hj hm
    refine (b174_972 hG ..).trans ?_
    rw [decide_eq_false (by show ¬ zi 3 ≤ zi j; rw [zi_le (by omega) (by omega)]; omega : ¬ (3 : Int32) ≤ zi j), cnd_f, gm89 hM, bind_s, gm83 hM, bind_s, hm, gm82 hM, bind_s, am135 hM hj, bind_s, show (7 : Int32) * zi h = zi (7 * h) from zi_mul 7 h, show zi (7 * h) + 3 = zi (7 * h + 3) from zi_add _ 3, zi_add, wm141 hM (by omega), bind_s, show zi j + 1 = zi (j + 1) from zi_add _ 1]
  have lhs : G 174 867 [some (Sum.inr (Sum.inr 114)), some (Sum.inl a1), some (Sum.inl a2), some (Sum.inl a3), some (Sum.inl (zi w)), some (Sum.inl (zi r)), some (Sum.inl (zi (24 * r + p))), o7, o8, o9] [] (s, n, mi, ml, mr) = G 174 1056 [some (Sum.inr (Sum.inr 114)), some (Sum.inl a1), some (Sum.inl a2), some (Sum.inl a3), some (Sum.inl (zi w)), some (Sum.inl (zi (qd Q r p))), some (Sum.inl (zi (24 * r + p))), some (Sum.inl (zi v1)), some (Sum.inl (zi v2)), some (Sum.inl (zi 3))] [] (s, n, m13, (up2 ml 114 77 (zl (sp + (sbe (stk (qk Q r) p) L + bsf Q R) + 1))), mr) := by
    refine (b174_867 hG ..).trans ?_
    rw [hb12, cnd_t, m177_t hG hM g76 (by omega), bind_s, as_I, bind_s, show decide (bz true ≠ 0) = true from rfl, cnd_t, ← hm1, gm77 hM, bind_s, g77, show zl (sp + (sbe (stk (qk Q r) p) L + bsf Q R)) + 1 = zl (sp + (sbe (stk (qk Q r) p) L + bsf Q R) + 1) from zl_add _ 1, pm77 hM, bind_s, hb12, cnd_t, show (0 : Int32) = zi 0 from rfl, e1, bind_s, as_I, bind_s, hb12, cnd_t, show (1 : Int32) = zi 1 from rfl, e2, bind_s, as_I, bind_s, gm84 hM, bind_s, gm83 hM, bind_s, b83, wm136 hM (by omega), bind_s, ← hm2, gm89 hM, bind_s, gm83 hM, bind_s, c83, gm79 hM, bind_s, c79, show (7 : Int32) * zi h = zi (7 * h) from zi_mul 7 h, wm141 hM (by omega), bind_s, ← hm3, gm89 hM, bind_s, gm83 hM, bind_s, d83, gm80 hM, bind_s, d80, show (7 : Int32) * zi h = zi (7 * h) from zi_mul 7 h, zi_add, wm141 hM (by omega), bind_s, ← hm4, gm89 hM, bind_s, gm83 hM, bind_s, e83, gm81 hM, bind_s, e81, show (7 : Int32) * zi h = zi (7 * h) from zi_mul 7 h, show zi (7 * h) + 2 = zi (7 * h + 2) from zi_add _ 2, wm141 hM (by omega), bind_s, ← hm5]
    rw [nx m5 0 (by decide) f83, z5, ← hm6, nx m6 1 (by decide) g83b, z6, ← hm7, nx m7 2 (by decide) h83, z7, ← hm8]
    refine (b174_972 hG ..).trans ?_
    rw [show decide ((3 : Int32) ≤ zi (2 + 1)) = true from by decide, cnd_t, gm83 hM, bind_s, k83, show zi h + 1 = zi (h + 1) from zi_add _ 1, pm83 hM, bind_s, ← hm9, gm54 hM, bind_s, am118 hM (by omega), bind_s, w118, show (24 : Int32) * zi (qd Q r p) = zi (24 * qd Q r p) from zi_mul 24 _, pm78 hM, bind_s, ← hm10, pm79 hM, bind_s, ← hm11, pm80 hM, bind_s, ← hm12, show (0 : Int32) = zi 0 from rfl, pm81 hM, bind_s, ← hm13]
  have ag : AGr h mi m13 ml (up2 ml 114 77 (zl (sp + (sbe (stk (qk Q r) p) L + bsf Q R) + 1))) := by
    rw [hm13, hm12, hm11, hm10, hm9, hm8, hm7, hm6, hm5, hm4, hm3, hm2, hm1]
    refine ⟨fun i hi => ?_, fun i hi => ?_⟩
    · refine ⟨?_, ?_, ?_, ?_, ?_⟩
      · rw [up2_n _ _ (by decide), up2_n _ _ (by decide), up2_n _ _ (by decide), up2_n _ _ (by decide), up2_n _ _ (by decide), up2_n _ _ (by decide), up2_n _ _ (by decide), up2_n _ _ (by decide), up2_n _ _ (by decide), up2_n _ _ (by decide), up2_n _ _ (by decide), up2_s, up1_n _ _ (by omega), up2_n _ _ (by decide)]
      · repeat rw [up2_n _ _ (by decide)]
      · repeat rw [up2_n _ _ (by decide)]
      · rw [up2_n _ _ (by decide)]
      · rw [up2_n _ _ (by decide)]
    · rw [up2_n _ _ (by decide), up2_n _ _ (by decide), up2_n _ _ (by decide), up2_n _ _ (by decide), up2_n _ _ (by decide), up2_s, up1_n _ _ (by omega), up2_s, up1_n _ _ (by omega), up2_s, up1_n _ _ (by omega), up2_s, up1_n _ _ (by omega), up2_s, up1_n _ _ (by omega), up2_s, up1_n _ _ (by omega), up2_n _ _ (by decide), up2_n _ _ (by decide)]
  refine ⟨m13, (up2 ml 114 77 (zl (sp + (sbe (stk (qk Q r) p) L + bsf Q R) + 1))), zi (24 * r + p), some (.inl (zi v1)), some (.inl (zi v2)), some (.inl (zi 3)), lhs.trans (b174_1056 hG ..), ?_, ?_⟩
  · have hb : bse Q ((r, p, x0, x1, L) :: R) = h + 1 := by rw [hh]; rfl
    refine ⟨⟨by rw [hm13, up2_s, up1_n _ _ (by decide), hm12, up2_s, up1_n _ _ (by decide), hm11, up2_s, up1_n _ _ (by decide), hm10, up2_s, up1_n _ _ (by decide), hm9, up2_s, up1_n _ _ (by decide), hm8, up2_n _ _ (by decide), hm7, up2_n _ _ (by decide), hm6, up2_n _ _ (by decide), hm5, up2_n _ _ (by decide), hm4, up2_n _ _ (by decide), hm3, up2_n _ _ (by decide), hm2, up2_n _ _ (by decide), hm1, up2_s, up1_s], ?_, by rw [hm13, up2_s, up1_n _ _ (by decide), hm12, up2_s, up1_n _ _ (by decide), hm11, up2_s, up1_n _ _ (by decide), hm10, up2_s, up1_n _ _ (by decide), hm9, up2_s, up1_n _ _ (by decide), hm8, up2_n _ _ (by decide), hm7, up2_n _ _ (by decide), hm6, up2_n _ _ (by decide), hm5, up2_n _ _ (by decide), hm4, up2_n _ _ (by decide), hm3, up2_n _ _ (by decide), hm2, up2_n _ _ (by decide), hm1, up2_s, up1_n _ _ (by decide)]; exact g57, by rw [hm13, up2_s, up1_n _ _ (by decide), hm12, up2_s, up1_n _ _ (by decide), hm11, up2_s, up1_n _ _ (by decide), hm10, up2_s, up1_s]; rfl, by rw [hm13, up2_s, up1_n _ _ (by decide), hm12, up2_s, up1_n _ _ (by decide), hm11, up2_s, up1_s], by rw [hm13, up2_s, up1_n _ _ (by decide), hm12, up2_s, up1_s], by rw [hm13, up2_s, up1_s]; rfl, ?_⟩, fun j hj => absurd hj (Nat.not_lt_zero _), by show PE _ _ _ _ _ _ [] []; unfold PE; exact trivial, PE_mv ag (by omega) f2, ⟨?_, ?_, ?_, ?_, fun j hj => ?_⟩, PFs_mv hW (AGr_le ag (by omega)) i7 (Nat.le_refl _) f3⟩
    · rw [up2_s, up1_s]
      show zl (sp + (sbe (stk (qk Q r) p) L + bsf Q R) + 1) = zl (sp + 1 + (sbe [] [] + (sbe (stk (qk Q r) p) L + bsf Q R)))
      have : sbe [] [] = 0 := by unfold sbe; rfl
      rw [this]
      congr 1
      omega
    · rw [hb]
      exact (by rw [hm13, up2_s, up1_n _ _ (by decide), hm12, up2_s, up1_n _ _ (by decide), hm11, up2_s, up1_n _ _ (by decide), hm10, up2_s, up1_n _ _ (by decide), hm9, up2_s, up1_s]; rfl)
    · rw [← hh]; exact by rw [hm13, up2_n _ _ (by decide), hm12, up2_n _ _ (by decide), hm11, up2_n _ _ (by decide), hm10, up2_n _ _ (by decide), hm9, up2_n _ _ (by decide), hm8, up2_n _ _ (by decide), hm7, up2_n _ _ (by decide), hm6, up2_n _ _ (by decide), hm5, up2_n _ _ (by decide), hm4, up2_n _ _ (by decide), hm3, up2_n _ _ (by decide), hm2, up2_s, up1_s]
    · rw [← hh]; exact (by rw [hm13, up2_n _ _ (by decide), hm12, up2_n _ _ (by decide), hm11, up2_n _ _ (by decide), hm10, up2_n _ _ (by decide), hm9, up2_n _ _ (by decide), hm8, up2_s, up1_n _ _ (by omega), hm7, up2_s, up1_n _ _ (by omega), hm6, up2_s, up1_n _ _ (by omega), hm5, up2_s, up1_n _ _ (by omega), hm4, up2_s, up1_n _ _ (by omega), hm3, up2_s, up1_s])
    · rw [← hh]; exact (by rw [hm13, up2_n _ _ (by decide), hm12, up2_n _ _ (by decide), hm11, up2_n _ _ (by decide), hm10, up2_n _ _ (by decide), hm9, up2_n _ _ (by decide), hm8, up2_s, up1_n _ _ (by omega), hm7, up2_s, up1_n _ _ (by omega), hm6, up2_s, up1_n _ _ (by omega), hm5, up2_s, up1_n _ _ (by omega), hm4, up2_s, up1_s])
    · rw [← hh, ← hl]; exact (by rw [hm13, up2_n _ _ (by decide), hm12, up2_n _ _ (by decide), hm11, up2_n _ _ (by decide), hm10, up2_n _ _ (by decide), hm9, up2_n _ _ (by decide), hm8, up2_s, up1_n _ _ (by omega), hm7, up2_s, up1_n _ _ (by omega), hm6, up2_s, up1_n _ _ (by omega), hm5, up2_s, up1_s])
    · rw [← hl] at hj
      rw [← hh, ← f1 j hj]
      have hj3 : j = 0 ∨ j = 1 ∨ j = 2 := by omega
      rcases hj3 with rfl | rfl | rfl
      · exact (by rw [hm13, up2_n _ _ (by decide), hm12, up2_n _ _ (by decide), hm11, up2_n _ _ (by decide), hm10, up2_n _ _ (by decide), hm9, up2_n _ _ (by decide), hm8, up2_s, up1_n _ _ (by omega), hm7, up2_s, up1_n _ _ (by omega), hm6, up2_s, up1_s])
      · exact (by rw [hm13, up2_n _ _ (by decide), hm12, up2_n _ _ (by decide), hm11, up2_n _ _ (by decide), hm10, up2_n _ _ (by decide), hm9, up2_n _ _ (by decide), hm8, up2_s, up1_n _ _ (by omega), hm7, up2_s, up1_s])
      · exact (by rw [hm13, up2_n _ _ (by decide), hm12, up2_n _ _ (by decide), hm11, up2_n _ _ (by decide), hm10, up2_n _ _ (by decide), hm9, up2_n _ _ (by decide), hm8, up2_s, up1_s])
  · rw [hm13, hm12, hm11, hm10, hm9, hm8, hm7, hm6, hm5, hm4, hm3, hm2, hm1]
    exact MRf_trans (MRf_trans (MRf_trans (MRf_trans (MRf_trans (MRf_trans (MRf_trans (MRf_trans (MRf_trans (MRf_trans (MRf_trans (MRf_trans (MRf_trans (MRf_f (by decide)) (MRf_a (by decide))) (MRf_a (by decide))) (MRf_a (by decide))) (MRf_a (by decide))) (MRf_a (by decide))) (MRf_a (by decide))) (MRf_a (by decide))) (MRf_f (by decide))) (MRf_f (by decide))) (MRf_f (by decide))) (MRf_f (by decide))) (MRf_f (by decide))) (MRf_l (Or.inl rfl))