/-! the model: runs: END, OR, DONE -/
theorem m174d {G : AG} (hG : FIX G) {s : Nat → Nat × Nat} {mr : Nat → Nat → Nat} (hM : MS s mr) {n : Nat × Nat} {Q : Pg} {w t r p x0 x1 sp k : Nat} {z a1 a2 a3 : Int32} {c : En} {L : List En} {R : List Fr} {mi : Nat → Nat → Int32} {ml : Nat → Nat → Int64} {o6 o7 o8 o9 : Option AV} (hW : WP Q) (hD : mdQ Q mi) (hI : IA Q t ((r, p, x0, x1, c :: L) :: R, sp, k, z)) (hR : RMd Q w mi ml ((r, p, x0, x1, c :: L) :: R, sp, k, z)) (hp : p < qn Q r) (hk : qk Q r p = 6) :
    PM G s n mr a1 a2 a3 Q w mi ml (G 174 41 [some (.inr (.inr 114)), some (.inl a1), some (.inl a2), some (.inl a3), some (.inl (zi w)), some (.inl (zi r)), o6, o7, o8, o9] [] (s, n, mi, ml, mr)) (stA Q w ((r, p, x0, x1, c :: L) :: R, sp, k, z)) := by
  have hB := IA_b hI
  have hle := bse_le hW hI.1
  have hFs := hI.1
  obtain ⟨⟨⟨i1, i2, i3, i4, i5⟩, i6, i7⟩, -, j1, j2, jX, j4, j5, jE, j6⟩ := hI
  obtain ⟨⟨g76, g77, g57, g78, g79, g80, g81, g83⟩, f1, f2, f3⟩ := hR
  have j1' : k ≤ 20000 := j1
  have hn24 : qn Q r ≤ 24 := hW.2.1 r
  have hWF := hW.2.2.2.1 r
  have hl3 := lps_3 (WF_le hWF i3)
  have hnil := whl_nil hW i1 i2
  have h115 := hD.2.1 r i1
  obtain ⟨h116, h117, h118, h119⟩ := hD.2.2 r p i1 hp
  have hb12 : Nat.beq (s 114).1 12 = true := by rw [km hM]; rfl
  have ix : (24 : Int32) * zi r + zi (qn Q r) = zi (24 * r + qn Q r) := by rw [show (24 : Int32) = zi 24 from rfl, zi_mul, zi_add]
  obtain ⟨q, hq⟩ : ∃ q, q = hdp (stk (qk Q r) p) := ⟨_, rfl⟩
  obtain ⟨s1, s2, s3, s4⟩ := st_end hWF hp hk hq.symm
  obtain ⟨h, hh⟩ : ∃ h, h = bse Q R + (stk (qk Q r) q).length := ⟨_, rfl⟩
  have hsub : zi (h + 1) - 1 = zi h := by rw [show (1 : Int32) = zi 1 from rfl, zi_sub (by omega), Nat.add_sub_cancel]
  rw [s1] at g77 g81 g83 f1 f2 i5 hl3 hle
  rw [sbe_0] at g77
  rw [lps_0] at g81 hl3
  rw [LI_0] at i5
  rw [List.length_cons, ← Nat.add_assoc, ← hh] at g83 hle
  rw [PE_0, ← hh] at f2
  obtain ⟨⟨p136, p137, p138⟩, f2⟩ := f2
  rw [stA_6 hp hk, ← hq]
  have ps : G 174 41 [some (Sum.inr (Sum.inr 114)), some (Sum.inl a1), some (Sum.inl a2), some (Sum.inl a3), some (Sum.inl (zi w)), some (Sum.inl (zi r)), o6, o7, o8, o9] [] (s, n, mi, ml, mr) = (bif decide (zi c.2 ≤ zi c.1) then (hgI ((s, n, mi, ml, mr) : Hp) 114 83).bind fun i36 => (hpI ((s, n, mi, ml, mr) : Hp) 114 83 (i36 - 1)).bind fun H37 => (hgI H37 114 81).bind fun i38 => (hpI H37 114 81 (i38 - 1)).bind fun H39 => (hgI H39 114 78).bind fun i40 => (hpI H39 114 78 (i40 + 1)).bind fun H41 => G 174 1056 [some (Sum.inr (Sum.inr 114)), some (Sum.inl a1), some (Sum.inl a2), some (Sum.inl a3), some (Sum.inl (zi w)), some (Sum.inl (zi r)), some (Sum.inl (zi (24 * r + p))), o7, o8, o9] [] H41 else G 174 41 [some (Sum.inr (Sum.inr 114)), some (Sum.inl a1), some (Sum.inl a2), some (Sum.inl a3), some (Sum.inl (zi w)), some (Sum.inl (zi r)), o6, o7, o8, o9] [] (s, n, mi, ml, mr)) := by
    by_cases hcc : c.2 ≤ c.1
    · rw [show decide (zi c.2 ≤ zi c.1) = true from decide_eq_true (by rw [zi_le (by omega) (by omega)]; exact hcc), cnd_t]
      refine (b174_41 hG ..).trans ?_
      rw [gm78 hM, bind_s, g78, gm51 hM, bind_s, am115 hM i1, bind_s, h115, ix, decide_eq_true (by rw [zi_lt (by omega) (by omega)]; omega : zi (24 * r + p) < zi (24 * r + qn Q r)), cnd_t]
      refine (b174_68 hG ..).trans ?_
      rw [gm78 hM, bind_s, g78, gm51 hM, bind_s, am115 hM i1, bind_s, h115, ix, show decide (zi (24 * r + p) ≠ zi (24 * r + qn Q r)) = true from decide_eq_true (by rw [zi_ne (by omega) (by omega)]; omega), cnd_t, bind_s, gm52 hM, bind_s, am116 hM (by omega), bind_s, h116, hk, show decide (zi 6 = Int32.ofInt 1) = false from by decide, cnd_f, show decide (zi 6 = Int32.ofInt (1 + 1)) = false from by decide, cnd_f, show decide (zi 6 = Int32.ofInt ((1 + 1) + 1)) = false from by decide, cnd_f, show decide (zi 6 = Int32.ofInt (((1 + 1) + 1) + 1)) = false from by decide, cnd_f, show decide (zi 6 = Int32.ofInt ((((1 + 1) + 1) + 1) + 1)) = false from by decide, cnd_f, show decide (zi 6 = Int32.ofInt (((((1 + 1) + 1) + 1) + 1) + 1)) = true from by decide, cnd_t, gm85 hM, bind_s, gm83 hM, bind_s, g83, hsub, am137 hM (by omega), bind_s, p137, gm86 hM, bind_s, bind_s, hsub, am138 hM (by omega), bind_s, p138, show decide (zi c.2 ≤ zi c.1) = true from decide_eq_true (by rw [zi_le (by omega) (by omega)]; exact hcc), cnd_t, bind_s, hsub]
    · rw [show decide (zi c.2 ≤ zi c.1) = false from decide_eq_false (by rw [zi_le (by omega) (by omega)]; exact hcc), cnd_f]
  by_cases hcc : c.1 < c.2
  · rw [if_pos hcc]
    have cf0 : decide (zi c.2 ≤ zi c.1) = false := decide_eq_false (by rw [zi_le (by omega) (by omega)]; omega)
    by_cases hk2 : k = 20000
    · rw [if_pos hk2]
      rw [hk2] at g76
      refine ⟨up2 mi 114 76 (zi 20001), ml, ?_, by simp only [up2_ap]; exact g57, MRf_f (by decide)⟩
      refine (b174_41 hG ..).trans ?_
      rw [gm78 hM, bind_s, g78, gm51 hM, bind_s, am115 hM i1, bind_s, h115, ix, decide_eq_true (by rw [zi_lt (by omega) (by omega)]; omega : zi (24 * r + p) < zi (24 * r + qn Q r)), cnd_t]
      refine (b174_68 hG ..).trans ?_
      rw [gm78 hM, bind_s, g78, gm51 hM, bind_s, am115 hM i1, bind_s, h115, ix, show decide (zi (24 * r + p) ≠ zi (24 * r + qn Q r)) = true from decide_eq_true (by rw [zi_ne (by omega) (by omega)]; omega), cnd_t, bind_s, gm52 hM, bind_s, am116 hM (by omega), bind_s, h116, hk, show decide (zi 6 = Int32.ofInt 1) = false from by decide, cnd_f, show decide (zi 6 = Int32.ofInt (1 + 1)) = false from by decide, cnd_f, show decide (zi 6 = Int32.ofInt ((1 + 1) + 1)) = false from by decide, cnd_f, show decide (zi 6 = Int32.ofInt (((1 + 1) + 1) + 1)) = false from by decide, cnd_f, show decide (zi 6 = Int32.ofInt ((((1 + 1) + 1) + 1) + 1)) = false from by decide, cnd_f, show decide (zi 6 = Int32.ofInt (((((1 + 1) + 1) + 1) + 1) + 1)) = true from by decide, cnd_t, gm85 hM, bind_s, gm83 hM, bind_s, g83, hsub, am137 hM (by omega), bind_s, p137, gm86 hM, bind_s, bind_s, hsub, am138 hM (by omega), bind_s, p138, cf0, cnd_f, hb12, cnd_t, m177_f hG hM g76, bind_s, as_I, bind_s, show decide (bz false ≠ 0) = false from rfl, cnd_f]
    · rw [if_neg hk2]
      obtain ⟨m1, hm1⟩ : ∃ m, m = up2 mi 114 76 (zi (k + 1)) := ⟨_, rfl⟩
      obtain ⟨m2, hm2⟩ : ∃ m, m = up2 m1 137 h (zi (c.1 + 1)) := ⟨_, rfl⟩
      obtain ⟨m3, hm3⟩ : ∃ m, m = up2 m2 135 (lps (stk (qk Q r) q)) (zi (c.1 + 1)) := ⟨_, rfl⟩
      obtain ⟨m4, hm4⟩ : ∃ m, m = up2 m3 114 78 (zi (24 * r + (q + 1))) := ⟨_, rfl⟩
      have b83 : m1 114 83 = zi (h + 1) := by rw [hm1, up2_s, up1_n _ _ (by decide)]; exact g83
      have b137 : m1 137 h = zi c.1 := by rw [hm1, up2_n _ _ (by decide)]; exact p137
      have c81 : m2 114 81 = zi (1 + lps (stk (qk Q r) q)) := by rw [hm2, up2_n _ _ (by decide), hm1, up2_s, up1_n _ _ (by decide)]; exact g81
      have c83 : m2 114 83 = zi (h + 1) := by rw [hm2, up2_n _ _ (by decide), hm1, up2_s, up1_n _ _ (by decide)]; exact g83
      have c137 : m2 137 h = zi (c.1 + 1) := by rw [hm2, up2_s, up1_s]
      have d83 : m3 114 83 = zi (h + 1) := by rw [hm3, up2_n _ _ (by decide), hm2, up2_n _ _ (by decide), hm1, up2_s, up1_n _ _ (by decide)]; exact g83
      have d136 : m3 136 h = zi (24 * r + q) := by rw [hm3, up2_n _ _ (by decide), hm2, up2_n _ _ (by decide), hm1, up2_n _ _ (by decide)]; exact p136
      have lsub : zi (1 + lps (stk (qk Q r) q)) - zi 1 = zi (lps (stk (qk Q r) q)) := by rw [zi_sub (by omega), Nat.add_sub_cancel_left]
      have hsub' : zi (h + 1) - zi 1 = zi h := hsub
      have lhs : G 174 41 [some (Sum.inr (Sum.inr 114)), some (Sum.inl a1), some (Sum.inl a2), some (Sum.inl a3), some (Sum.inl (zi w)), some (Sum.inl (zi r)), o6, o7, o8, o9] [] (s, n, mi, ml, mr) = G 174 1056 [some (Sum.inr (Sum.inr 114)), some (Sum.inl a1), some (Sum.inl a2), some (Sum.inl a3), some (Sum.inl (zi w)), some (Sum.inl (zi r)), some (Sum.inl (zi (24 * r + p))), o7, o8, o9] [] (s, n, m4, (up2 ml 114 77 (zl ((sp + (sbe (stk (qk Q r) q) L + bsf Q R)) + 1))), mr) := by
        refine (b174_41 hG ..).trans ?_
        rw [gm78 hM, bind_s, g78, gm51 hM, bind_s, am115 hM i1, bind_s, h115, ix, decide_eq_true (by rw [zi_lt (by omega) (by omega)]; omega : zi (24 * r + p) < zi (24 * r + qn Q r)), cnd_t]
        refine (b174_68 hG ..).trans ?_
        rw [gm78 hM, bind_s, g78, gm51 hM, bind_s, am115 hM i1, bind_s, h115, ix, show decide (zi (24 * r + p) ≠ zi (24 * r + qn Q r)) = true from decide_eq_true (by rw [zi_ne (by omega) (by omega)]; omega), cnd_t, bind_s, gm52 hM, bind_s, am116 hM (by omega), bind_s, h116, hk, show decide (zi 6 = Int32.ofInt 1) = false from by decide, cnd_f, show decide (zi 6 = Int32.ofInt (1 + 1)) = false from by decide, cnd_f, show decide (zi 6 = Int32.ofInt ((1 + 1) + 1)) = false from by decide, cnd_f, show decide (zi 6 = Int32.ofInt (((1 + 1) + 1) + 1)) = false from by decide, cnd_f, show decide (zi 6 = Int32.ofInt ((((1 + 1) + 1) + 1) + 1)) = false from by decide, cnd_f, show decide (zi 6 = Int32.ofInt (((((1 + 1) + 1) + 1) + 1) + 1)) = true from by decide, cnd_t, gm85 hM, bind_s, gm83 hM, bind_s, g83, hsub, am137 hM (by omega), bind_s, p137, gm86 hM, bind_s, bind_s, hsub, am138 hM (by omega), bind_s, p138, cf0, cnd_f, hb12, cnd_t, m177_t hG hM g76 (by omega), bind_s, as_I, bind_s, show decide (bz true ≠ 0) = true from rfl, cnd_t, ← hm1, gm77 hM, bind_s, g77, show zl (sp + (sbe (stk (qk Q r) q) L + bsf Q R)) + 1 = zl ((sp + (sbe (stk (qk Q r) q) L + bsf Q R)) + 1) from zl_add _ 1, pm77 hM, bind_s, gm85 hM, bind_s, gm83 hM, bind_s, b83, show (1 : Int32) = zi 1 from rfl, hsub', am137 hM (by omega), bind_s, b137, zi_add, wm137 hM (by omega), bind_s, ← hm2, gm82 hM, bind_s, gm81 hM, bind_s, c81, gm85 hM, bind_s, gm83 hM, bind_s, c83, hsub', lsub, am137 hM (by omega), bind_s, c137, wm135 hM (by omega), bind_s, ← hm3, gm84 hM, bind_s, gm83 hM, bind_s, d83, hsub', am136 hM (by omega), bind_s, d136, zi_add, show 24 * r + q + 1 = 24 * r + (q + 1) by omega, pm78 hM, bind_s, ← hm4]
      have e0 : stk (qk Q r) (q + 1) = (q, 0) :: stk (qk Q r) q := by show stq (qk Q r q) q _ = _; rw [s4, stq_3]
      have ag : AGr h mi m4 ml (up2 ml 114 77 (zl ((sp + (sbe (stk (qk Q r) q) L + bsf Q R)) + 1))) := by
        rw [hm4, hm3, hm2, hm1]
        refine ⟨fun i hi => ⟨?_, ?_, ?_, ?_, ?_⟩, fun i hi => ?_⟩
        · repeat rw [up2_n _ _ (by decide)]
        · rw [up2_n _ _ (by decide), up2_n _ _ (by decide), up2_s, up1_n _ _ (by omega), up2_n _ _ (by decide)]
        · repeat rw [up2_n _ _ (by decide)]
        · repeat rw [up2_n _ _ (by decide)]
        · repeat rw [up2_n _ _ (by decide)]
        · repeat rw [up2_n _ _ (by decide)]
      refine ⟨m4, (up2 ml 114 77 (zl ((sp + (sbe (stk (qk Q r) q) L + bsf Q R)) + 1))), zi (24 * r + p), o7, o8, o9, lhs.trans (b174_1056 hG ..), ?_, ?_⟩
      · refine ⟨⟨by rw [hm4, up2_s, up1_n _ _ (by decide), hm3, up2_n _ _ (by decide), hm2, up2_n _ _ (by decide), hm1, up2_s, up1_s], ?_, by rw [hm4, up2_s, up1_n _ _ (by decide), hm3, up2_n _ _ (by decide), hm2, up2_n _ _ (by decide), hm1, up2_s, up1_n _ _ (by decide)]; exact g57, by rw [hm4, up2_s, up1_s], by rw [hm4, up2_s, up1_n _ _ (by decide), hm3, up2_n _ _ (by decide), hm2, up2_n _ _ (by decide), hm1, up2_s, up1_n _ _ (by decide)]; exact g79, by rw [hm4, up2_s, up1_n _ _ (by decide), hm3, up2_n _ _ (by decide), hm2, up2_n _ _ (by decide), hm1, up2_s, up1_n _ _ (by decide)]; exact g80, ?_, ?_⟩, fun j hj => ?_, ?_, PFs_mv hW (AGr_le ag (by omega)) i7 (Nat.le_refl _) f3⟩
        · rw [up2_s, up1_s, e0, sbe_0]
          congr 1
          omega
        · rw [e0, lps_0]; exact (by rw [hm4, up2_s, up1_n _ _ (by decide), hm3, up2_n _ _ (by decide), hm2, up2_n _ _ (by decide), hm1, up2_s, up1_n _ _ (by decide)]; exact g81)
        · rw [e0, List.length_cons, ← Nat.add_assoc, ← hh]; exact (by rw [hm4, up2_s, up1_n _ _ (by decide), hm3, up2_n _ _ (by decide), hm2, up2_n _ _ (by decide), hm1, up2_s, up1_n _ _ (by decide)]; exact g83)
        · rw [e0] at hj
          have f1' := f1 j hj
          rw [e0, cf_0, hm4, up2_n _ _ (by decide), hm3, up2_s]
          rw [cf_0] at f1'
          by_cases ej : j = lps (stk (qk Q r) q)
          · rw [ej, up1_s, if_pos rfl]
          · rw [if_neg ej] at f1'
            rw [up1_n _ _ ej, if_neg ej, hm2, up2_n _ _ (by decide), hm1, up2_n _ _ (by decide)]
            exact f1'
        · rw [e0, PE_0, ← hh]
          exact ⟨⟨by rw [hm4, up2_n _ _ (by decide), hm3, up2_n _ _ (by decide), hm2, up2_n _ _ (by decide), hm1, up2_n _ _ (by decide)]; exact p136, by rw [hm4, up2_n _ _ (by decide), hm3, up2_n _ _ (by decide), hm2, up2_s, up1_s], by rw [hm4, up2_n _ _ (by decide), hm3, up2_n _ _ (by decide), hm2, up2_n _ _ (by decide), hm1, up2_n _ _ (by decide)]; exact p138⟩, PE_mv ag (by omega) f2⟩
      · rw [hm4, hm3, hm2, hm1]
        exact MRf_trans (MRf_trans (MRf_trans (MRf_trans (MRf_f (by decide)) (MRf_a (by decide))) (MRf_a (by decide))) (MRf_f (by decide))) (MRf_l (Or.inl rfl))
  · rw [if_neg hcc]
    obtain ⟨m1, hm1⟩ : ∃ m, m = up2 mi 114 83 (zi h) := ⟨_, rfl⟩
    obtain ⟨m2, hm2⟩ : ∃ m, m = up2 m1 114 81 (zi (lps (stk (qk Q r) q))) := ⟨_, rfl⟩
    obtain ⟨m3, hm3⟩ : ∃ m, m = up2 m2 114 78 (zi (24 * r + (p + 1))) := ⟨_, rfl⟩
    have c81 : m1 114 81 = zi (1 + lps (stk (qk Q r) q)) := by rw [hm1, up2_s, up1_n _ _ (by decide)]; exact g81
    have c78 : m2 114 78 = zi (24 * r + p) := by rw [hm2, up2_s, up1_n _ _ (by decide), hm1, up2_s, up1_n _ _ (by decide)]; exact g78
    have lsub : zi (1 + lps (stk (qk Q r) q)) - 1 = zi (lps (stk (qk Q r) q)) := by rw [show (1 : Int32) = zi 1 from rfl, zi_sub (by omega), Nat.add_sub_cancel_left]
    have lhs : G 174 41 [some (Sum.inr (Sum.inr 114)), some (Sum.inl a1), some (Sum.inl a2), some (Sum.inl a3), some (Sum.inl (zi w)), some (Sum.inl (zi r)), o6, o7, o8, o9] [] (s, n, mi, ml, mr) = G 174 1056 [some (Sum.inr (Sum.inr 114)), some (Sum.inl a1), some (Sum.inl a2), some (Sum.inl a3), some (Sum.inl (zi w)), some (Sum.inl (zi r)), some (Sum.inl (zi (24 * r + p))), o7, o8, o9] [] (s, n, m3, ml, mr) := by
      rw [ps, show decide (zi c.2 ≤ zi c.1) = true from decide_eq_true (by rw [zi_le (by omega) (by omega)]; omega), cnd_t, gm83 hM, bind_s, g83, hsub, pm83 hM, bind_s, ← hm1, gm81 hM, bind_s, c81, lsub, pm81 hM, bind_s, ← hm2, gm78 hM, bind_s, c78, show zi (24 * r + p) + 1 = zi (24 * r + (p + 1)) from zi_add _ 1, pm78 hM, bind_s, ← hm3]
    have ag : ∀ m, AGr m mi m3 ml ml := fun m => AGr_o (fun a h1 h2 => by rw [hm3, hm2, hm1, up2_n _ _ (by omega), up2_n _ _ (by omega), up2_n _ _ (by omega)]) (fun _ _ _ => rfl)
    refine ⟨m3, ml, zi (24 * r + p), o7, o8, o9, lhs.trans (b174_1056 hG ..), ?_, ?_⟩
    · refine ⟨⟨by rw [hm3, up2_s, up1_n _ _ (by decide), hm2, up2_s, up1_n _ _ (by decide), hm1, up2_s, up1_n _ _ (by decide)]; exact g76, by rw [s2]; exact g77, by rw [hm3, up2_s, up1_n _ _ (by decide), hm2, up2_s, up1_n _ _ (by decide), hm1, up2_s, up1_n _ _ (by decide)]; exact g57, by rw [hm3, up2_s, up1_s], by rw [hm3, up2_s, up1_n _ _ (by decide), hm2, up2_s, up1_n _ _ (by decide), hm1, up2_s, up1_n _ _ (by decide)]; exact g79, by rw [hm3, up2_s, up1_n _ _ (by decide), hm2, up2_s, up1_n _ _ (by decide), hm1, up2_s, up1_n _ _ (by decide)]; exact g80, ?_, ?_⟩, fun j hj => ?_, ?_, PFs_mv hW (ag _) i7 (Nat.le_refl _) f3⟩
      · rw [s2]; exact (by rw [hm3, up2_s, up1_n _ _ (by decide), hm2, up2_s, up1_s])
      · rw [s2, ← hh]; exact (by rw [hm3, up2_s, up1_n _ _ (by decide), hm2, up2_s, up1_n _ _ (by decide), hm1, up2_s, up1_s])
      · rw [s2] at hj ⊢
        have f1' := f1 j (by rw [lps_0]; omega)
        rw [cf_0, if_neg (by omega)] at f1'
        rw [hm3, up2_n _ _ (by decide), hm2, up2_n _ _ (by decide), hm1, up2_n _ _ (by decide)]
        exact f1'
      · rw [s2]
        exact PE_mv (ag _) (Nat.le_refl _) f2
    · rw [hm3, hm2, hm1]
      exact MRf_trans (MRf_trans (MRf_f (by decide)) (MRf_f (by decide))) (MRf_f (by decide))
theorem m174x {G : AG} (hG : FIX G) {s : Nat → Nat × Nat} {mr : Nat → Nat → Nat} (hM : MS s mr) {n : Nat × Nat} {Q : Pg} {w r p x0 x1 sp k : Nat} {z a1 a2 a3 : Int32} {c : En} {L : List En} {R : List Fr} {mi : Nat → Nat → Int32} {ml : Nat → Nat → Int64} {o6 o7 o8 o9 : Option AV} (hW : WP Q) (hD : mdQ Q mi) (hw : w ≤ 2) (hI : FsI Q ((r, p, x0, x1, c :: L) :: R)) (hR : RMd Q w mi ml ((r, p, x0, x1, c :: L) :: R, sp, k, z)) (hp : p < qn Q r) (hk : qk Q r p = 8) :
    PM G s n mr a1 a2 a3 Q w mi ml (G 174 41 [some (.inr (.inr 114)), some (.inl a1), some (.inl a2), some (.inl a3), some (.inl (zi w)), some (.inl (zi r)), o6, o7, o8, o9] [] (s, n, mi, ml, mr)) (Sum.inr ((r, p + 1, x0, x1, L) :: R, sp, k, z)) := by
  have hle := bse_le hW hI
  have hFs := hI
  obtain ⟨⟨i1, i2, i3, i4, i5⟩, i6, i7⟩ := hI
  obtain ⟨⟨g76, g77, g57, g78, g79, g80, g81, g83⟩, f1, f2, f3⟩ := hR
  have hn24 : qn Q r ≤ 24 := hW.2.1 r
  have hWF := hW.2.2.2.1 r
  have hl3 := lps_3 (WF_le hWF i3)
  have hnil := whl_nil hW i1 i2
  have h115 := hD.2.1 r i1
  obtain ⟨h116, h117, h118, h119⟩ := hD.2.2 r p i1 hp
  have hb12 : Nat.beq (s 114).1 12 = true := by rw [km hM]; rfl
  have ix : (24 : Int32) * zi r + zi (qn Q r) = zi (24 * r + qn Q r) := by rw [show (24 : Int32) = zi 24 from rfl, zi_mul, zi_add]
  obtain ⟨q, hq⟩ : ∃ q, q = hdp (stk (qk Q r) p) := ⟨_, rfl⟩
  obtain ⟨s1, s2, s3, s4⟩ := st_done hWF hp hk hq.symm
  obtain ⟨h, hh⟩ : ∃ h, h = bse Q R + (stk (qk Q r) q).length := ⟨_, rfl⟩
  have hsub : zi (h + 1) - 1 = zi h := by rw [show (1 : Int32) = zi 1 from rfl, zi_sub (by omega), Nat.add_sub_cancel]
  rw [s1] at g77 g81 g83 f1 f2 hl3 hle
  rw [sbe_2] at g77
  rw [lps_2] at g81 hl3
  rw [List.length_cons, ← Nat.add_assoc, ← hh] at g83 hle
  rw [PE_2, ← hh] at f2
  obtain ⟨⟨p136, pw⟩, f2⟩ := f2
  obtain ⟨m1, hm1⟩ : ∃ m, m = up2 mi 114 83 (zi h) := ⟨_, rfl⟩
  obtain ⟨m2, hm2⟩ : ∃ m, m = up2 m1 114 78 (zi (24 * r + (p + 1))) := ⟨_, rfl⟩
  have c78 : m1 114 78 = zi (24 * r + p) := by rw [hm1, up2_s, up1_n _ _ (by decide)]; exact g78
  have lhs : G 174 41 [some (Sum.inr (Sum.inr 114)), some (Sum.inl a1), some (Sum.inl a2), some (Sum.inl a3), some (Sum.inl (zi w)), some (Sum.inl (zi r)), o6, o7, o8, o9] [] (s, n, mi, ml, mr) = G 174 1056 [some (Sum.inr (Sum.inr 114)), some (Sum.inl a1), some (Sum.inl a2), some (Sum.inl a3), some (Sum.inl (zi w)), some (Sum.inl (zi r)), some (Sum.inl (zi (24 * r + p))), o7, o8, o9] [] (s, n, m2, ml, mr) := by
    refine (b174_41 hG ..).trans ?_
    rw [gm78 hM, bind_s, g78, gm51 hM, bind_s, am115 hM i1, bind_s, h115, ix, decide_eq_true (by rw [zi_lt (by omega) (by omega)]; omega : zi (24 * r + p) < zi (24 * r + qn Q r)), cnd_t]
    refine (b174_68 hG ..).trans ?_
    rw [gm78 hM, bind_s, g78, gm51 hM, bind_s, am115 hM i1, bind_s, h115, ix, show decide (zi (24 * r + p) ≠ zi (24 * r + qn Q r)) = true from decide_eq_true (by rw [zi_ne (by omega) (by omega)]; omega), cnd_t, bind_s, gm52 hM, bind_s, am116 hM (by omega), bind_s, h116, hk, show decide (zi 8 = Int32.ofInt 1) = false from by decide, cnd_f, show decide (zi 8 = Int32.ofInt (1 + 1)) = false from by decide, cnd_f, show decide (zi 8 = Int32.ofInt ((1 + 1) + 1)) = false from by decide, cnd_f, show decide (zi 8 = Int32.ofInt (((1 + 1) + 1) + 1)) = false from by decide, cnd_f, show decide (zi 8 = Int32.ofInt ((((1 + 1) + 1) + 1) + 1)) = false from by decide, cnd_f, show decide (zi 8 = Int32.ofInt (((((1 + 1) + 1) + 1) + 1) + 1)) = false from by decide, cnd_f, show decide (zi 8 = Int32.ofInt ((((((1 + 1) + 1) + 1) + 1) + 1) + 1)) = false from by decide, cnd_f, show decide (zi 8 = Int32.ofInt (((((((1 + 1) + 1) + 1) + 1) + 1) + 1) + 1)) = true from by decide, cnd_t, gm83 hM, bind_s, g83, hsub, pm83 hM, bind_s, ← hm1, show decide (zi w ≤ (2 : Int32)) = true from decide_eq_true (by show zi w ≤ zi 2; rw [zi_le (by omega) (by omega)]; exact hw), cnd_t]
    refine (b174_854 hG ..).trans ?_
    rw [gm78 hM, bind_s, c78, show zi (24 * r + p) + 1 = zi (24 * r + (p + 1)) from zi_add _ 1, pm78 hM, bind_s, ← hm2]
  have ag : ∀ m, AGr m mi m2 ml ml := fun m => AGr_o (fun a h1 h2 => by rw [hm2, hm1, up2_n _ _ (by omega), up2_n _ _ (by omega)]) (fun _ _ _ => rfl)
  refine ⟨m2, ml, zi (24 * r + p), o7, o8, o9, lhs.trans (b174_1056 hG ..), ?_, ?_⟩
  · refine ⟨⟨by rw [hm2, up2_s, up1_n _ _ (by decide), hm1, up2_s, up1_n _ _ (by decide)]; exact g76, ?_, by rw [hm2, up2_s, up1_n _ _ (by decide), hm1, up2_s, up1_n _ _ (by decide)]; exact g57, by rw [hm2, up2_s, up1_s], by rw [hm2, up2_s, up1_n _ _ (by decide), hm1, up2_s, up1_n _ _ (by decide)]; exact g79, by rw [hm2, up2_s, up1_n _ _ (by decide), hm1, up2_s, up1_n _ _ (by decide)]; exact g80, ?_, ?_⟩, fun j hj => ?_, ?_, PFs_mv hW (ag _) i7 (Nat.le_refl _) f3⟩
    · rw [s2, g77, pw.2 (by omega), Nat.zero_add]
    · rw [s2]; exact (by rw [hm2, up2_s, up1_n _ _ (by decide), hm1, up2_s, up1_n _ _ (by decide)]; exact g81)
    · rw [s2, ← hh]; exact (by rw [hm2, up2_s, up1_n _ _ (by decide), hm1, up2_s, up1_s])
    · rw [s2] at hj ⊢
      have f1' := f1 j (by rw [lps_2]; exact hj)
      rw [cf_2] at f1'
      rw [hm2, up2_n _ _ (by decide), hm1, up2_n _ _ (by decide)]
      exact f1'
    · rw [s2]
      exact PE_mv (ag _) (Nat.le_refl _) f2
  · rw [hm2, hm1]
    exact MRf_trans (MRf_f (by decide)) (MRf_f (by decide))