/-! the model: runs: WORK, LOOP, CALL -/
theorem m174w {G : AG} (hG : FIX G) {s : Nat → Nat × Nat} {mr : Nat → Nat → Nat} (hM : MS s mr) {n : Nat × Nat} {Q : Pg} {w t r p x0 x1 sp k : Nat} {z a1 a2 a3 : Int32} {L : List En} {R : List Fr} {mi : Nat → Nat → Int32} {ml : Nat → Nat → Int64} {o6 o7 o8 o9 : Option AV} (hW : WP Q) (hD : mdQ Q mi) (hI : IA Q t ((r, p, x0, x1, L) :: R, sp, k, z)) (hR : RMd Q w mi ml ((r, p, x0, x1, L) :: R, sp, k, z)) (hp : p < qn Q r) (hk : qk Q r p = 1) :
    PM G s n mr a1 a2 a3 Q w mi ml (G 174 41 [some (.inr (.inr 114)), some (.inl a1), some (.inl a2), some (.inl a3), some (.inl (zi w)), some (.inl (zi r)), o6, o7, o8, o9] [] (s, n, mi, ml, mr)) (stA Q w ((r, p, x0, x1, L) :: R, sp, k, z)) := by
  have hB := IA_b hI
  have hle := bse_le hW hI.1
  have hFs := hI.1
  obtain ⟨⟨⟨i1, i2, i3, i4, i5⟩, i6, i7⟩, -, j1, j2, jX, -⟩ := hI
  obtain ⟨⟨g76, g77, g57, g78, g79, g80, g81, g83⟩, f1, f2, f3⟩ := hR
  have j1' : k ≤ 20000 := j1
  have hn24 : qn Q r ≤ 24 := hW.2.1 r
  have hWF := hW.2.2.2.1 r
  have hl3 := lps_3 (WF_le hWF i3)
  have hnil := whl_nil hW i1 i2
  have h115 := hD.2.1 r i1
  obtain ⟨h116, h117, h118, h119⟩ := hD.2.2 r p i1 hp
  have hb12 : Nat.beq (s 114).1 12 = true := by rw [km hM]; rfl
  have ix : (24 : Int32) * zi r + zi (qn Q r) = zi (24 * r + qn Q r) := by rw [show (24 : Int32) = zi 24 from rfl, zi_mul, zi_add]
  have hqw := hW.2.2.2.2.1 r p hp hk
  have es : stk (qk Q r) (p + 1) = stk (qk Q r) p := by show stq (qk Q r p) p _ = _; rw [hk, stq_1]
  rw [stA_1 hp hk]
  refine ⟨up2 mi 114 78 (zi (24 * r + (p + 1))), up2 ml 114 77 (zl (sp + (sbe (stk (qk Q r) p) L + bsf Q R) + qw Q r p)), zi (24 * r + p), o7, o8, o9, ?_, ?_, MRf_trans (MRf_f (by decide)) (MRf_l (Or.inl rfl))⟩
  · show G 174 41 [some (Sum.inr (Sum.inr 114)), some (Sum.inl a1), some (Sum.inl a2), some (Sum.inl a3), some (Sum.inl (zi w)), some (Sum.inl (zi r)), o6, o7, o8, o9] [] (s, n, mi, ml, mr) = _
    have lhs : G 174 41 [some (Sum.inr (Sum.inr 114)), some (Sum.inl a1), some (Sum.inl a2), some (Sum.inl a3), some (Sum.inl (zi w)), some (Sum.inl (zi r)), o6, o7, o8, o9] [] (s, n, mi, ml, mr) = G 174 1056 [some (Sum.inr (Sum.inr 114)), some (Sum.inl a1), some (Sum.inl a2), some (Sum.inl a3), some (Sum.inl (zi w)), some (Sum.inl (zi r)), some (Sum.inl (zi (24 * r + p))), o7, o8, o9] [] (s, n, up2 mi 114 78 (zi (24 * r + (p + 1))), up2 ml 114 77 (zl (sp + (sbe (stk (qk Q r) p) L + bsf Q R) + qw Q r p)), mr) := by
      refine (b174_41 hG ..).trans ?_
      rw [gm78 hM, bind_s, g78, gm51 hM, bind_s, am115 hM i1, bind_s, h115, ix, decide_eq_true (by rw [zi_lt (by omega) (by omega)]; omega : zi (24 * r + p) < zi (24 * r + qn Q r)), cnd_t]
      refine (b174_68 hG ..).trans ?_
      rw [gm78 hM, bind_s, g78, gm51 hM, bind_s, am115 hM i1, bind_s, h115, ix, show decide (zi (24 * r + p) ≠ zi (24 * r + qn Q r)) = true from decide_eq_true (by rw [zi_ne (by omega) (by omega)]; omega), cnd_t, bind_s, gm52 hM, bind_s, am116 hM (by omega), bind_s, h116, hk, show decide (zi 1 = Int32.ofInt 1) = true from by decide, cnd_t, gm77 hM, bind_s, g77, gm53 hM, bind_s, am117 hM (by omega), bind_s, h117 hk, zi_64 (by omega), zl_add, pm77 hM, bind_s, gm78 hM, bind_s, g78, show zi (24 * r + p) + 1 = zi (24 * r + (p + 1)) from zi_add _ 1, pm78 hM, bind_s]
    exact lhs.trans (b174_1056 hG ..)
  · have ag : ∀ m, AGr m mi (up2 mi 114 78 (zi (24 * r + (p + 1)))) ml (up2 ml 114 77 (zl (sp + (sbe (stk (qk Q r) p) L + bsf Q R) + qw Q r p))) := fun m => AGr_o (fun a h1 h2 => up2_n _ _ (by omega)) (fun a h1 h2 => up2_n _ _ (by omega))
    refine ⟨⟨by simp only [up2_ap]; exact g76, ?_, by simp only [up2_ap]; exact g57, by rw [up2_s, up1_s], by simp only [up2_ap]; exact g79, by simp only [up2_ap]; exact g80, by rw [es]; simp only [up2_ap]; exact g81, by rw [es]; simp only [up2_ap]; exact g83⟩, fun j hj => ?_, ?_, PFs_mv hW (ag _) i7 (Nat.le_refl _) f3⟩
    · rw [up2_s, up1_s, es]
      congr 1
      omega
    · rw [es] at hj ⊢
      rw [up2_n _ _ (by decide)]; exact f1 j hj
    · rw [es]
      exact PE_mv (ag _) (Nat.le_refl _) f2
theorem m174l {G : AG} (hG : FIX G) {s : Nat → Nat × Nat} {mr : Nat → Nat → Nat} (hM : MS s mr) {n : Nat × Nat} {Q : Pg} {w t r p x0 x1 sp k : Nat} {z a1 a2 a3 : Int32} {L : List En} {R : List Fr} {mi : Nat → Nat → Int32} {ml : Nat → Nat → Int64} {o6 o7 o8 o9 : Option AV} (hW : WP Q) (hD : mdQ Q mi) (hI : IA Q t ((r, p, x0, x1, L) :: R, sp, k, z)) (hR : RMd Q w mi ml ((r, p, x0, x1, L) :: R, sp, k, z)) (hp : p < qn Q r) (hk : qk Q r p = 3) :
    PM G s n mr a1 a2 a3 Q w mi ml (G 174 41 [some (.inr (.inr 114)), some (.inl a1), some (.inl a2), some (.inl a3), some (.inl (zi w)), some (.inl (zi r)), o6, o7, o8, o9] [] (s, n, mi, ml, mr)) (stA Q w ((r, p, x0, x1, L) :: R, sp, k, z)) := by
  have hB := IA_b hI
  have hle := bse_le hW hI.1
  have hFs := hI.1
  obtain ⟨⟨⟨i1, i2, i3, i4, i5⟩, i6, i7⟩, -, j1, j2, jX, -⟩ := hI
  obtain ⟨⟨g76, g77, g57, g78, g79, g80, g81, g83⟩, f1, f2, f3⟩ := hR
  have j1' : k ≤ 20000 := j1
  have hn24 : qn Q r ≤ 24 := hW.2.1 r
  have hWF := hW.2.2.2.1 r
  have hl3 := lps_3 (WF_le hWF i3)
  have hnil := whl_nil hW i1 i2
  have h115 := hD.2.1 r i1
  obtain ⟨h116, h117, h118, h119⟩ := hD.2.2 r p i1 hp
  have hb12 : Nat.beq (s 114).1 12 = true := by rw [km hM]; rfl
  have ix : (24 : Int32) * zi r + zi (qn Q r) = zi (24 * r + qn Q r) := by rw [show (24 : Int32) = zi 24 from rfl, zi_mul, zi_add]
  obtain ⟨h, hh⟩ : ∃ h, h = bse Q R + (stk (qk Q r) p).length := ⟨_, rfl⟩
  rw [← hh] at g83 hle
  obtain ⟨l, hl⟩ : ∃ l, l = lps (stk (qk Q r) p) := ⟨_, rfl⟩
  have hd : l < 3 := by
    rw [hl]
    rcases hWF p hp with h | ⟨-, h⟩ | h | h | ⟨h, -⟩ | ⟨h, -⟩ | ⟨h, -⟩ <;> omega
  rw [← hl] at g81 hl3 f1
  obtain ⟨e, he⟩ : ∃ e, e = exv (qt Q r p) x0 x1 (cf (stk (qk Q r) p) L) := ⟨_, rfl⟩
  have hel : e < 2147483648 := by rw [he]; exact (exv_lt (fun q => hW.2.2.2.2.2.2 r p q) i1 jX j2 j1').2
  have e175 := m175 hG hM (n := n) (ml := ml) (sd := 0) (c := cf (stk (qk Q r) p) L) hD hW i1 hp (by decide) g79 g80 g81 hl3 f1 (fun j hj => cf_hi (stk_b _ _) (by omega))
  rw [show (fun q => qt Q r p (6 * 0 + q)) = qt Q r p from funext fun q => by rw [Nat.mul_zero, Nat.zero_add], ← he] at e175
  rw [stA_3 hp hk, ← he]
  by_cases he0 : e = 0
  · obtain ⟨E0, q1, q2, ⟨q3, -⟩, q4⟩ := opn_e hWF hnil hp (Or.inl hk)
    obtain ⟨k1, k2, k3, k4, k5⟩ := cls_ok ⟨E0, q1, q2, q3 hk, q4⟩
    have e176 := m176 hG hM (n := n) (ml := ml) (v := 6) hW hD i1 (Or.inl hk) (by decide) ⟨k1, k2, k3, k4⟩ (fun x hx hx2 hc => by
      rcases hc with ⟨h6 | h8 | h6, hdp6⟩
      · exact k5 x hx hx2 ⟨h6, hdp6⟩
      · have := (st_done hWF (by omega) h8 hdp6).2.2.2; omega
      · exact k5 x hx hx2 ⟨h6, hdp6⟩)
    have es := (st_end hWF k4 k1 k2).2.1
    rw [if_pos he0]
    rw [he0] at e175
    refine ⟨up2 mi 114 78 (zi (24 * r + (cls (qk Q r) (qn Q r) p 6 + 1))), ml, zi (24 * r + p), some (.inl (zi 0)), o8, o9, ?_, ?_, MRf_f (by decide)⟩
    · have lhs : G 174 41 [some (Sum.inr (Sum.inr 114)), some (Sum.inl a1), some (Sum.inl a2), some (Sum.inl a3), some (Sum.inl (zi w)), some (Sum.inl (zi r)), o6, o7, o8, o9] [] (s, n, mi, ml, mr) = G 174 1056 [some (Sum.inr (Sum.inr 114)), some (Sum.inl a1), some (Sum.inl a2), some (Sum.inl a3), some (Sum.inl (zi w)), some (Sum.inl (zi r)), some (Sum.inl (zi (24 * r + p))), some (Sum.inl (zi 0)), o8, o9] [] (s, n, up2 mi 114 78 (zi (24 * r + (cls (qk Q r) (qn Q r) p 6 + 1))), ml, mr) := by
        refine (b174_41 hG ..).trans ?_
        rw [gm78 hM, bind_s, g78, gm51 hM, bind_s, am115 hM i1, bind_s, h115, ix, decide_eq_true (by rw [zi_lt (by omega) (by omega)]; omega : zi (24 * r + p) < zi (24 * r + qn Q r)), cnd_t]
        refine (b174_68 hG ..).trans ?_
        rw [gm78 hM, bind_s, g78, gm51 hM, bind_s, am115 hM i1, bind_s, h115, ix, show decide (zi (24 * r + p) ≠ zi (24 * r + qn Q r)) = true from decide_eq_true (by rw [zi_ne (by omega) (by omega)]; omega), cnd_t, bind_s, gm52 hM, bind_s, am116 hM (by omega), bind_s, h116, hk, show decide (zi 3 = Int32.ofInt 1) = false from by decide, cnd_f, show decide (zi 3 = Int32.ofInt (1 + 1)) = false from by decide, cnd_f, show decide (zi 3 = Int32.ofInt ((1 + 1) + 1)) = true from by decide, cnd_t, hb12, cnd_t, show (0 : Int32) = zi 0 from rfl, e175, bind_s, as_I, bind_s, show decide (zi 0 ≠ zi 0) = false from by decide, cnd_f, hb12, cnd_t, show (6 : Int32) = zi 6 from rfl, e176, bind_s, as_I, bind_s, show zi (24 * r + cls (qk Q r) (qn Q r) p 6) + 1 = zi (24 * r + (cls (qk Q r) (qn Q r) p 6 + 1)) from zi_add _ 1, pm78 hM, bind_s]
      exact lhs.trans (b174_1056 hG ..)
    · have ag : ∀ m, AGr m mi (up2 mi 114 78 (zi (24 * r + (cls (qk Q r) (qn Q r) p 6 + 1)))) ml ml := fun m => AGr_o (fun a h1 h2 => up2_n _ _ (by omega)) (fun a h1 h2 => rfl)
      refine ⟨⟨by simp only [up2_ap]; exact g76, by rw [es]; exact g77, by simp only [up2_ap]; exact g57, by rw [up2_s, up1_s], by simp only [up2_ap]; exact g79, by simp only [up2_ap]; exact g80, by rw [es, ← hl]; simp only [up2_ap]; exact g81, by rw [es, ← hh]; simp only [up2_ap]; exact g83⟩, fun j hj => ?_, ?_, PFs_mv hW (ag _) i7 (Nat.le_refl _) f3⟩
      · rw [es, ← hl] at hj
        rw [es, up2_n _ _ (by decide)]; exact f1 j hj
      · rw [es]
        exact PE_mv (ag _) (Nat.le_refl _) f2
  · rw [if_neg he0]
    by_cases hk2 : k = 20000
    · rw [if_pos hk2]
      rw [hk2] at g76
      refine ⟨up2 mi 114 76 (zi 20001), ml, ?_, by simp only [up2_ap]; exact g57, MRf_f (by decide)⟩
      refine (b174_41 hG ..).trans ?_
      rw [gm78 hM, bind_s, g78, gm51 hM, bind_s, am115 hM i1, bind_s, h115, ix, decide_eq_true (by rw [zi_lt (by omega) (by omega)]; omega : zi (24 * r + p) < zi (24 * r + qn Q r)), cnd_t]
      refine (b174_68 hG ..).trans ?_
      rw [gm78 hM, bind_s, g78, gm51 hM, bind_s, am115 hM i1, bind_s, h115, ix, show decide (zi (24 * r + p) ≠ zi (24 * r + qn Q r)) = true from decide_eq_true (by rw [zi_ne (by omega) (by omega)]; omega), cnd_t, bind_s, gm52 hM, bind_s, am116 hM (by omega), bind_s, h116, hk, show decide (zi 3 = Int32.ofInt 1) = false from by decide, cnd_f, show decide (zi 3 = Int32.ofInt (1 + 1)) = false from by decide, cnd_f, show decide (zi 3 = Int32.ofInt ((1 + 1) + 1)) = true from by decide, cnd_t, hb12, cnd_t, show (0 : Int32) = zi 0 from rfl, e175, bind_s, as_I, bind_s, show decide (zi e ≠ zi 0) = true from decide_eq_true (by rw [zi_ne (by omega) (by omega)]; exact he0), cnd_t, hb12, cnd_t, m177_f hG hM g76, bind_s, as_I, bind_s, show decide (bz false ≠ zi 0) = false from rfl, cnd_f]
    · rw [if_neg hk2]
      obtain ⟨m1, hm1⟩ : ∃ m, m = up2 mi 114 76 (zi (k + 1)) := ⟨_, rfl⟩
      obtain ⟨m2, hm2⟩ : ∃ m, m = up2 m1 136 h (zi (24 * r + p)) := ⟨_, rfl⟩
      obtain ⟨m3, hm3⟩ : ∃ m, m = up2 m2 137 h (zi 1) := ⟨_, rfl⟩
      obtain ⟨m4, hm4⟩ : ∃ m, m = up2 m3 138 h (zi e) := ⟨_, rfl⟩
      obtain ⟨m5, hm5⟩ : ∃ m, m = up2 m4 114 83 (zi (h + 1)) := ⟨_, rfl⟩
      obtain ⟨m6, hm6⟩ : ∃ m, m = up2 m5 135 l (zi 1) := ⟨_, rfl⟩
      obtain ⟨m7, hm7⟩ : ∃ m, m = up2 m6 114 81 (zi (l + 1)) := ⟨_, rfl⟩
      obtain ⟨m8, hm8⟩ : ∃ m, m = up2 m7 114 78 (zi (24 * r + (p + 1))) := ⟨_, rfl⟩
      have q1 : m1 114 83 = zi h := by rw [hm1]; simp only [up2_ap]; exact g83
      have q2 : m2 114 83 = zi h := by rw [hm2, up2_n _ _ (by decide)]; exact q1
      have q3 : m3 114 83 = zi h := by rw [hm3, up2_n _ _ (by decide)]; exact q2
      have q4 : m4 114 83 = zi h := by rw [hm4, up2_n _ _ (by decide)]; exact q3
      have q5 : m5 114 81 = zi l := by rw [hm5, up2_s, up1_n _ _ (by decide), hm4, up2_n _ _ (by decide), hm3, up2_n _ _ (by decide), hm2, up2_n _ _ (by decide), hm1, up2_s, up1_n _ _ (by decide)]; exact g81
      have q6 : m6 114 81 = zi l := by rw [hm6, up2_n _ _ (by decide)]; exact q5
      have q7 : m7 114 78 = zi (24 * r + p) := by rw [hm7, up2_s, up1_n _ _ (by decide), hm6, up2_n _ _ (by decide), hm5, up2_s, up1_n _ _ (by decide), hm4, up2_n _ _ (by decide), hm3, up2_n _ _ (by decide), hm2, up2_n _ _ (by decide), hm1, up2_s, up1_n _ _ (by decide)]; exact g78
      have lhs : G 174 41 [some (Sum.inr (Sum.inr 114)), some (Sum.inl a1), some (Sum.inl a2), some (Sum.inl a3), some (Sum.inl (zi w)), some (Sum.inl (zi r)), o6, o7, o8, o9] [] (s, n, mi, ml, mr) = G 174 1056 [some (Sum.inr (Sum.inr 114)), some (Sum.inl a1), some (Sum.inl a2), some (Sum.inl a3), some (Sum.inl (zi w)), some (Sum.inl (zi r)), some (Sum.inl (zi (24 * r + p))), some (Sum.inl (zi e)), o8, o9] [] (s, n, m8, up2 ml 114 77 (zl (sp + (sbe (stk (qk Q r) p) L + bsf Q R) + 1)), mr) := by
        refine (b174_41 hG ..).trans ?_
        rw [gm78 hM, bind_s, g78, gm51 hM, bind_s, am115 hM i1, bind_s, h115, ix, decide_eq_true (by rw [zi_lt (by omega) (by omega)]; omega : zi (24 * r + p) < zi (24 * r + qn Q r)), cnd_t]
        refine (b174_68 hG ..).trans ?_
        rw [gm78 hM, bind_s, g78, gm51 hM, bind_s, am115 hM i1, bind_s, h115, ix, show decide (zi (24 * r + p) ≠ zi (24 * r + qn Q r)) = true from decide_eq_true (by rw [zi_ne (by omega) (by omega)]; omega), cnd_t, bind_s, gm52 hM, bind_s, am116 hM (by omega), bind_s, h116, hk, show decide (zi 3 = Int32.ofInt 1) = false from by decide, cnd_f, show decide (zi 3 = Int32.ofInt (1 + 1)) = false from by decide, cnd_f, show decide (zi 3 = Int32.ofInt ((1 + 1) + 1)) = true from by decide, cnd_t, hb12, cnd_t, show (0 : Int32) = zi 0 from rfl, e175, bind_s, as_I, bind_s, show decide (zi e ≠ zi 0) = true from decide_eq_true (by rw [zi_ne (by omega) (by omega)]; exact he0), cnd_t, hb12, cnd_t, m177_t hG hM g76 (by omega), bind_s, as_I, bind_s, show decide (bz true ≠ zi 0) = true from rfl, cnd_t, ← hm1, gm77 hM, bind_s, g77, show zl (sp + (sbe (stk (qk Q r) p) L + bsf Q R)) + 1 = zl (sp + (sbe (stk (qk Q r) p) L + bsf Q R) + 1) from zl_add _ 1, pm77 hM, bind_s, gm84 hM, bind_s, gm83 hM, bind_s, q1, wm136 hM (by omega), bind_s, ← hm2, gm85 hM, bind_s, gm83 hM, bind_s, q2, show (1 : Int32) = zi 1 from rfl, wm137 hM (by omega), bind_s, ← hm3, gm86 hM, bind_s, gm83 hM, bind_s, q3, wm138 hM (by omega), bind_s, ← hm4, gm83 hM, bind_s, q4, zi_add, pm83 hM, bind_s, ← hm5, gm82 hM, bind_s, gm81 hM, bind_s, q5, wm135 hM hd, bind_s, ← hm6, gm81 hM, bind_s, q6, zi_add, pm81 hM, bind_s, ← hm7, gm78 hM, bind_s, q7, zi_add, pm78 hM, bind_s, show 24 * r + p + 1 = 24 * r + (p + 1) by omega, ← hm8]
      have e0 : stk (qk Q r) (p + 1) = (p, 0) :: stk (qk Q r) p := by show stq (qk Q r p) p _ = _; rw [hk, stq_3]
      have ag : AGr h mi m8 ml (up2 ml 114 77 (zl (sp + (sbe (stk (qk Q r) p) L + bsf Q R) + 1))) := by
        rw [hm8, hm7, hm6, hm5, hm4, hm3, hm2, hm1]
        refine ⟨fun i hi => ?_, fun i hi => ?_⟩
        · refine ⟨?_, ?_, ?_, ?_, ?_⟩
          · rw [up2_n _ _ (by decide), up2_n _ _ (by decide), up2_n _ _ (by decide), up2_n _ _ (by decide), up2_n _ _ (by decide), up2_n _ _ (by decide), up2_s, up1_n _ _ (by omega), up2_n _ _ (by decide)]
          · rw [up2_n _ _ (by decide), up2_n _ _ (by decide), up2_n _ _ (by decide), up2_n _ _ (by decide), up2_n _ _ (by decide), up2_s, up1_n _ _ (by omega), up2_n _ _ (by decide), up2_n _ _ (by decide)]
          · rw [up2_n _ _ (by decide), up2_n _ _ (by decide), up2_n _ _ (by decide), up2_n _ _ (by decide), up2_s, up1_n _ _ (by omega), up2_n _ _ (by decide), up2_n _ _ (by decide), up2_n _ _ (by decide)]
          · rw [up2_n _ _ (by decide)]
          · rw [up2_n _ _ (by decide)]
        · repeat rw [up2_n _ _ (by decide)]
      have c136 : m8 136 h = zi (24 * r + p) := by rw [hm8, up2_n _ _ (by decide), hm7, up2_n _ _ (by decide), hm6, up2_n _ _ (by decide), hm5, up2_n _ _ (by decide), hm4, up2_n _ _ (by decide), hm3, up2_n _ _ (by decide), hm2, up2_s, up1_s]
      have c137 : m8 137 h = zi 1 := by rw [hm8, up2_n _ _ (by decide), hm7, up2_n _ _ (by decide), hm6, up2_n _ _ (by decide), hm5, up2_n _ _ (by decide), hm4, up2_n _ _ (by decide), hm3, up2_s, up1_s]
      have c138 : m8 138 h = zi e := by rw [hm8, up2_n _ _ (by decide), hm7, up2_n _ _ (by decide), hm6, up2_n _ _ (by decide), hm5, up2_n _ _ (by decide), hm4, up2_s, up1_s]
      have c135 : m8 135 = up1 (mi 135) l (zi 1) := by rw [hm8, up2_n _ _ (by decide), hm7, up2_n _ _ (by decide), hm6, up2_s, hm5, up2_n _ _ (by decide), hm4, up2_n _ _ (by decide), hm3, up2_n _ _ (by decide), hm2, up2_n _ _ (by decide), hm1, up2_n _ _ (by decide)]
      have c114 : ∀ f, f ≠ 78 → f ≠ 81 → f ≠ 83 → f ≠ 76 → m8 114 f = mi 114 f := fun f n1 n2 n3 n4 => by rw [hm8, up2_s, up1_n _ _ n1, hm7, up2_s, up1_n _ _ n2, hm6, up2_n _ _ (by decide), hm5, up2_s, up1_n _ _ n3, hm4, up2_n _ _ (by decide), hm3, up2_n _ _ (by decide), hm2, up2_n _ _ (by decide), hm1, up2_s, up1_n _ _ n4]
      refine ⟨m8, up2 ml 114 77 (zl (sp + (sbe (stk (qk Q r) p) L + bsf Q R) + 1)), zi (24 * r + p), some (.inl (zi e)), o8, o9, lhs.trans (b174_1056 hG ..), ?_, ?_⟩
      · refine ⟨⟨?_, ?_, (c114 57 (by decide) (by decide) (by decide) (by decide)).trans g57, by rw [hm8, up2_s, up1_s], (c114 79 (by decide) (by decide) (by decide) (by decide)).trans g79, (c114 80 (by decide) (by decide) (by decide) (by decide)).trans g80, ?_, ?_⟩, fun j hj => ?_, ?_, PFs_mv hW (AGr_le ag (by omega)) i7 (Nat.le_refl _) f3⟩
        · rw [hm8, up2_s, up1_n _ _ (by decide), hm7, up2_s, up1_n _ _ (by decide), hm6, up2_n _ _ (by decide), hm5, up2_s, up1_n _ _ (by decide), hm4, up2_n _ _ (by decide), hm3, up2_n _ _ (by decide), hm2, up2_n _ _ (by decide), hm1, up2_s, up1_s]
        · rw [up2_s, up1_s, e0, sbe_0]
          congr 1
          omega
        · rw [e0, lps_0, ← hl, hm8, up2_s, up1_n _ _ (by decide), hm7, up2_s, up1_s, Nat.add_comm]
        · rw [e0, List.length_cons, hm8, up2_s, up1_n _ _ (by decide), hm7, up2_s, up1_n _ _ (by decide), hm6, up2_n _ _ (by decide), hm5, up2_s, up1_s, hh]
          congr 1
        · rw [e0, lps_0, ← hl] at hj
          rw [e0, cf_0, ← hl, c135]
          by_cases ej : j = l
          · rw [ej, up1_s, if_pos rfl]
          · rw [up1_n _ _ ej, if_neg ej]
            exact f1 j (by omega)
        · rw [e0, PE_0, ← hh]
          exact ⟨⟨c136, c137, c138⟩, PE_mv ag (by omega) f2⟩
      · rw [hm8, hm7, hm6, hm5, hm4, hm3, hm2, hm1]
        exact MRf_trans (MRf_trans (MRf_trans (MRf_trans (MRf_trans (MRf_trans (MRf_trans (MRf_trans (MRf_f (by decide)) (MRf_a (by decide))) (MRf_a (by decide))) (MRf_a (by decide))) (MRf_f (by decide))) (MRf_a (by decide))) (MRf_f (by decide))) (MRf_f (by decide))) (MRf_l (Or.inl rfl))