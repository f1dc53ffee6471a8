/-! the model: runs: OR, DONE; any step; from beginning to end -/
theorem m174o {G : AG} (hG : FIX G) {s : Nat → Nat × Nat} {mr : Nat → Nat → Nat} (hM : MS s mr) {n : Nat × Nat} {Q : Pg} {w t r p x0 x1 sp k : Nat} {z a1 a2 a3 : Int32} {c : En} {L : List En} {R : List Fr} {mi : Nat → Nat → Int32} {ml : Nat → Nat → Int64} {o6 o7 o8 o9 : Option AV} (hW : WP Q) (hD : mdQ Q mi) (hw : w ≤ 4) (hI : IA Q t ((r, p, x0, x1, c :: L) :: R, sp, k, z)) (hR : RMd Q w mi ml ((r, p, x0, x1, c :: L) :: R, sp, k, z)) (hp : p < qn Q r) (hk : qk Q r p = 7) :
    PM G s n mr a1 a2 a3 Q w mi ml (G 174 41 [some (.inr (.inr 114)), some (.inl a1), some (.inl a2), some (.inl a3), some (.inl (zi w)), some (.inl (zi r)), o6, o7, o8, o9] [] (s, n, mi, ml, mr)) (stA Q w ((r, p, x0, x1, c :: L) :: R, sp, k, z)) := by
  have hB := IA_b hI
  have hle := bse_le hW hI.1
  have hFs := hI.1
  obtain ⟨⟨⟨i1, i2, i3, i4, i5⟩, i6, i7⟩, -, j1, j2, jX, j4, j5, jE, j6⟩ := hI
  obtain ⟨⟨g76, g77, g57, g78, g79, g80, g81, g83⟩, f1, f2, f3⟩ := hR
  have j1' : k ≤ 20000 := j1
  have hn24 : qn Q r ≤ 24 := hW.2.1 r
  have hWF := hW.2.2.2.1 r
  have hl3 := lps_3 (WF_le hWF i3)
  have hnil := whl_nil hW i1 i2
  have h115 := hD.2.1 r i1
  obtain ⟨h116, h117, h118, h119⟩ := hD.2.2 r p i1 hp
  have hb12 : Nat.beq (s 114).1 12 = true := by rw [km hM]; rfl
  have ix : (24 : Int32) * zi r + zi (qn Q r) = zi (24 * r + qn Q r) := by rw [show (24 : Int32) = zi 24 from rfl, zi_mul, zi_add]
  obtain ⟨q, hq⟩ : ∃ q, q = hdp (stk (qk Q r) p) := ⟨_, rfl⟩
  obtain ⟨s1, s2, s3, s4⟩ := st_or hWF hp hk hq.symm
  obtain ⟨h, hh⟩ : ∃ h, h = bse Q R + (stk (qk Q r) q).length := ⟨_, rfl⟩
  have hsub : zi (h + 1) - 1 = zi h := by rw [show (1 : Int32) = zi 1 from rfl, zi_sub (by omega), Nat.add_sub_cancel]
  rw [s1] at g77 g81 g83 f1 f2 i5 i4 hl3 hle
  rw [sbe_1] at g77
  rw [lps_1] at g81 hl3
  rw [LI_1] at i5
  rw [List.length_cons, ← Nat.add_assoc, ← hh] at g83 hle
  rw [PE_1, ← hh] at f2
  obtain ⟨⟨p136, pw, pz⟩, f2⟩ := f2
  rw [stA_7 hp hk, ← hq]
  by_cases hw3 : 3 ≤ w
  · rw [if_pos hw3]
    have p139 := pw hw3
    refine ⟨up2 mi 114 78 (zi (24 * r + (p + 1))), up2 (up2 ml 140 h (zl (sp + (c.1 + sbe (stk (qk Q r) q) L + bsf Q R)))) 114 77 (zl (bsf Q R + sbe (stk (qk Q r) q) L + c.1)), zi (24 * r + p), o7, o8, o9, ?_, ?_, MRf_trans (MRf_trans (MRf_f (by decide)) (MRf_l (by decide))) (MRf_l (by decide))⟩
    · have lhs : G 174 41 [some (Sum.inr (Sum.inr 114)), some (Sum.inl a1), some (Sum.inl a2), some (Sum.inl a3), some (Sum.inl (zi w)), some (Sum.inl (zi r)), o6, o7, o8, o9] [] (s, n, mi, ml, mr) = G 174 1056 [some (Sum.inr (Sum.inr 114)), some (Sum.inl a1), some (Sum.inl a2), some (Sum.inl a3), some (Sum.inl (zi w)), some (Sum.inl (zi r)), some (Sum.inl (zi (24 * r + p))), o7, o8, o9] [] (s, n, up2 mi 114 78 (zi (24 * r + (p + 1))), up2 (up2 ml 140 h (zl (sp + (c.1 + sbe (stk (qk Q r) q) L + bsf Q R)))) 114 77 (zl (bsf Q R + sbe (stk (qk Q r) q) L + c.1)), mr) := by
        refine (b174_41 hG ..).trans ?_
        rw [gm78 hM, bind_s, g78, gm51 hM, bind_s, am115 hM i1, bind_s, h115, ix, decide_eq_true (by rw [zi_lt (by omega) (by omega)]; omega : zi (24 * r + p) < zi (24 * r + qn Q r)), cnd_t]
        refine (b174_68 hG ..).trans ?_
        rw [gm78 hM, bind_s, g78, gm51 hM, bind_s, am115 hM i1, bind_s, h115, ix, show decide (zi (24 * r + p) ≠ zi (24 * r + qn Q r)) = true from decide_eq_true (by rw [zi_ne (by omega) (by omega)]; omega), cnd_t, bind_s, gm52 hM, bind_s, am116 hM (by omega), bind_s, h116, hk, show decide (zi 7 = Int32.ofInt 1) = false from by decide, cnd_f, show decide (zi 7 = Int32.ofInt (1 + 1)) = false from by decide, cnd_f, show decide (zi 7 = Int32.ofInt ((1 + 1) + 1)) = false from by decide, cnd_f, show decide (zi 7 = Int32.ofInt (((1 + 1) + 1) + 1)) = false from by decide, cnd_f, show decide (zi 7 = Int32.ofInt ((((1 + 1) + 1) + 1) + 1)) = false from by decide, cnd_f, show decide (zi 7 = Int32.ofInt (((((1 + 1) + 1) + 1) + 1) + 1)) = false from by decide, cnd_f, show decide (zi 7 = Int32.ofInt ((((((1 + 1) + 1) + 1) + 1) + 1) + 1)) = true from by decide, cnd_t, show decide (zi w ≤ (2 : Int32)) = false from decide_eq_false (by show ¬ zi w ≤ zi 2; rw [zi_le (by omega) (by omega)]; omega), cnd_f, gm88 hM, bind_s, gm83 hM, bind_s, g83, hsub, gm77 hM, bind_s, g77, wm140 hM (by omega), bind_s, gm87 hM, bind_s, gm83 hM, bind_s, g83, hsub, am139 hM (by omega), bind_s, up2_n _ _ (by decide), p139, pm77 hM, bind_s, gm78 hM, bind_s, g78, show zi (24 * r + p) + 1 = zi (24 * r + (p + 1)) from zi_add _ 1, pm78 hM, bind_s]
      exact lhs.trans (b174_1056 hG ..)
    · have ag : AGr h mi (up2 mi 114 78 (zi (24 * r + (p + 1)))) ml (up2 (up2 ml 140 h (zl (sp + (c.1 + sbe (stk (qk Q r) q) L + bsf Q R)))) 114 77 (zl (bsf Q R + sbe (stk (qk Q r) q) L + c.1))) := by
        refine ⟨fun i hi => ⟨?_, ?_, ?_, ?_, ?_⟩, fun i hi => ?_⟩
        · rw [up2_n _ _ (by decide)]
        · rw [up2_n _ _ (by decide)]
        · rw [up2_n _ _ (by decide)]
        · rw [up2_n _ _ (by decide), up2_n _ _ (by decide)]
        · rw [up2_n _ _ (by decide), up2_s, up1_n _ _ (by omega)]
        · rw [up2_n _ _ (by decide)]
      refine ⟨⟨by simp only [up2_ap]; exact g76, ?_, by simp only [up2_ap]; exact g57, by rw [up2_s, up1_s], by simp only [up2_ap]; exact g79, by simp only [up2_ap]; exact g80, ?_, ?_⟩, fun j hj => ?_, ?_, PFs_mv hW (AGr_le ag (by omega)) i7 (Nat.le_refl _) f3⟩
      · rw [up2_s, up1_s, s2, sbe_2]
        congr 1
        omega
      · rw [s2, lps_2]; simp only [up2_ap]; exact g81
      · rw [s2, List.length_cons, ← Nat.add_assoc (bse Q R), ← hh]; simp only [up2_ap]; exact g83
      · rw [s2, lps_2] at hj
        have f1' := f1 j (by rw [lps_1]; exact hj)
        rw [cf_1] at f1'
        rw [s2, cf_2, up2_n _ _ (by decide)]; exact f1'
      · rw [s2, PE_2, ← hh]
        exact ⟨⟨by rw [up2_n _ _ (by decide)]; exact p136, fun _ => ⟨by rw [up2_n _ _ (by decide), up2_n _ _ (by decide)]; exact p139, by rw [up2_n _ _ (by decide), up2_s, up1_s]; congr 1; omega⟩, pz⟩, PE_mv ag (by omega) f2⟩
  · rw [if_neg hw3]
    obtain ⟨E0, q1, q2, ⟨-, q3⟩, q4⟩ := opn_e hWF hnil (by omega : q < qn Q r) (Or.inr s4)
    obtain ⟨k1, k2, k3, k4, k5⟩ := cls_ok ⟨E0, q1, q2, q3 s4, q4⟩
    have e176 := m176 hG hM (n := n) (ml := ml) (v := 8) hW hD i1 (Or.inr s4) (by decide) ⟨k1, k2, k3, k4⟩ (fun x hx hx2 hc => by
      rcases hc with ⟨h6 | h8 | h8, hdp6⟩
      · have := (st_end hWF (by omega) h6 hdp6).2.2.2; omega
      · exact k5 x hx hx2 ⟨h8, hdp6⟩
      · exact k5 x hx hx2 ⟨h8, hdp6⟩)
    obtain ⟨E, hEe⟩ : ∃ E, E = cls (qk Q r) (qn Q r) q 8 := ⟨_, rfl⟩
    rw [← hEe] at k1 k2 k3 k4 e176 ⊢
    have es := (st_done hWF k4 k1 k2).1
    have lhs : G 174 41 [some (Sum.inr (Sum.inr 114)), some (Sum.inl a1), some (Sum.inl a2), some (Sum.inl a3), some (Sum.inl (zi w)), some (Sum.inl (zi r)), o6, o7, o8, o9] [] (s, n, mi, ml, mr) = G 174 1056 [some (Sum.inr (Sum.inr 114)), some (Sum.inl a1), some (Sum.inl a2), some (Sum.inl a3), some (Sum.inl (zi w)), some (Sum.inl (zi r)), some (Sum.inl (zi (24 * r + p))), o7, o8, o9] [] (s, n, up2 mi 114 78 (zi (24 * r + E)), ml, mr) := by
      refine (b174_41 hG ..).trans ?_
      rw [gm78 hM, bind_s, g78, gm51 hM, bind_s, am115 hM i1, bind_s, h115, ix, decide_eq_true (by rw [zi_lt (by omega) (by omega)]; omega : zi (24 * r + p) < zi (24 * r + qn Q r)), cnd_t]
      refine (b174_68 hG ..).trans ?_
      rw [gm78 hM, bind_s, g78, gm51 hM, bind_s, am115 hM i1, bind_s, h115, ix, show decide (zi (24 * r + p) ≠ zi (24 * r + qn Q r)) = true from decide_eq_true (by rw [zi_ne (by omega) (by omega)]; omega), cnd_t, bind_s, gm52 hM, bind_s, am116 hM (by omega), bind_s, h116, hk, show decide (zi 7 = Int32.ofInt 1) = false from by decide, cnd_f, show decide (zi 7 = Int32.ofInt (1 + 1)) = false from by decide, cnd_f, show decide (zi 7 = Int32.ofInt ((1 + 1) + 1)) = false from by decide, cnd_f, show decide (zi 7 = Int32.ofInt (((1 + 1) + 1) + 1)) = false from by decide, cnd_f, show decide (zi 7 = Int32.ofInt ((((1 + 1) + 1) + 1) + 1)) = false from by decide, cnd_f, show decide (zi 7 = Int32.ofInt (((((1 + 1) + 1) + 1) + 1) + 1)) = false from by decide, cnd_f, show decide (zi 7 = Int32.ofInt ((((((1 + 1) + 1) + 1) + 1) + 1) + 1)) = true from by decide, cnd_t, show decide (zi w ≤ (2 : Int32)) = true from decide_eq_true (by show zi w ≤ zi 2; rw [zi_le (by omega) (by omega)]; omega), cnd_t, gm84 hM, bind_s, gm83 hM, bind_s, g83, hsub, am136 hM (by omega), bind_s, p136, hb12, cnd_t, show (8 : Int32) = zi 8 from rfl, e176, bind_s, as_I, bind_s, pm78 hM, bind_s]
    rw [lhs.trans (b174_1056 hG ..)]
    have ag : ∀ m, AGr m mi (up2 mi 114 78 (zi (24 * r + E))) ml ml := fun m => AGr_o (fun a h1 h2 => by rw [up2_n _ _ (by omega)]) (fun _ _ _ => rfl)
    have fr1 : MRf mi (up2 mi 114 78 (zi (24 * r + E))) ml ml := MRf_f (by decide)
    have hFs' : FsI Q ((r, E, x0, x1, c :: L) :: R) := ⟨⟨i1, i2, Nat.le_of_lt k4, by rw [es]; exact i4, by rw [es, LI_2]; exact i5⟩, i6, i7⟩
    have hR' : RMd Q w (up2 mi 114 78 (zi (24 * r + E))) ml ((r, E, x0, x1, c :: L) :: R, sp, k, z) := by
      refine ⟨⟨by simp only [up2_ap]; exact g76, by rw [es, sbe_2]; exact g77, by simp only [up2_ap]; exact g57, by rw [up2_s, up1_s], by simp only [up2_ap]; exact g79, by simp only [up2_ap]; exact g80, ?_, ?_⟩, fun j hj => ?_, ?_, PFs_mv hW (ag _) i7 (Nat.le_refl _) f3⟩
      · rw [es, lps_2]; simp only [up2_ap]; exact g81
      · rw [es, List.length_cons, ← Nat.add_assoc, ← hh]; simp only [up2_ap]; exact g83
      · rw [es, lps_2] at hj
        have f1' := f1 j (by rw [lps_1]; exact hj)
        rw [cf_1] at f1'
        rw [es, cf_2, up2_n _ _ (by decide)]; exact f1'
      · rw [es, PE_2, ← hh]
        exact ⟨⟨by rw [up2_n _ _ (by decide)]; exact p136, fun h3 => absurd h3 hw3, pz⟩, PE_mv (ag _) (Nat.le_refl _) f2⟩
    obtain ⟨m', l', y6, y7, y8, y9, e1, e2, e3⟩ := m174x hG hM (n := n) (a1 := a1) (a2 := a2) (a3 := a3) (o6 := some (.inl (zi (24 * r + p)))) (o7 := o7) (o8 := o8) (o9 := o9) hW (mdQ_MR hD fr1) (by omega) hFs' hR' k4 k1
    exact ⟨m', l', y6, y7, y8, y9, e1, e2, MRf_trans fr1 e3⟩
theorem m174y {G : AG} (hG : FIX G) {s : Nat → Nat × Nat} {mr : Nat → Nat → Nat} (hM : MS s mr) {n : Nat × Nat} {Q : Pg} {w t r p x0 x1 sp k : Nat} {z a1 a2 a3 : Int32} {c : En} {L : List En} {R : List Fr} {mi : Nat → Nat → Int32} {ml : Nat → Nat → Int64} {o6 o7 o8 o9 : Option AV} (hW : WP Q) (hD : mdQ Q mi) (hw : w ≤ 4) (hI : IA Q t ((r, p, x0, x1, c :: L) :: R, sp, k, z)) (hR : RMd Q w mi ml ((r, p, x0, x1, c :: L) :: R, sp, k, z)) (hp : p < qn Q r) (hk : qk Q r p = 8) :
    PM G s n mr a1 a2 a3 Q w mi ml (G 174 41 [some (.inr (.inr 114)), some (.inl a1), some (.inl a2), some (.inl a3), some (.inl (zi w)), some (.inl (zi r)), o6, o7, o8, o9] [] (s, n, mi, ml, mr)) (stA Q w ((r, p, x0, x1, c :: L) :: R, sp, k, z)) := by
  by_cases hw3 : 3 ≤ w
  case neg =>
    obtain ⟨m', l', y6, y7, y8, y9, e1, e2, e3⟩ := m174x hG hM (n := n) (a1 := a1) (a2 := a2) (a3 := a3) (o6 := o6) (o7 := o7) (o8 := o8) (o9 := o9) hW hD (by omega) hI.1 hR hp hk
    rw [stA_8 hp hk, if_neg hw3]
    exact ⟨m', l', y6, y7, y8, y9, e1, e2, e3⟩
  have hB := IA_b hI
  have hle := bse_le hW hI.1
  have hFs := hI.1
  obtain ⟨⟨⟨i1, i2, i3, i4, i5⟩, i6, i7⟩, -, j1, j2, jX, j4, j5, jE, j6⟩ := hI
  obtain ⟨⟨g76, g77, g57, g78, g79, g80, g81, g83⟩, f1, f2, f3⟩ := hR
  have j1' : k ≤ 20000 := j1
  have hn24 : qn Q r ≤ 24 := hW.2.1 r
  have hWF := hW.2.2.2.1 r
  have hl3 := lps_3 (WF_le hWF i3)
  have hnil := whl_nil hW i1 i2
  have h115 := hD.2.1 r i1
  obtain ⟨h116, h117, h118, h119⟩ := hD.2.2 r p i1 hp
  have hb12 : Nat.beq (s 114).1 12 = true := by rw [km hM]; rfl
  have ix : (24 : Int32) * zi r + zi (qn Q r) = zi (24 * r + qn Q r) := by rw [show (24 : Int32) = zi 24 from rfl, zi_mul, zi_add]
  obtain ⟨q, hq⟩ : ∃ q, q = hdp (stk (qk Q r) p) := ⟨_, rfl⟩
  obtain ⟨s1, s2, s3, s4⟩ := st_done hWF hp hk hq.symm
  obtain ⟨h, hh⟩ : ∃ h, h = bse Q R + (stk (qk Q r) q).length := ⟨_, rfl⟩
  have hsub : zi (h + 1) - 1 = zi h := by rw [show (1 : Int32) = zi 1 from rfl, zi_sub (by omega), Nat.add_sub_cancel]
  have jE' : EBs (bsf Q R) (99 * t) (stk (qk Q r) p) (c :: L) := jE
  have j5' : sbe (stk (qk Q r) p) (c :: L) + bsf Q R + sp ≤ 99 * t := j5
  rw [s1] at g77 g81 g83 f1 f2 hl3 hle jE' j5'
  rw [sbe_2] at g77 j5'
  rw [EBs_2] at jE'
  rw [lps_2] at g81 hl3
  rw [List.length_cons, ← Nat.add_assoc, ← hh] at g83 hle
  rw [PE_2, ← hh] at f2
  obtain ⟨⟨p136, pw, pz⟩, f2⟩ := f2
  obtain ⟨p139, p140⟩ := pw hw3
  have jE1 := jE'.1
  rw [stA_8 hp hk, if_pos hw3]
  obtain ⟨m1, hm1⟩ : ∃ m, m = up2 mi 114 83 (zi h) := ⟨_, rfl⟩
  obtain ⟨m2, hm2⟩ : ∃ m, m = up2 m1 114 78 (zi (24 * r + (p + 1))) := ⟨_, rfl⟩
  have c78 : m1 114 78 = zi (24 * r + p) := by rw [hm1, up2_s, up1_n _ _ (by decide)]; exact g78
  have c83 : m1 114 83 = zi h := by rw [hm1, up2_s, up1_s]
  obtain ⟨X, hX⟩ : ∃ X, X = bsf Q R + sbe (stk (qk Q r) q) L + c.1 + c.2 := ⟨_, rfl⟩
  obtain ⟨Y, hY⟩ : ∃ Y, Y = (sp + (c.1 + sbe (stk (qk Q r) q) L + bsf Q R)) := ⟨_, rfl⟩
  rw [← hX] at p140
  rw [← hY] at g77
  have s851 : ∀ v : Nat, G 174 851 [some (Sum.inr (Sum.inr 114)), some (Sum.inl a1), some (Sum.inl a2), some (Sum.inl a3), some (Sum.inl (zi w)), some (Sum.inl (zi r)), some (Sum.inl (zi (24 * r + p))), some (Sum.inr (Sum.inl (zl X))), none, o9] [.inr (.inl (zl v)), .inr (.inr 114)] (s, n, m1, ml, mr) = G 174 1056 [some (Sum.inr (Sum.inr 114)), some (Sum.inl a1), some (Sum.inl a2), some (Sum.inl a3), some (Sum.inl (zi w)), some (Sum.inl (zi r)), some (Sum.inl (zi (24 * r + p))), some (Sum.inr (Sum.inl (zl X))), none, o9] [] (s, n, m2, up2 ml 114 77 (zl v), mr) := by
    intro v
    refine (b174_851 hG ..).trans ?_
    rw [pm77 hM, bind_s]
    refine (b174_854 hG ..).trans ?_
    rw [gm78 hM, bind_s, c78, show zi (24 * r + p) + 1 = zi (24 * r + (p + 1)) from zi_add _ 1, pm78 hM, bind_s, ← hm2]
  have s847 : G 174 847 [some (Sum.inr (Sum.inr 114)), some (Sum.inl a1), some (Sum.inl a2), some (Sum.inl a3), some (Sum.inl (zi w)), some (Sum.inl (zi r)), some (Sum.inl (zi (24 * r + p))), some (Sum.inr (Sum.inl (zl X))), none, o9] [.inr (.inr 114)] (s, n, m1, ml, mr) = G 174 1056 [some (Sum.inr (Sum.inr 114)), some (Sum.inl a1), some (Sum.inl a2), some (Sum.inl a3), some (Sum.inl (zi w)), some (Sum.inl (zi r)), some (Sum.inl (zi (24 * r + p))), some (Sum.inr (Sum.inl (zl X))), none, o9] [] (s, n, m2, up2 ml 114 77 (zl Y), mr) := by
    refine (b174_847 hG ..).trans ?_
    rw [gm77 hM, bind_s, g77]
    exact s851 Y
  have s842 : G 174 842 [some (Sum.inr (Sum.inr 114)), some (Sum.inl a1), some (Sum.inl a2), some (Sum.inl a3), some (Sum.inl (zi w)), some (Sum.inl (zi r)), some (Sum.inl (zi (24 * r + p))), some (Sum.inr (Sum.inl (zl X))), none, o9] [.inr (.inr 114)] (s, n, m1, ml, mr) = G 174 1056 [some (Sum.inr (Sum.inr 114)), some (Sum.inl a1), some (Sum.inl a2), some (Sum.inl a3), some (Sum.inl (zi w)), some (Sum.inl (zi r)), some (Sum.inl (zi (24 * r + p))), some (Sum.inr (Sum.inl (zl X))), none, o9] [] (s, n, m2, up2 ml 114 77 (zl X), mr) := (b174_842 hG ..).trans (s851 X)
  have lhs : ∃ v, v = c.1 + mxw w c.2 sp + (sbe (stk (qk Q r) q) L + bsf Q R) ∧ G 174 41 [some (Sum.inr (Sum.inr 114)), some (Sum.inl a1), some (Sum.inl a2), some (Sum.inl a3), some (Sum.inl (zi w)), some (Sum.inl (zi r)), o6, o7, o8, o9] [] (s, n, mi, ml, mr) = G 174 1056 [some (Sum.inr (Sum.inr 114)), some (Sum.inl a1), some (Sum.inl a2), some (Sum.inl a3), some (Sum.inl (zi w)), some (Sum.inl (zi r)), some (Sum.inl (zi (24 * r + p))), some (Sum.inr (Sum.inl (zl X))), none, o9] [] (s, n, m2, up2 ml 114 77 (zl v), mr) := by
    have hw34 : w = 3 ∨ w = 4 := by omega
    rcases hw34 with hwe | hwe
    · have hz3 : decide (zi w ≤ (2 : Int32)) = false := by rw [hwe]; decide
      have hz4 : decide (zi w ≠ (3 : Int32)) = false := by rw [hwe]; decide
      by_cases hc : X ≤ Y
      · refine ⟨Y, ?_, ?_⟩
        · unfold mxw
          rw [if_pos hwe, if_neg (by omega)]
          omega
        · refine (b174_41 hG ..).trans ?_
          rw [gm78 hM, bind_s, g78, gm51 hM, bind_s, am115 hM i1, bind_s, h115, ix, decide_eq_true (by rw [zi_lt (by omega) (by omega)]; omega : zi (24 * r + p) < zi (24 * r + qn Q r)), cnd_t]
          refine (b174_68 hG ..).trans ?_
          rw [gm78 hM, bind_s, g78, gm51 hM, bind_s, am115 hM i1, bind_s, h115, ix, show decide (zi (24 * r + p) ≠ zi (24 * r + qn Q r)) = true from decide_eq_true (by rw [zi_ne (by omega) (by omega)]; omega), cnd_t, bind_s, gm52 hM, bind_s, am116 hM (by omega), bind_s, h116, hk, show decide (zi 8 = Int32.ofInt 1) = false from by decide, cnd_f, show decide (zi 8 = Int32.ofInt (1 + 1)) = false from by decide, cnd_f, show decide (zi 8 = Int32.ofInt ((1 + 1) + 1)) = false from by decide, cnd_f, show decide (zi 8 = Int32.ofInt (((1 + 1) + 1) + 1)) = false from by decide, cnd_f, show decide (zi 8 = Int32.ofInt ((((1 + 1) + 1) + 1) + 1)) = false from by decide, cnd_f, show decide (zi 8 = Int32.ofInt (((((1 + 1) + 1) + 1) + 1) + 1)) = false from by decide, cnd_f, show decide (zi 8 = Int32.ofInt ((((((1 + 1) + 1) + 1) + 1) + 1) + 1)) = false from by decide, cnd_f, show decide (zi 8 = Int32.ofInt (((((((1 + 1) + 1) + 1) + 1) + 1) + 1) + 1)) = true from by decide, cnd_t, gm83 hM, bind_s, g83, hsub, pm83 hM, bind_s, ← hm1, hz3, cnd_f, gm88 hM, bind_s, gm83 hM, bind_s, c83, am140 hM (by omega), bind_s, p140, hz4, cnd_f, gm77 hM, bind_s, g77, cmp_le0, decide_eq_true (by rw [zl_le (by omega) (by omega)]; exact hc : zl X ≤ zl Y), cnd_t]
          exact s847
      · refine ⟨X, ?_, ?_⟩
        · unfold mxw
          rw [if_pos hwe, if_pos (by omega)]
          omega
        · refine (b174_41 hG ..).trans ?_
          rw [gm78 hM, bind_s, g78, gm51 hM, bind_s, am115 hM i1, bind_s, h115, ix, decide_eq_true (by rw [zi_lt (by omega) (by omega)]; omega : zi (24 * r + p) < zi (24 * r + qn Q r)), cnd_t]
          refine (b174_68 hG ..).trans ?_
          rw [gm78 hM, bind_s, g78, gm51 hM, bind_s, am115 hM i1, bind_s, h115, ix, show decide (zi (24 * r + p) ≠ zi (24 * r + qn Q r)) = true from decide_eq_true (by rw [zi_ne (by omega) (by omega)]; omega), cnd_t, bind_s, gm52 hM, bind_s, am116 hM (by omega), bind_s, h116, hk, show decide (zi 8 = Int32.ofInt 1) = false from by decide, cnd_f, show decide (zi 8 = Int32.ofInt (1 + 1)) = false from by decide, cnd_f, show decide (zi 8 = Int32.ofInt ((1 + 1) + 1)) = false from by decide, cnd_f, show decide (zi 8 = Int32.ofInt (((1 + 1) + 1) + 1)) = false from by decide, cnd_f, show decide (zi 8 = Int32.ofInt ((((1 + 1) + 1) + 1) + 1)) = false from by decide, cnd_f, show decide (zi 8 = Int32.ofInt (((((1 + 1) + 1) + 1) + 1) + 1)) = false from by decide, cnd_f, show decide (zi 8 = Int32.ofInt ((((((1 + 1) + 1) + 1) + 1) + 1) + 1)) = false from by decide, cnd_f, show decide (zi 8 = Int32.ofInt (((((((1 + 1) + 1) + 1) + 1) + 1) + 1) + 1)) = true from by decide, cnd_t, gm83 hM, bind_s, g83, hsub, pm83 hM, bind_s, ← hm1, hz3, cnd_f, gm88 hM, bind_s, gm83 hM, bind_s, c83, am140 hM (by omega), bind_s, p140, hz4, cnd_f, gm77 hM, bind_s, g77, cmp_le0, decide_eq_false (by rw [zl_le (by omega) (by omega)]; exact hc : ¬ zl X ≤ zl Y), cnd_f]
          exact s842
    · have hz3 : decide (zi w ≤ (2 : Int32)) = false := by rw [hwe]; decide
      have hz4 : decide (zi w ≠ (3 : Int32)) = true := by rw [hwe]; decide
      by_cases hc : Y ≤ X
      · refine ⟨Y, ?_, ?_⟩
        · unfold mxw
          rw [if_neg (by omega : ¬ w = 3)]
          by_cases h' : c.2 < sp
          · omega
          · rw [if_neg h']; omega
        · refine (b174_41 hG ..).trans ?_
          rw [gm78 hM, bind_s, g78, gm51 hM, bind_s, am115 hM i1, bind_s, h115, ix, decide_eq_true (by rw [zi_lt (by omega) (by omega)]; omega : zi (24 * r + p) < zi (24 * r + qn Q r)), cnd_t]
          refine (b174_68 hG ..).trans ?_
          rw [gm78 hM, bind_s, g78, gm51 hM, bind_s, am115 hM i1, bind_s, h115, ix, show decide (zi (24 * r + p) ≠ zi (24 * r + qn Q r)) = true from decide_eq_true (by rw [zi_ne (by omega) (by omega)]; omega), cnd_t, bind_s, gm52 hM, bind_s, am116 hM (by omega), bind_s, h116, hk, show decide (zi 8 = Int32.ofInt 1) = false from by decide, cnd_f, show decide (zi 8 = Int32.ofInt (1 + 1)) = false from by decide, cnd_f, show decide (zi 8 = Int32.ofInt ((1 + 1) + 1)) = false from by decide, cnd_f, show decide (zi 8 = Int32.ofInt (((1 + 1) + 1) + 1)) = false from by decide, cnd_f, show decide (zi 8 = Int32.ofInt ((((1 + 1) + 1) + 1) + 1)) = false from by decide, cnd_f, show decide (zi 8 = Int32.ofInt (((((1 + 1) + 1) + 1) + 1) + 1)) = false from by decide, cnd_f, show decide (zi 8 = Int32.ofInt ((((((1 + 1) + 1) + 1) + 1) + 1) + 1)) = false from by decide, cnd_f, show decide (zi 8 = Int32.ofInt (((((((1 + 1) + 1) + 1) + 1) + 1) + 1) + 1)) = true from by decide, cnd_t, gm83 hM, bind_s, g83, hsub, pm83 hM, bind_s, ← hm1, hz3, cnd_f, gm88 hM, bind_s, gm83 hM, bind_s, c83, am140 hM (by omega), bind_s, p140, hz4, cnd_t, gm77 hM, bind_s, g77, cmp_0le, decide_eq_true (by rw [zl_le (by omega) (by omega)]; exact hc : zl Y ≤ zl X), cnd_t]
          exact s847
      · refine ⟨X, ?_, ?_⟩
        · unfold mxw
          rw [if_neg (by omega : ¬ w = 3), if_pos (by omega)]
          omega
        · refine (b174_41 hG ..).trans ?_
          rw [gm78 hM, bind_s, g78, gm51 hM, bind_s, am115 hM i1, bind_s, h115, ix, decide_eq_true (by rw [zi_lt (by omega) (by omega)]; omega : zi (24 * r + p) < zi (24 * r + qn Q r)), cnd_t]
          refine (b174_68 hG ..).trans ?_
          rw [gm78 hM, bind_s, g78, gm51 hM, bind_s, am115 hM i1, bind_s, h115, ix, show decide (zi (24 * r + p) ≠ zi (24 * r + qn Q r)) = true from decide_eq_true (by rw [zi_ne (by omega) (by omega)]; omega), cnd_t, bind_s, gm52 hM, bind_s, am116 hM (by omega), bind_s, h116, hk, show decide (zi 8 = Int32.ofInt 1) = false from by decide, cnd_f, show decide (zi 8 = Int32.ofInt (1 + 1)) = false from by decide, cnd_f, show decide (zi 8 = Int32.ofInt ((1 + 1) + 1)) = false from by decide, cnd_f, show decide (zi 8 = Int32.ofInt (((1 + 1) + 1) + 1)) = false from by decide, cnd_f, show decide (zi 8 = Int32.ofInt ((((1 + 1) + 1) + 1) + 1)) = false from by decide, cnd_f, show decide (zi 8 = Int32.ofInt (((((1 + 1) + 1) + 1) + 1) + 1)) = false from by decide, cnd_f, show decide (zi 8 = Int32.ofInt ((((((1 + 1) + 1) + 1) + 1) + 1) + 1)) = false from by decide, cnd_f, show decide (zi 8 = Int32.ofInt (((((((1 + 1) + 1) + 1) + 1) + 1) + 1) + 1)) = true from by decide, cnd_t, gm83 hM, bind_s, g83, hsub, pm83 hM, bind_s, ← hm1, hz3, cnd_f, gm88 hM, bind_s, gm83 hM, bind_s, c83, am140 hM (by omega), bind_s, p140, hz4, cnd_t, gm77 hM, bind_s, g77, cmp_0le, decide_eq_false (by rw [zl_le (by omega) (by omega)]; exact hc : ¬ zl Y ≤ zl X), cnd_f]
          exact s842
  obtain ⟨v, hv, lhs⟩ := lhs
  have ag : ∀ m, AGr m mi m2 ml (up2 ml 114 77 (zl v)) := fun m => AGr_o (fun a h1 h2 => by rw [hm2, hm1, up2_n _ _ (by omega), up2_n _ _ (by omega)]) (fun a h1 h2 => up2_n _ _ (by omega))
  refine ⟨m2, up2 ml 114 77 (zl v), zi (24 * r + p), some (.inr (.inl (zl X))), none, o9, lhs.trans (b174_1056 hG ..), ?_, ?_⟩
  · refine ⟨⟨by rw [hm2, up2_s, up1_n _ _ (by decide), hm1, up2_s, up1_n _ _ (by decide)]; exact g76, ?_, by rw [hm2, up2_s, up1_n _ _ (by decide), hm1, up2_s, up1_n _ _ (by decide)]; exact g57, by rw [hm2, up2_s, up1_s], by rw [hm2, up2_s, up1_n _ _ (by decide), hm1, up2_s, up1_n _ _ (by decide)]; exact g79, by rw [hm2, up2_s, up1_n _ _ (by decide), hm1, up2_s, up1_n _ _ (by decide)]; exact g80, ?_, ?_⟩, fun j hj => ?_, ?_, PFs_mv hW (ag _) i7 (Nat.le_refl _) f3⟩
    · rw [up2_s, up1_s, s2, hv]
    · rw [s2]; exact (by rw [hm2, up2_s, up1_n _ _ (by decide), hm1, up2_s, up1_n _ _ (by decide)]; exact g81)
    · rw [s2, ← hh]; exact (by rw [hm2, up2_s, up1_n _ _ (by decide), hm1, up2_s, up1_s])
    · rw [s2] at hj ⊢
      have f1' := f1 j (by rw [lps_2]; exact hj)
      rw [cf_2] at f1'
      rw [hm2, up2_n _ _ (by decide), hm1, up2_n _ _ (by decide)]
      exact f1'
    · rw [s2]
      exact PE_mv (ag _) (Nat.le_refl _) f2
  · rw [hm2, hm1]
    exact MRf_trans (MRf_trans (MRf_f (by decide)) (MRf_f (by decide))) (MRf_l (by decide))
/-- any step -/
theorem m174s {G : AG} (hG : FIX G) {s : Nat → Nat × Nat} {mr : Nat → Nat → Nat} (hM : MS s mr) {n : Nat × Nat} {Q : Pg} {w t r p x0 x1 sp k : Nat} {z a1 a2 a3 : Int32} {L : List En} {R : List Fr} {mi : Nat → Nat → Int32} {ml : Nat → Nat → Int64} {o6 o7 o8 o9 : Option AV} (hW : WP Q) (hD : mdQ Q mi) (hw : w ≤ 4) (hI : IA Q t ((r, p, x0, x1, L) :: R, sp, k, z)) (hR : RMd Q w mi ml ((r, p, x0, x1, L) :: R, sp, k, z)) :
    PM G s n mr a1 a2 a3 Q w mi ml (G 174 41 [some (.inr (.inr 114)), some (.inl a1), some (.inl a2), some (.inl a3), some (.inl (zi w)), some (.inl (zi r)), o6, o7, o8, o9] [] (s, n, mi, ml, mr)) (stA Q w ((r, p, x0, x1, L) :: R, sp, k, z)) := by
  have i3 : p ≤ qn Q r := hI.1.1.2.2.1
  have i4 : L.length = (stk (qk Q r) p).length := hI.1.1.2.2.2.1
  by_cases hp : p = qn Q r
  · subst hp
    exact m174e hG hM hW hD hI hR
  have hp' : p < qn Q r := by omega
  have hne : (∃ y T, stk (qk Q r) p = y :: T) → ∃ c L', L = c :: L' := by
    rintro ⟨y, T, h⟩
    rw [h] at i4
    cases L with
    | nil => cases i4
    | cons c L' => exact ⟨c, L', rfl⟩
  rcases hW.2.2.2.1 r p hp' with h | ⟨h, -⟩ | h | h | ⟨h, q, T, hS⟩ | ⟨h, q, T, hS⟩ | ⟨h, q, T, hS⟩
  · exact m174w hG hM hW hD hI hR hp' h
  · exact m174l hG hM hW hD hI hR hp' h
  · exact m174c hG hM hW hD hI hR hp' h
  · exact m174i hG hM hW hD hw hI hR hp' h
  · obtain ⟨c, L', rfl⟩ := hne ⟨_, _, hS⟩
    exact m174d hG hM hW hD hI hR hp' h
  · obtain ⟨c, L', rfl⟩ := hne ⟨_, _, hS⟩
    exact m174o hG hM hW hD hw hI hR hp' h
  · obtain ⟨c, L', rfl⟩ := hne ⟨_, _, hS⟩
    exact m174y hG hM hW hD hw hI hR hp' h
theorem m174f {G : AG} (hG : FIX G) {s : Nat → Nat × Nat} {mr : Nat → Nat → Nat} (hM : MS s mr) {n : Nat × Nat} {Q : Pg} {w : Nat} {a1 a2 a3 : Int32} (hW : WP Q) (hw : w ≤ 4) : ∀ (f t : Nat) (A : Rs) (mi : Nat → Nat → Int32) (ml : Nat → Nat → Int64) (o6 o7 o8 o9 : Option AV), t + f = 500100 → mdQ Q mi → IA Q t A → RMd Q w mi ml A → ∃ mi' ml', G 174 41 [some (.inr (.inr 114)), some (.inl a1), some (.inl a2), some (.inl a3), some (.inl (zi w)), some (.inl (zi (tpr A))), o6, o7, o8, o9] [] (s, n, mi, ml, mr) = some (some (.inl (rnf Q w f A).1), (s, n, mi', ml', mr)) ∧ mi' 114 57 = (rnf Q w f A).2 ∧ MRf mi mi' ml ml' := by
  intro f
  induction f with
  | zero =>
    intro t A mi ml _ _ _ _ hf hD hI hR
    have := IA_t hI
    omega
  | succ f ih =>
    intro t A mi ml o6 o7 o8 o9 hf hD hI hR
    obtain ⟨fs, sp, k, z⟩ := A
    cases fs with
    | nil => exact absurd rfl hI.2.1
    | cons fr R =>
      obtain ⟨r, p, x0', x1', L⟩ := fr
      have hP := m174s hG hM (n := n) (a1 := a1) (a2 := a2) (a3 := a3) (o6 := o6) (o7 := o7) (o8 := o8) (o9 := o9) hW hD hw hI hR
      cases hs : stA Q w ((r, p, x0', x1', L) :: R, sp, k, z) with
      | inl v =>
        rw [hs] at hP
        rw [rnf_l hs]
        exact hP
      | inr B =>
        rw [hs] at hP
        rw [rnf_r hs]
        obtain ⟨m1, l1, y6, y7, y8, y9, e1, e2, e3⟩ := hP
        obtain ⟨m2, l2, g1, g2, g3⟩ := ih (t + 1) B m1 l1 (some (.inl y6)) y7 y8 y9 (by omega) (mdQ_MR hD e3) (IA_st hW hI hs) e2
        exact ⟨m2, l2, e1.trans g1, g2, MRf_trans e3 g3⟩
theorem m174 {G : AG} (hG : FIX G) {s : Nat → Nat × Nat} {mr : Nat → Nat → Nat} (hM : MS s mr) {n : Nat × Nat} {Q : Pg} {w r x0 x1 : Nat} {z : Int32} {mi : Nat → Nat → Int32} {ml : Nat → Nat → Int64} (hW : WP Q) (hw : w ≤ 4) (hD : mdQ Q mi) (hr : r < 8) (hwh : whl Q r = true) (h0 : x0 ≤ 20) (h1 : x1 ≤ 20) (h57 : mi 114 57 = z) : ∃ mi' ml', G 174 0 [some (.inr (.inr 114)), some (.inl (zi r)), some (.inl (zi x0)), some (.inl (zi x1)), some (.inl (zi w)), none, none, none, none, none] [] (s, n, mi, ml, mr) = some (some (.inl (rn Q w r x0 x1 z).1), (s, n, mi', ml', mr)) ∧ mi' 114 57 = (rn Q w r x0 x1 z).2 ∧ MRf mi mi' ml ml' := by
  obtain ⟨m1, hm1⟩ : ∃ m, m = up2 (up2 (up2 (up2 (up2 (up2 mi 114 76 (zi 0)) 114 78 (zi (24 * r))) 114 79 (zi x0)) 114 80 (zi x1)) 114 81 (zi 0)) 114 83 (zi 0) := ⟨_, rfl⟩
  have fr1 : MRf mi m1 ml (up2 ml 114 77 (zl 0)) := by
    rw [hm1]
    exact MRf_trans (MRf_trans (MRf_trans (MRf_trans (MRf_trans (MRf_trans (MRf_f (by decide)) (MRf_f (by decide))) (MRf_f (by decide))) (MRf_f (by decide))) (MRf_f (by decide))) (MRf_f (by decide))) (MRf_l (by decide))
  have hR : RMd Q w m1 (up2 ml 114 77 (zl 0)) ([(r, 0, x0, x1, [])], 0, 0, z) := by
    refine ⟨⟨by rw [hm1]; simp only [up2_ap]; rfl, by rw [up2_s, up1_s]; rfl, by rw [hm1]; simp only [up2_ap]; exact h57, by rw [hm1]; simp only [up2_ap]; rfl, by rw [hm1]; simp only [up2_ap]; rfl, by rw [hm1]; simp only [up2_ap]; rfl, by rw [hm1]; simp only [up2_ap]; rfl, by rw [hm1]; simp only [up2_ap]; rfl⟩, fun j hj => absurd hj (Nat.not_lt_zero _), by show PE _ _ _ _ _ _ [] []; unfold PE; exact trivial, trivial⟩
  obtain ⟨m2, l2, g1, g2, g3⟩ := m174f hG hM (n := n) (a1 := zi r) (a2 := zi x0) (a3 := zi x1) hW hw 500100 0 _ _ _ none none none none (by omega) (mdQ_MR hD fr1) (IA_0 hW hr hwh h0 h1) hR
  refine ⟨m2, l2, ?_, g2, MRf_trans fr1 g3⟩
  refine (b174_0 hG ..).trans ?_
  rw [show (0 : Int32) = zi 0 from rfl, pm76 hM, bind_s, show (0 : Int64) = zl 0 from rfl, pm77 hM, bind_s, show (24 : Int32) * zi r = zi (24 * r) from zi_mul 24 r, pm78 hM, bind_s, pm79 hM, bind_s, pm80 hM, bind_s, pm81 hM, bind_s, pm83 hM, bind_s, ← hm1]
  exact g1