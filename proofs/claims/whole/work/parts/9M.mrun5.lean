/-! the model: runs: EITHER -/
theorem m174i {G : AG} (hG : FIX G) {s : Nat → Nat × Nat} {mr : Nat → Nat → Nat} (hM : MS s mr) {n : Nat × Nat} {Q : Pg} {w t r p x0 x1 sp k : Nat} {z a1 a2 a3 : Int32} {L : List En} {R : List Fr} {mi : Nat → Nat → Int32} {ml : Nat → Nat → Int64} {o6 o7 o8 o9 : Option AV} (hW : WP Q) (hD : mdQ Q mi) (hw : w ≤ 4) (hI : IA Q t ((r, p, x0, x1, L) :: R, sp, k, z)) (hR : RMd Q w mi ml ((r, p, x0, x1, L) :: R, sp, k, z)) (hp : p < qn Q r) (hk : qk Q r p = 5) :
    PM G s n mr a1 a2 a3 Q w mi ml (G 174 41 [some (.inr (.inr 114)), some (.inl a1), some (.inl a2), some (.inl a3), some (.inl (zi w)), some (.inl (zi r)), o6, o7, o8, o9] [] (s, n, mi, ml, mr)) (stA Q w ((r, p, x0, x1, L) :: R, sp, k, z)) := by
  have hB := IA_b hI
  have hle := bse_le hW hI.1
  have hFs := hI.1
  obtain ⟨⟨⟨i1, i2, i3, i4, i5⟩, i6, i7⟩, -, j1, j2, jX, j4, j5, jE, j6⟩ := hI
  obtain ⟨⟨g76, g77, g57, g78, g79, g80, g81, g83⟩, f1, f2, f3⟩ := hR
  have j1' : k ≤ 20000 := j1
  have hn24 : qn Q r ≤ 24 := hW.2.1 r
  have hWF := hW.2.2.2.1 r
  have hl3 := lps_3 (WF_le hWF i3)
  have hnil := whl_nil hW i1 i2
  have h115 := hD.2.1 r i1
  obtain ⟨h116, h117, h118, h119⟩ := hD.2.2 r p i1 hp
  have hb12 : Nat.beq (s 114).1 12 = true := by rw [km hM]; rfl
  have ix : (24 : Int32) * zi r + zi (qn Q r) = zi (24 * r + qn Q r) := by rw [show (24 : Int32) = zi 24 from rfl, zi_mul, zi_add]
  obtain ⟨h, hh⟩ : ∃ h, h = bse Q R + (stk (qk Q r) p).length := ⟨_, rfl⟩
  rw [← hh] at g83 hle
  rw [stA_5 hp hk]
  by_cases hk2 : k = 20000
  · rw [if_pos hk2]
    rw [hk2] at g76
    refine ⟨up2 mi 114 76 (zi 20001), ml, ?_, by simp only [up2_ap]; exact g57, MRf_f (by decide)⟩
    refine (b174_41 hG ..).trans ?_
    rw [gm78 hM, bind_s, g78, gm51 hM, bind_s, am115 hM i1, bind_s, h115, ix, decide_eq_true (by rw [zi_lt (by omega) (by omega)]; omega : zi (24 * r + p) < zi (24 * r + qn Q r)), cnd_t]
    refine (b174_68 hG ..).trans ?_
    rw [gm78 hM, bind_s, g78, gm51 hM, bind_s, am115 hM i1, bind_s, h115, ix, show decide (zi (24 * r + p) ≠ zi (24 * r + qn Q r)) = true from decide_eq_true (by rw [zi_ne (by omega) (by omega)]; omega), cnd_t, bind_s, gm52 hM, bind_s, am116 hM (by omega), bind_s, h116, hk, show decide (zi 5 = Int32.ofInt 1) = false from by decide, cnd_f, show decide (zi 5 = Int32.ofInt (1 + 1)) = false from by decide, cnd_f, show decide (zi 5 = Int32.ofInt ((1 + 1) + 1)) = false from by decide, cnd_f, show decide (zi 5 = Int32.ofInt (((1 + 1) + 1) + 1)) = false from by decide, cnd_f, show decide (zi 5 = Int32.ofInt ((((1 + 1) + 1) + 1) + 1)) = true from by decide, cnd_t, hb12, cnd_t, m177_f hG hM g76, bind_s, as_I, bind_s, show decide (bz false ≠ 0) = false from rfl, cnd_f]
  rw [if_neg hk2]
  obtain ⟨m1, hm1⟩ : ∃ m, m = up2 mi 114 76 (zi (k + 1)) := ⟨_, rfl⟩
  obtain ⟨m2, hm2⟩ : ∃ m, m = up2 m1 136 h (zi (24 * r + p)) := ⟨_, rfl⟩
  obtain ⟨m3, hm3⟩ : ∃ m, m = up2 m2 114 83 (zi (h + 1)) := ⟨_, rfl⟩
  have b83 : m1 114 83 = zi h := by rw [hm1, up2_s, up1_n _ _ (by decide)]; exact g83
  have c83 : m2 114 83 = zi h := by rw [hm2, up2_n _ _ (by decide), hm1, up2_s, up1_n _ _ (by decide)]; exact g83
  have lhs : G 174 41 [some (Sum.inr (Sum.inr 114)), some (Sum.inl a1), some (Sum.inl a2), some (Sum.inl a3), some (Sum.inl (zi w)), some (Sum.inl (zi r)), o6, o7, o8, o9] [] (s, n, mi, ml, mr) = (bif decide (zi w ≠ (1 : Int32)) then G 174 639 [some (Sum.inr (Sum.inr 114)), some (Sum.inl a1), some (Sum.inl a2), some (Sum.inl a3), some (Sum.inl (zi w)), some (Sum.inl (zi r)), some (Sum.inl (zi (24 * r + p))), o7, o8, o9] [.inl 0] (s, n, m3, (up2 (up2 ml 114 77 (zl ((sp + (sbe (stk (qk Q r) p) L + bsf Q R)) + 1))) 139 h (zl ((sp + (sbe (stk (qk Q r) p) L + bsf Q R)) + 1))), mr) else G 174 639 [some (Sum.inr (Sum.inr 114)), some (Sum.inl a1), some (Sum.inl a2), some (Sum.inl a3), some (Sum.inl (zi w)), some (Sum.inl (zi r)), some (Sum.inl (zi (24 * r + p))), o7, o8, o9] [.inl 1] (s, n, m3, (up2 (up2 ml 114 77 (zl ((sp + (sbe (stk (qk Q r) p) L + bsf Q R)) + 1))) 139 h (zl ((sp + (sbe (stk (qk Q r) p) L + bsf Q R)) + 1))), mr)) := by
    refine (b174_41 hG ..).trans ?_
    rw [gm78 hM, bind_s, g78, gm51 hM, bind_s, am115 hM i1, bind_s, h115, ix, decide_eq_true (by rw [zi_lt (by omega) (by omega)]; omega : zi (24 * r + p) < zi (24 * r + qn Q r)), cnd_t]
    refine (b174_68 hG ..).trans ?_
    rw [gm78 hM, bind_s, g78, gm51 hM, bind_s, am115 hM i1, bind_s, h115, ix, show decide (zi (24 * r + p) ≠ zi (24 * r + qn Q r)) = true from decide_eq_true (by rw [zi_ne (by omega) (by omega)]; omega), cnd_t, bind_s, gm52 hM, bind_s, am116 hM (by omega), bind_s, h116, hk, show decide (zi 5 = Int32.ofInt 1) = false from by decide, cnd_f, show decide (zi 5 = Int32.ofInt (1 + 1)) = false from by decide, cnd_f, show decide (zi 5 = Int32.ofInt ((1 + 1) + 1)) = false from by decide, cnd_f, show decide (zi 5 = Int32.ofInt (((1 + 1) + 1) + 1)) = false from by decide, cnd_f, show decide (zi 5 = Int32.ofInt ((((1 + 1) + 1) + 1) + 1)) = true from by decide, cnd_t, hb12, cnd_t, m177_t hG hM g76 (by omega), bind_s, as_I, bind_s, show decide (bz true ≠ 0) = true from rfl, cnd_t, ← hm1, gm77 hM, bind_s, g77, show zl (sp + (sbe (stk (qk Q r) p) L + bsf Q R)) + 1 = zl ((sp + (sbe (stk (qk Q r) p) L + bsf Q R)) + 1) from zl_add _ 1, pm77 hM, bind_s, gm84 hM, bind_s, gm83 hM, bind_s, b83, wm136 hM (by omega), bind_s, ← hm2, gm87 hM, bind_s, gm83 hM, bind_s, c83, gm77 hM, bind_s, up2_s, up1_s, wm139 hM (by omega), bind_s, gm83 hM, bind_s, c83, show zi h + 1 = zi (h + 1) from zi_add _ 1, pm83 hM, bind_s, ← hm3]
  rw [lhs]
  obtain ⟨E0, q1, q2, q3, q4⟩ := opn_or hWF hnil hp hk
  obtain ⟨k1, k2, k3, k4, k5⟩ := cls_ok ⟨E0, q1, q2, q3, q4⟩
  obtain ⟨E, hEe⟩ : ∃ E, E = cls (qk Q r) (qn Q r) p 7 := ⟨_, rfl⟩
  have hx : ∀ x, p < x → x < cls (qk Q r) (qn Q r) p 7 → ¬ ((qk Q r x = 6 ∨ qk Q r x = 8 ∨ qk Q r x = 7) ∧ hdp (stk (qk Q r) x) = p) := fun x hx hx2 hc => by
    rcases hc with ⟨h6 | h8 | h7, hdp6⟩
    · have := (st_end hWF (by omega) h6 hdp6).2.2.2; omega
    · have := or_lt hWF k4 k1 k2 (by omega) h8 hdp6; omega
    · exact k5 x hx hx2 ⟨h7, hdp6⟩
  have es2 := (st_or hWF k4 k1 k2).2.1
  have es1 : stk (qk Q r) (p + 1) = (p, 1) :: stk (qk Q r) p := by show stq (qk Q r p) p _ = _; rw [hk, stq_5]
  have e176 : ∀ m : Nat → Nat → Int32, mdQ Q m → G 176 0 [some (.inr (.inr 114)), some (.inl (zi (24 * r + p))), some (.inl (zi 7)), none, none] [] (s, n, m, (up2 (up2 ml 114 77 (zl ((sp + (sbe (stk (qk Q r) p) L + bsf Q R)) + 1))) 139 h (zl ((sp + (sbe (stk (qk Q r) p) L + bsf Q R)) + 1))), mr) = some (some (.inl (zi (24 * r + E))), (s, n, m, (up2 (up2 ml 114 77 (zl ((sp + (sbe (stk (qk Q r) p) L + bsf Q R)) + 1))) 139 h (zl ((sp + (sbe (stk (qk Q r) p) L + bsf Q R)) + 1))), mr)) := fun m hm => by
    rw [hEe]
    exact m176 hG hM (n := n) (v := 7) hW hm i1 (Or.inr hk) (by decide) ⟨k1, k2, k3, k4⟩ hx
  rw [← hEe] at es2 ⊢
  have fr3 : MRf mi m3 ml (up2 (up2 ml 114 77 (zl ((sp + (sbe (stk (qk Q r) p) L + bsf Q R)) + 1))) 139 h (zl ((sp + (sbe (stk (qk Q r) p) L + bsf Q R)) + 1))) := by
    rw [hm3, hm2, hm1]
    exact MRf_trans (MRf_trans (MRf_trans (MRf_trans (MRf_f (by decide)) (MRf_a (by decide))) (MRf_f (by decide))) (MRf_l (Or.inl rfl))) (MRf_l (by decide))
  have n57 : m3 114 57 = z := by rw [hm3, up2_s, up1_n _ _ (by decide), hm2, up2_n _ _ (by decide), hm1, up2_s, up1_n _ _ (by decide)]; exact g57
  have sA : ∀ m : Nat → Nat → Int32, G 174 683 [some (Sum.inr (Sum.inr 114)), some (Sum.inl a1), some (Sum.inl a2), some (Sum.inl a3), some (Sum.inl (zi w)), some (Sum.inl (zi r)), some (Sum.inl (zi (24 * r + p))), some (Sum.inl 0), o8, o9] [] (s, n, m, (up2 (up2 ml 114 77 (zl ((sp + (sbe (stk (qk Q r) p) L + bsf Q R)) + 1))) 139 h (zl ((sp + (sbe (stk (qk Q r) p) L + bsf Q R)) + 1))), mr) = G 174 1056 [some (Sum.inr (Sum.inr 114)), some (Sum.inl a1), some (Sum.inl a2), some (Sum.inl a3), some (Sum.inl (zi w)), some (Sum.inl (zi r)), some (Sum.inl (zi (24 * r + p))), some (Sum.inl 0), o8, o9] [] (s, n, up2 m 114 78 (zi (24 * r + (p + 1))), (up2 (up2 ml 114 77 (zl ((sp + (sbe (stk (qk Q r) p) L + bsf Q R)) + 1))) 139 h (zl ((sp + (sbe (stk (qk Q r) p) L + bsf Q R)) + 1))), mr) := by
    intro m
    refine (b174_683 hG ..).trans ?_
    rw [decide_eq_true (rfl : (0 : Int32) = 0), cnd_t]
    refine (b174_706 hG ..).trans ?_
    rw [show zi (24 * r + p) + 1 = zi (24 * r + (p + 1)) from zi_add _ 1, pm78 hM, bind_s]
  have sB : ∀ m : Nat → Nat → Int32, mdQ Q m → G 174 683 [some (Sum.inr (Sum.inr 114)), some (Sum.inl a1), some (Sum.inl a2), some (Sum.inl a3), some (Sum.inl (zi w)), some (Sum.inl (zi r)), some (Sum.inl (zi (24 * r + p))), some (Sum.inl 1), o8, o9] [] (s, n, m, (up2 (up2 ml 114 77 (zl ((sp + (sbe (stk (qk Q r) p) L + bsf Q R)) + 1))) 139 h (zl ((sp + (sbe (stk (qk Q r) p) L + bsf Q R)) + 1))), mr) = G 174 1056 [some (Sum.inr (Sum.inr 114)), some (Sum.inl a1), some (Sum.inl a2), some (Sum.inl a3), some (Sum.inl (zi w)), some (Sum.inl (zi r)), some (Sum.inl (zi (24 * r + p))), some (Sum.inl 1), o8, o9] [] (s, n, up2 m 114 78 (zi (24 * r + (E + 1))), (up2 (up2 ml 114 77 (zl ((sp + (sbe (stk (qk Q r) p) L + bsf Q R)) + 1))) 139 h (zl ((sp + (sbe (stk (qk Q r) p) L + bsf Q R)) + 1))), mr) := by
    intro m hm
    refine (b174_683 hG ..).trans ?_
    rw [decide_eq_false (by decide : ¬ (1 : Int32) = 0), cnd_f, hb12, cnd_t, show (7 : Int32) = zi 7 from rfl, e176 m hm, bind_s, as_I, bind_s]
    refine (b174_706 hG ..).trans ?_
    rw [show zi (24 * r + E) + 1 = zi (24 * r + (E + 1)) from zi_add _ 1, pm78 hM, bind_s]
  have ag : AGr h mi m3 ml (up2 (up2 ml 114 77 (zl ((sp + (sbe (stk (qk Q r) p) L + bsf Q R)) + 1))) 139 h (zl ((sp + (sbe (stk (qk Q r) p) L + bsf Q R)) + 1))) := by
    rw [hm3, hm2, hm1]
    refine ⟨fun i hi => ⟨?_, ?_, ?_, ?_, ?_⟩, fun i hi => ?_⟩
    · rw [up2_n _ _ (by decide), up2_s, up1_n _ _ (by omega), up2_n _ _ (by decide)]
    · repeat rw [up2_n _ _ (by decide)]
    · repeat rw [up2_n _ _ (by decide)]
    · rw [up2_s, up1_n _ _ (by omega), up2_n _ _ (by decide)]
    · repeat rw [up2_n _ _ (by decide)]
    · repeat rw [up2_n _ _ (by decide)]
  have fin : ∀ (mf : Nat → Nat → Int32) (p' y : Nat) (c : En) (sp' : Nat) (z' : Int32), (∀ a, a ≠ 114 → mf a = m3 a) → (∀ f, f ≠ 57 → f ≠ 78 → mf 114 f = m3 114 f) → mf 114 57 = z' → mf 114 78 = zi (24 * r + p') → stk (qk Q r) p' = (p, y) :: stk (qk Q r) p → (y = 1 ∨ y = 2) → sp' + c.1 = sp + 1 → (3 ≤ w → y = 1 ∧ c.1 = sp + 1) → (w < 3 → c.1 = 0) → RMd Q w mf (up2 (up2 ml 114 77 (zl ((sp + (sbe (stk (qk Q r) p) L + bsf Q R)) + 1))) 139 h (zl ((sp + (sbe (stk (qk Q r) p) L + bsf Q R)) + 1))) ((r, p', x0, x1, c :: L) :: R, sp', k + 1, z') := by
    intro mf p' y c sp' z' ha hf h57 h78 hs hy hsp hw3 hz
    have hlp : lps ((p, y) :: stk (qk Q r) p) = lps (stk (qk Q r) p) := by rcases hy with rfl | rfl <;> first | exact lps_1 _ _ | exact lps_2 _ _
    have hcf : ∀ j, cf ((p, y) :: stk (qk Q r) p) (c :: L) j = cf (stk (qk Q r) p) L j := fun j => by rcases hy with rfl | rfl <;> rfl
    have hsb : sbe ((p, y) :: stk (qk Q r) p) (c :: L) = c.1 + sbe (stk (qk Q r) p) L := by rcases hy with rfl | rfl <;> rfl
    have agf : AGr h mi mf ml (up2 (up2 ml 114 77 (zl ((sp + (sbe (stk (qk Q r) p) L + bsf Q R)) + 1))) 139 h (zl ((sp + (sbe (stk (qk Q r) p) L + bsf Q R)) + 1))) := ⟨fun i hi => by rw [ha 136 (by decide), ha 137 (by decide), ha 138 (by decide)]; exact ag.1 i hi, fun i hi => by rw [ha 141 (by decide)]; exact ag.2 i hi⟩
    have c136 : mf 136 h = zi (24 * r + p) := by rw [ha 136 (by decide)]; exact by rw [hm3, up2_n _ _ (by decide), hm2, up2_s, up1_s]
    have c139 : (up2 (up2 ml 114 77 (zl ((sp + (sbe (stk (qk Q r) p) L + bsf Q R)) + 1))) 139 h (zl ((sp + (sbe (stk (qk Q r) p) L + bsf Q R)) + 1))) 139 h = zl ((sp + (sbe (stk (qk Q r) p) L + bsf Q R)) + 1) := by rw [up2_s, up1_s]
    refine ⟨⟨?_, ?_, h57, h78, ?_, ?_, ?_, ?_⟩, fun j hj => ?_, ?_, PFs_mv hW (AGr_le agf (by omega)) i7 (Nat.le_refl _) f3⟩
    · rw [hf _ (by decide) (by decide)]; exact by rw [hm3, up2_s, up1_n _ _ (by decide), hm2, up2_n _ _ (by decide), hm1, up2_s, up1_s]
    · rw [up2_n _ _ (by decide), up2_s, up1_s, hs, hsb]
      congr 1
      omega
    · rw [hf _ (by decide) (by decide)]; exact by rw [hm3, up2_s, up1_n _ _ (by decide), hm2, up2_n _ _ (by decide), hm1, up2_s, up1_n _ _ (by decide)]; exact g79
    · rw [hf _ (by decide) (by decide)]; exact by rw [hm3, up2_s, up1_n _ _ (by decide), hm2, up2_n _ _ (by decide), hm1, up2_s, up1_n _ _ (by decide)]; exact g80
    · rw [hf _ (by decide) (by decide), hs, hlp]; exact by rw [hm3, up2_s, up1_n _ _ (by decide), hm2, up2_n _ _ (by decide), hm1, up2_s, up1_n _ _ (by decide)]; exact g81
    · rw [hf _ (by decide) (by decide), hs, List.length_cons, ← Nat.add_assoc, ← hh]; exact by rw [hm3, up2_s, up1_s]
    · rw [hs, hlp] at hj
      rw [hs, hcf, ha 135 (by decide), hm3, up2_n _ _ (by decide), hm2, up2_n _ _ (by decide), hm1, up2_n _ _ (by decide)]
      exact f1 j hj
    · rw [hs]
      rcases hy with rfl | rfl
      · rw [PE_1, ← hh]
        exact ⟨⟨c136, fun h3 => by rw [c139, (hw3 h3).2]; congr 1; omega, hz⟩, PE_mv agf (by omega) f2⟩
      · rw [PE_2, ← hh]
        exact ⟨⟨c136, fun h3 => absurd (hw3 h3).1 (by decide), hz⟩, PE_mv agf (by omega) f2⟩
  by_cases hw3 : 3 ≤ w
  · rw [if_pos hw3, show decide (zi w ≠ (1 : Int32)) = true from decide_eq_true (by show zi w ≠ zi 1; rw [zi_ne (by omega) (by omega)]; omega), cnd_t]
    have l639 := (b174_639 hG (x0 := 114) (x1 := a1) (x2 := a2) (x3 := a3) (x4 := zi w) (x5 := zi r) (x6 := zi (24 * r + p)) (o7 := o7) (o8 := o8) (o9 := o9) (s0 := 0) (H := (s, n, m3, (up2 (up2 ml 114 77 (zl ((sp + (sbe (stk (qk Q r) p) L + bsf Q R)) + 1))) 139 h (zl ((sp + (sbe (stk (qk Q r) p) L + bsf Q R)) + 1))), mr)))
    rw [show decide (zi w ≠ (2 : Int32)) = true from decide_eq_true (by show zi w ≠ zi 2; rw [zi_ne (by omega) (by omega)]; omega), cnd_t, sA] at l639
    refine ⟨_, _, _, _, _, _, l639.trans (b174_1056 hG ..), fin _ (p + 1) 1 _ 0 _ (fun a ha => up2_n _ _ ha) (fun f _ h2 => by rw [up2_s, up1_n _ _ h2]) (by rw [up2_s, up1_n _ _ (by decide)]; exact n57) (by rw [up2_s, up1_s]) es1 (Or.inl rfl) (by show 0 + (sp + 1) = sp + 1; omega) (fun _ => ⟨rfl, rfl⟩) (fun h => absurd h (by omega)), MRf_trans fr3 (MRf_f (by decide))⟩
  rw [if_neg hw3]
  have hw012 : w = 0 ∨ w = 1 ∨ w = 2 := by omega
  rcases hw012 with hw0 | hw0 | hw0
  · rw [if_neg (by omega), if_neg (by omega), show decide (zi w ≠ (1 : Int32)) = true from decide_eq_true (by show zi w ≠ zi 1; rw [zi_ne (by omega) (by omega)]; omega), cnd_t]
    have l639 := (b174_639 hG (x0 := 114) (x1 := a1) (x2 := a2) (x3 := a3) (x4 := zi w) (x5 := zi r) (x6 := zi (24 * r + p)) (o7 := o7) (o8 := o8) (o9 := o9) (s0 := 0) (H := (s, n, m3, (up2 (up2 ml 114 77 (zl ((sp + (sbe (stk (qk Q r) p) L + bsf Q R)) + 1))) 139 h (zl ((sp + (sbe (stk (qk Q r) p) L + bsf Q R)) + 1))), mr)))
    rw [show decide (zi w ≠ (2 : Int32)) = true from decide_eq_true (by show zi w ≠ zi 2; rw [zi_ne (by omega) (by omega)]; omega), cnd_t, sA] at l639
    refine ⟨_, _, _, _, _, _, l639.trans (b174_1056 hG ..), fin _ (p + 1) 1 _ _ _ (fun a ha => up2_n _ _ ha) (fun f _ h2 => by rw [up2_s, up1_n _ _ h2]) (by rw [up2_s, up1_n _ _ (by decide)]; exact n57) (by rw [up2_s, up1_s]) es1 (Or.inl rfl) rfl (fun h => absurd h hw3) (fun _ => rfl), MRf_trans fr3 (MRf_f (by decide))⟩
  · rw [if_neg (by omega), if_pos hw0, show decide (zi w ≠ (1 : Int32)) = false from decide_eq_false (by rw [hw0]; decide), cnd_f]
    have l639 := (b174_639 hG (x0 := 114) (x1 := a1) (x2 := a2) (x3 := a3) (x4 := zi w) (x5 := zi r) (x6 := zi (24 * r + p)) (o7 := o7) (o8 := o8) (o9 := o9) (s0 := 1) (H := (s, n, m3, (up2 (up2 ml 114 77 (zl ((sp + (sbe (stk (qk Q r) p) L + bsf Q R)) + 1))) 139 h (zl ((sp + (sbe (stk (qk Q r) p) L + bsf Q R)) + 1))), mr)))
    rw [show decide (zi w ≠ (2 : Int32)) = true from decide_eq_true (by show zi w ≠ zi 2; rw [zi_ne (by omega) (by omega)]; omega), cnd_t, sB m3 (mdQ_MR hD fr3)] at l639
    refine ⟨_, _, _, _, _, _, l639.trans (b174_1056 hG ..), fin _ (E + 1) 2 _ _ _ (fun a ha => up2_n _ _ ha) (fun f _ h2 => by rw [up2_s, up1_n _ _ h2]) (by rw [up2_s, up1_n _ _ (by decide)]; exact n57) (by rw [up2_s, up1_s]) es2 (Or.inr rfl) rfl (fun h => absurd h hw3) (fun _ => rfl), MRf_trans fr3 (MRf_f (by decide))⟩
  · rw [if_pos hw0, show decide (zi w ≠ (1 : Int32)) = true from decide_eq_true (by rw [hw0]; decide), cnd_t]
    have l639 := (b174_639 hG (x0 := 114) (x1 := a1) (x2 := a2) (x3 := a3) (x4 := zi w) (x5 := zi r) (x6 := zi (24 * r + p)) (o7 := o7) (o8 := o8) (o9 := o9) (s0 := 0) (H := (s, n, m3, (up2 (up2 ml 114 77 (zl ((sp + (sbe (stk (qk Q r) p) L + bsf Q R)) + 1))) 139 h (zl ((sp + (sbe (stk (qk Q r) p) L + bsf Q R)) + 1))), mr)))
    rw [show decide (zi w ≠ (2 : Int32)) = false from decide_eq_false (by rw [hw0]; decide), cnd_f, gm57 hM, bind_s, n57, pm57 hM, bind_s, gm57 hM, bind_s, up2_s, up1_s, show z * 1103515245 + 12345 = lotN z from rfl] at l639
    have hlt : decide ((((lotN z) >>> (16 &&& 31)) &&& 1) ≠ (1 : Int32)) = !lot2 (lotN z) := by
      unfold lot2
      by_cases hc : (((lotN z) >>> (16 &&& 31)) &&& 1) = (1 : Int32)
      · rw [decide_eq_true hc, decide_eq_false (fun hn => hn hc)]; rfl
      · rw [decide_eq_false hc, decide_eq_true hc]; rfl
    rw [hlt] at l639
    have fr4 : MRf mi (up2 m3 114 57 (lotN z)) ml (up2 (up2 ml 114 77 (zl ((sp + (sbe (stk (qk Q r) p) L + bsf Q R)) + 1))) 139 h (zl ((sp + (sbe (stk (qk Q r) p) L + bsf Q R)) + 1))) := MRf_trans fr3 (MRf_f (by decide))
    cases hl : lot2 (lotN z)
    · rw [hl, Bool.not_false, cnd_t, b174_681 hG, sA] at l639
      rw [cnd_f]
      refine ⟨_, _, _, _, _, _, l639.trans (b174_1056 hG ..), fin _ (p + 1) 1 _ _ _ (fun a ha => by rw [up2_n _ _ ha, up2_n _ _ ha]) (fun f h1 h2 => by rw [up2_s, up1_n _ _ h2, up2_s, up1_n _ _ h1]) (by rw [up2_s, up1_n _ _ (by decide), up2_s, up1_s]) (by rw [up2_s, up1_s]) es1 (Or.inl rfl) rfl (fun h => absurd h hw3) (fun _ => rfl), MRf_trans fr4 (MRf_f (by decide))⟩
    · rw [hl, Bool.not_true, cnd_f, b174_681 hG, sB _ (mdQ_MR hD fr4)] at l639
      rw [cnd_t]
      refine ⟨_, _, _, _, _, _, l639.trans (b174_1056 hG ..), fin _ (E + 1) 2 _ _ _ (fun a ha => by rw [up2_n _ _ ha, up2_n _ _ ha]) (fun f h1 h2 => by rw [up2_s, up1_n _ _ h2, up2_s, up1_n _ _ h1]) (by rw [up2_s, up1_n _ _ (by decide), up2_s, up1_s]) (by rw [up2_s, up1_s]) es2 (Or.inr rfl) rfl (fun h => absurd h hw3) (fun _ => rfl), MRf_trans fr4 (MRf_f (by decide))⟩