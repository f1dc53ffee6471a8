/-! the class: runs: LOOP, END -/
theorem RC_41 {Q : Pg} {w : Nat} {mi : Nat → Nat → Int32} {ml mr} {A : Rs} (h : RC Q w mi ml mr A) : mi 41 34 = zi w ∧ mi 41 35 = zi A.2.1 ∧ mi 41 36 = zi A.2.2.1 ∧ mi 41 37 = bz false ∧ mi 41 33 = A.2.2.2 := h.1
theorem c110l {G : AG} (hG : FIX G) {s : Nat → Nat × Nat} {mr : Nat → Nat → Nat} (hC : CS s mr) {n : Nat × Nat} {Q : Pg} {N w t r p x0 x1 sp k : Nat} {z : Int32} {L : List En} {R : List Fr} {mi : Nat → Nat → Int32} {ml : Nat → Nat → Int64} (hW : WP Q) (hQ : CQ Q N s mi mr) (hI : IA Q t ((r, p, x0, x1, L) :: R, sp, k, z)) (hR : RC Q w mi ml mr ((r, p, x0, x1, L) :: R, sp, k, z)) (hp : p < qn Q r) (hk : qk Q r p = 3) :
    ∃ mi' ml' mr', G 110 0 [some (.inr (.inr 41)), some (.inr (.inr (42 + 9 * r))), none, none, none, none, none] [] (s, n, mi, ml, mr) = some (none, (s, n, mi', ml', mr')) ∧ PC Q w mi' ml' mr' (stA Q w ((r, p, x0, x1, L) :: R, sp, k, z)) ∧ CRf mi mi' ml ml' mr mr' := by
  have hgt := FsI_gt hW hI.1
  obtain ⟨⟨⟨i1, i2, i3, i4, i5⟩, i6, i7⟩, -, j1, j2, jX, -⟩ := hI
  obtain ⟨⟨g1, g2, g3, g4, g5⟩, ⟨g6, g7⟩, ⟨f1, f2, f3, f4, f5⟩, f6, f7⟩ := hR
  have j1' : k ≤ 20000 := j1
  have g2' : mi 41 35 = zi sp := g2
  have g3' : mi 41 36 = zi k := g3
  have h24 : qn Q r ≤ 24 := hW.2.1 r
  have hWF := hW.2.2.2.1 r
  have hnil := whl_nil hW i1 i2
  have hCR := hQ.2.1 r i1
  have h23 := hCR.2.1
  obtain ⟨c1, c2, c3, c4, c5, c6, c7, c8, c9, -⟩ := hCR.2.2.2.2.2.1 p hp
  have hE := c9 (Or.inl hk)
  rw [hk] at c3
  have hb7 : Nat.beq (s (42 + 9 * r)).1 7 = true := by rw [kc42 hC i1]; rfl
  have hb8 : Nat.beq (s 41).1 8 = true := by rw [kc41 hC]; rfl
  have e18 := c18_t hG hC (n := n) (ml := ml) i1 h23 h24 hp
  have ho0 : Nat.beq (mr (43 + 9 * r) p) 0 = false := nbeq_f (by omega)
  have t10 : ([10].any (Nat.beq (s (mr (43 + 9 * r) p)).1)) = false := by rw [c3]; rfl
  have t14 : ([1, 2, 3, 4].any (Nat.beq (s (mr (43 + 9 * r) p)).1)) = true := by rw [c3]; rfl
  have t3 : ([3].any (Nat.beq (s (mr (43 + 9 * r) p)).1)) = true := by rw [c3]; rfl
  have hd : lps (stk (qk Q r) p) < 3 := by
    rcases hWF p hp with h | ⟨-, h⟩ | h | h | ⟨h, -⟩ | ⟨h, -⟩ | ⟨h, -⟩ <;> omega
  obtain ⟨E0, q1, q2, ⟨q3, -⟩, q4⟩ := opn_e hWF hnil hp (Or.inl hk)
  obtain ⟨k1, k2, k3, k4, -⟩ := cls_ok ⟨E0, q1, q2, q3 hk, q4⟩
  have es := (st_end hWF k4 k1 k2).2.1
  have h11 : mi (mr (43 + 9 * r) p) 11 = zi (cls (qk Q r) (qn Q r) p 6) := by
    have := (hCR.2.2.2.2.2.1 _ k4).2.2.2.2.2.2.2.2.2.2.1 k1
    rw [k2] at this; exact this
  obtain ⟨e, he⟩ : ∃ e, e = exv (qt Q r p) x0 x1 (cf (stk (qk Q r) p) L) := ⟨_, rfl⟩
  have hel : e < 2147483648 := by rw [he]; exact (exv_lt (fun q => hW.2.2.2.2.2.2 r p q) i1 jX j2 j1').2
  have e111 := c111 hG hC (n := n) (c := cf (stk (qk Q r) p) L) i1 hE (fun q => hW.2.2.2.2.2.2 r p q) f1 f2 f3
  rw [← he] at e111
  have e112 := c112 hG hC (n := n) (ml := ml) (v := zl e) i1 c3 c6 (by omega)
  have h49 : up2 ml (50 + 9 * r) (2 + lps (stk (qk Q r) p)) (zl e) (49 + 9 * r) (2 + lps (stk (qk Q r) p)) = zl 0 := by
    rw [up2_n _ _ (by omega), f3 _ hd, cf_hi (stk_b _ _) (Nat.le_refl _)]
  obtain ⟨r1, r2, r3⟩ := c113 hG hC (n := n) (q := p) (E := cls (qk Q r) (qn Q r) p 6) i1 c3 c1 c6 c5 h11 (by omega) h49 (by rw [up2_s, up1_s]) (by decide) hel g3' g2' j1'
  have st : G 110 0 [some (.inr (.inr 41)), some (.inr (.inr (42 + 9 * r))), none, none, none, none, none] [] (s, n, mi, ml, mr) = (G 113 0 [some (.inr (.inr 41)), some (.inr (.inr (42 + 9 * r))), some (.inr (.inr (mr (43 + 9 * r) p))), none, none] [] (s, n, mi, up2 ml (50 + 9 * r) (2 + lps (stk (qk Q r) p)) (zl e), mr)).bind fun u21 => (asV u21.1).bind fun _ => G 110 167 [some (.inr (.inr 41)), some (.inr (.inr (42 + 9 * r))), some (.inr (.inr (mr (43 + 9 * r) p))), none, some (.inr (.inr (mr (43 + 9 * r) p))), none, none] [] u21.2 := by
    refine (b110_0 hG ..).trans ?_
    rw [gc39 hC, bind_s, g7, hb7, cnd_t, e18, bind_s, as_R, bind_s, ho0, Bool.not_false, cnd_t]
    simp only [cnd_f, t10, t14, t3, cnd_t, bind_s, Bool.or_true, decide_true]
    rw [show decide ((1 : Int32) = 0) = false from by decide, cnd_f, rgR c3 hF3_0, bind_s, hb7, cnd_t, e111, bind_s, as_J, bind_s, hb7, cnd_t, e112, bind_s, as_V, bind_s, hb8, cnd_t]
  have o142 : ∀ r', r' < 8 → ∀ q, q < qn Q r' → 142 ≤ mr (43 + 9 * r') q := fun r' hr' q hq => ((hQ.2.1 r' hr').2.2.2.2.2.1 q hq).1
  rw [st, stA_3 hp hk, ← he]
  by_cases he0 : e = 0
  · rw [r3 (by omega), bind_s, as_V, bind_s, if_pos he0, b110_167 hG]
    refine ⟨_, _, _, rfl, ?_, CRf_trans CRf_41 (CRf_trans (CRf_ml i1 (Or.inr rfl)) (CRf_ml i1 (Or.inl rfl)))⟩
    refine ⟨⟨by rw [up2_s, up1_n _ _ (by decide)]; exact g1, by rw [up2_s, up1_n _ _ (by decide)]; exact g2, by rw [up2_s, up1_n _ _ (by decide)]; exact g3, by rw [up2_s, up1_n _ _ (by decide)]; exact g4, by rw [up2_s, up1_n _ _ (by decide)]; exact g5⟩, ⟨g6, by rw [up2_s, up1_s]⟩, ⟨?_, ?_, fun j hj => ?_, fun j hj => ?_, fun h3 => ?_⟩, ?_, ?_⟩
    · rw [up2_s, up1_n _ _ (by omega), up2_n _ _ (by omega)]; exact f1
    · rw [up2_s, up1_n _ _ (by omega), up2_n _ _ (by omega)]; exact f2
    · rw [es, up2_s]
      by_cases ej : j = lps (stk (qk Q r) p)
      · rw [ej, up1_s, cf_hi (stk_b _ _) (Nat.le_refl _)]; rfl
      · rw [up1_n _ _ (by omega), up2_n _ _ (by omega)]; exact f3 j hj
    · rw [es] at hj ⊢
      rw [up2_n _ _ (by omega), up2_s, up1_n _ _ (by omega)]; exact f4 j hj
    · rw [es]
      exact EC_mv (fun q hq => by
        have := o142 r i1 q.1 (by have := stk_lt (WF_le hWF i3) q hq; omega)
        rw [up2_n _ _ (by omega)]; exact ⟨rfl, rfl⟩) (f5 h3)
    · cases R with
      | nil => exact f6
      | cons f R => obtain ⟨r', q', y0, y1, L'⟩ := f; exact ⟨f6.1, by rw [up2_n _ _ (by omega)]; exact f6.2⟩
    · exact FsC_mv hW (fun r' h1 h2 => ⟨by rw [up2_n _ _ (by omega), up2_n _ _ (by omega)], by rw [up2_n _ _ (by omega), up2_n _ _ (by omega)], rfl, by rw [up2_n _ _ (by omega)], fun q hq => by rw [up2_n _ _ (by have := o142 r' h2 q hq; omega)]; exact ⟨rfl, rfl⟩⟩) hgt i7 f7
  · rw [if_neg he0]
    by_cases hk2 : k = 20000
    · rw [r2 (by omega) hk2, bind_s, as_V, bind_s, if_pos hk2, b110_167 hG]
      refine ⟨_, _, _, rfl, ⟨by rw [up2_s, up1_n _ _ (by decide)]; exact g5, Or.inr ⟨by rw [g6]; omega, by rw [up2_s, up1_s], rfl⟩⟩, CRf_trans CRf_41 (CRf_ml i1 (Or.inr rfl))⟩
    · rw [r1 (by omega) (by omega), bind_s, as_V, bind_s, if_neg hk2, b110_167 hG]
      have e0 : stk (qk Q r) (p + 1) = (p, 0) :: stk (qk Q r) p := by show stq (qk Q r p) p _ = _; rw [hk, stq_3]
      refine ⟨_, _, _, rfl, ?_, CRf_trans (CRf_trans (CRf_trans CRf_41 CRf_41) CRf_41) (CRf_trans (CRf_ml i1 (Or.inr rfl)) (CRf_ml i1 (Or.inl rfl)))⟩
      have m41 : ∀ a, a ≠ 41 → up2 (up2 (up2 mi 41 36 (zi (k + 1))) 41 35 (zi (sp + 1))) 41 39 (zi (p + 1)) a = mi a := fun a ha => by rw [up2_n _ _ ha, up2_n _ _ ha, up2_n _ _ ha]
      refine ⟨⟨by simp only [up2_ap]; exact g1, by simp only [up2_ap]; rfl, by simp only [up2_ap]; rfl, by simp only [up2_ap]; exact g4, by simp only [up2_ap]; exact g5⟩, ⟨g6, by rw [up2_s, up1_s]⟩, ⟨?_, ?_, fun j hj => ?_, fun j hj => ?_, fun h3 => ?_⟩, ?_, ?_⟩
      · rw [up2_s, up1_n _ _ (by omega), up2_n _ _ (by omega)]; exact f1
      · rw [up2_s, up1_n _ _ (by omega), up2_n _ _ (by omega)]; exact f2
      · rw [e0, cf_0, up2_s]
        by_cases ej : j = lps (stk (qk Q r) p)
        · rw [ej, up1_s, if_pos rfl]
        · rw [up1_n _ _ (by omega), if_neg ej, up2_n _ _ (by omega)]; exact f3 j hj
      · rw [e0, lps_0] at hj
        rw [e0, ef_0, up2_n _ _ (by omega), up2_s]
        by_cases ej : j = lps (stk (qk Q r) p)
        · rw [ej, up1_s, if_pos rfl]
        · rw [up1_n _ _ (by omega), if_neg ej]; exact f4 j (by omega)
      · rw [e0, EC_0]
        exact EC_mv (fun q hq => by
          have := o142 r i1 q.1 (by have := stk_lt (WF_le hWF i3) q hq; omega)
          rw [m41 _ (by omega)]; exact ⟨rfl, rfl⟩) (f5 h3)
      · cases R with
        | nil => exact f6
        | cons f R => obtain ⟨r', q', y0, y1, L'⟩ := f; exact ⟨f6.1, by rw [m41 _ (by omega)]; exact f6.2⟩
      · exact FsC_mv hW (fun r' h1 h2 => ⟨by rw [up2_n _ _ (by omega), up2_n _ _ (by omega)], by rw [up2_n _ _ (by omega), up2_n _ _ (by omega)], rfl, by rw [m41 _ (by omega)], fun q hq => by rw [m41 _ (by have := o142 r' h2 q hq; omega)]; exact ⟨rfl, rfl⟩⟩) hgt i7 f7
/-- a closing op's way to passClosing -/
theorem c110k {G : AG} (hG : FIX G) {s : Nat → Nat × Nat} {mr : Nat → Nat → Nat} (hC : CS s mr) {n : Nat × Nat} {Q : Pg} {N r p : Nat} {mi : Nat → Nat → Int32} {ml : Nat → Nat → Int64} (hW : WP Q) (hQ : CQ Q N s mi mr) (hr : r < 8) (h39 : mi 41 39 = zi p) (hp : p < qn Q r) (hk : 6 ≤ qk Q r p) : G 110 0 [some (.inr (.inr 41)), some (.inr (.inr (42 + 9 * r))), none, none, none, none, none] [] (s, n, mi, ml, mr) = (G 121 0 [some (.inr (.inr 41)), some (.inr (.inr (42 + 9 * r))), some (.inr (.inr (mr (43 + 9 * r) p))), some (.inr (.inr (mr (43 + 9 * r) (hdp (stk (qk Q r) p))))), none, none, none] [] (s, n, mi, ml, mr)).bind fun u11 => (asV u11.1).bind fun _ => some (none, u11.2) := by
  have h24 : qn Q r ≤ 24 := hW.2.1 r
  have hCR := hQ.2.1 r hr
  have h23 := hCR.2.1
  obtain ⟨c1, c2, c3, c4, c5, c6, c7, -⟩ := hCR.2.2.2.2.2.1 p hp
  rw [if_pos hk] at c7
  have hdl := hdp_lt (hW.2.2.2.1 r) hp hk
  have hb7 : Nat.beq (s (42 + 9 * r)).1 7 = true := by rw [kc42 hC hr]; rfl
  have hb8 : Nat.beq (s 41).1 8 = true := by rw [kc41 hC]; rfl
  have e18 := c18_t hG hC (n := n) (ml := ml) hr h23 h24 hp
  have e18' := c18_t hG hC (n := n) (ml := ml) hr h23 h24 (by omega : hdp (stk (qk Q r) p) < qn Q r)
  have ho0 : Nat.beq (mr (43 + 9 * r) p) 0 = false := nbeq_f (by omega)
  have c3' := c3
  rw [osh_6 hk] at c3
  have t10 : ([10].any (Nat.beq (s (mr (43 + 9 * r) p)).1)) = false := by rw [c3]; rfl
  have t14 : ([1, 2, 3, 4].any (Nat.beq (s (mr (43 + 9 * r) p)).1)) = true := by rw [c3]; rfl
  have t3 : ([3].any (Nat.beq (s (mr (43 + 9 * r) p)).1)) = false := by rw [c3]; rfl
  have t31 : ([1, 2, 4, 10].any (Nat.beq (s (mr (43 + 9 * r) p)).1)) = true := by rw [c3]; rfl
  have t1 : ([1].any (Nat.beq (s (mr (43 + 9 * r) p)).1)) = false := by rw [c3]; rfl
  have t11 : ([2, 3, 4, 10].any (Nat.beq (s (mr (43 + 9 * r) p)).1)) = true := by rw [c3]; rfl
  have t2 : ([2].any (Nat.beq (s (mr (43 + 9 * r) p)).1)) = false := by rw [c3]; rfl
  have t21 : ([1, 3, 4, 10].any (Nat.beq (s (mr (43 + 9 * r) p)).1)) = true := by rw [c3]; rfl
  refine (b110_0 hG ..).trans ?_
  rw [gc39 hC, bind_s, h39, hb7, cnd_t, e18, bind_s, as_R, bind_s, ho0, Bool.not_false, cnd_t]
  simp only [cnd_f, t10, t14, t3, t31, t1, t11, t2, t21, cnd_t, bind_s, decide_true]
  rw [opF4 c3', bind_s, c7, hb7, cnd_t, e18', bind_s, as_R, bind_s, hb8, cnd_t]
  congr 1
  funext u
  congr 1
  funext _
  exact b110_167 hG ..
theorem c110d {G : AG} (hG : FIX G) {s : Nat → Nat × Nat} {mr : Nat → Nat → Nat} (hC : CS s mr) {n : Nat × Nat} {Q : Pg} {N w t r p x0 x1 sp k : Nat} {z : Int32} {c : En} {L : List En} {R : List Fr} {mi : Nat → Nat → Int32} {ml : Nat → Nat → Int64} (hW : WP Q) (hQ : CQ Q N s mi mr) (hI : IA Q t ((r, p, x0, x1, c :: L) :: R, sp, k, z)) (hR : RC Q w mi ml mr ((r, p, x0, x1, c :: L) :: R, sp, k, z)) (hp : p < qn Q r) (hk : qk Q r p = 6) :
    ∃ mi' ml' mr', G 110 0 [some (.inr (.inr 41)), some (.inr (.inr (42 + 9 * r))), none, none, none, none, none] [] (s, n, mi, ml, mr) = some (none, (s, n, mi', ml', mr')) ∧ PC Q w mi' ml' mr' (stA Q w ((r, p, x0, x1, c :: L) :: R, sp, k, z)) ∧ CRf mi mi' ml ml' mr mr' := by
  have hgt := FsI_gt hW hI.1
  obtain ⟨⟨⟨i1, i2, i3, i4, i5⟩, i6, i7⟩, -, j1, j2, jX, -⟩ := hI
  obtain ⟨⟨g1, g2, g3, g4, g5⟩, ⟨g6, g7⟩, ⟨f1, f2, f3, f4, f5⟩, f6, f7⟩ := hR
  have j1' : k ≤ 20000 := j1
  have g2' : mi 41 35 = zi sp := g2
  have g3' : mi 41 36 = zi k := g3
  have hWF := hW.2.2.2.1 r
  have hCR := hQ.2.1 r i1
  obtain ⟨q, hq⟩ : ∃ q, q = hdp (stk (qk Q r) p) := ⟨_, rfl⟩
  obtain ⟨s1, s2, s3, s4⟩ := st_end hWF hp hk hq.symm
  have est := c110k hG hC (n := n) (ml := ml) hW hQ i1 g7 hp (by omega)
  rw [← hq] at est
  have h11 : mi (mr (43 + 9 * r) q) 11 = zi p := by
    have := (hCR.2.2.2.2.2.1 p hp).2.2.2.2.2.2.2.2.2.2.1 hk
    rw [← hq] at this; exact this
  obtain ⟨c1, c2, c3, c4, c5, c6, c7, c8, c9, -⟩ := hCR.2.2.2.2.2.1 q (by omega)
  rw [s4] at c3
  rw [s1] at i4 i5 f3 f4 f5
  rw [LI_0] at i5
  have hl3 := lps_3 (WF_le hWF i3)
  rw [s1, lps_0] at hl3
  have hd : lps (stk (qk Q r) q) ≤ 2 := by omega
  have o142 : ∀ r', r' < 8 → ∀ q, q < qn Q r' → 142 ≤ mr (43 + 9 * r') q := fun r' hr' q hq => ((hQ.2.1 r' hr').2.2.2.2.2.1 q hq).1
  have hb8 : Nat.beq (s 41).1 8 = true := by rw [kc41 hC]; rfl
  have ho0 : Nat.beq (mr (43 + 9 * r) q) 0 = false := nbeq_f (by omega)
  have t3 : ([3].any (Nat.beq (s (mr (43 + 9 * r) q)).1)) = true := by rw [c3]; rfl
  obtain ⟨r1, r2, r3⟩ := c113 hG hC (n := n) (mi := up2 mi 41 39 (zi (p + 1))) (ml := ml) (c := c.1) (e := c.2) (q := q) (E := p) i1 c3 c1 (by rw [up2_n _ _ (by omega)]; exact c6) (by rw [up2_n _ _ (by omega)]; exact c5) (by rw [up2_n _ _ (by omega)]; exact h11) hd (by rw [f3 _ (by omega), cf_0, if_pos rfl]) (by rw [f4 _ (by rw [lps_0]; omega), ef_0, if_pos rfl]) (by omega) i5.2.2.1 (by rw [up2_s, up1_n _ _ (by decide)]; exact g3') (by rw [up2_s, up1_n _ _ (by decide)]; exact g2') j1'
  have e121 : G 121 0 [some (.inr (.inr 41)), some (.inr (.inr (42 + 9 * r))), some (.inr (.inr (mr (43 + 9 * r) p))), some (.inr (.inr (mr (43 + 9 * r) q))), none, none, none] [] (s, n, mi, ml, mr) = (G 113 0 [some (.inr (.inr 41)), some (.inr (.inr (42 + 9 * r))), some (.inr (.inr (mr (43 + 9 * r) q))), none, none] [] (s, n, up2 mi 41 39 (zi (p + 1)), ml, mr)).bind fun u11 => (asV u11.1).bind fun _ => some (none, u11.2) := by
    refine (b121_0 hG ..).trans ?_
    rw [gc39 hC, bind_s, g7, show zi p + 1 = zi (p + 1) from zi_add p 1, pc39 hC, bind_s]
    simp only [ho0, cnd_f, t3, cnd_t, bind_s, Bool.or_true]
    rw [show decide ((1 : Int32) = 0) = false from by decide, cnd_f, hb8, cnd_t]
    congr 1
    funext u
    congr 1
    funext _
    exact b121_99 hG ..
  rw [est, e121, stA_6 hp hk, ← hq]
  by_cases hc : c.1 < c.2
  · rw [if_pos hc]
    by_cases hk2 : k = 20000
    · rw [r2 hc hk2, if_pos hk2]
      refine ⟨_, _, _, rfl, ⟨by simp only [up2_ap]; exact g5, Or.inr ⟨by rw [g6]; omega, by rw [up2_s, up1_s], rfl⟩⟩, CRf_trans CRf_41 CRf_41⟩
    · rw [r1 hc (by omega), if_neg hk2]
      have e0 : stk (qk Q r) (q + 1) = (q, 0) :: stk (qk Q r) q := by show stq (qk Q r q) q _ = _; rw [s4, stq_3]
      refine ⟨_, _, _, rfl, ?_, CRf_trans (CRf_trans (CRf_trans (CRf_trans CRf_41 CRf_41) CRf_41) CRf_41) (CRf_ml i1 (Or.inl rfl))⟩
      obtain ⟨m', hm'⟩ : ∃ m', m' = up2 (up2 (up2 (up2 mi 41 39 (zi (p + 1))) 41 36 (zi (k + 1))) 41 35 (zi (sp + 1))) 41 39 (zi (q + 1)) := ⟨_, rfl⟩
      have m41 : ∀ a, a ≠ 41 → m' a = mi a := fun a ha => by rw [hm', up2_n _ _ ha, up2_n _ _ ha, up2_n _ _ ha, up2_n _ _ ha]
      show RC Q w (up2 (up2 (up2 (up2 mi 41 39 (zi (p + 1))) 41 36 (zi (k + 1))) 41 35 (zi (sp + 1))) 41 39 (zi (q + 1))) _ mr _
      rw [← hm']
      refine ⟨⟨by rw [hm']; simp only [up2_ap]; exact g1, by rw [hm']; simp only [up2_ap]; rfl, by rw [hm']; simp only [up2_ap]; rfl, by rw [hm']; simp only [up2_ap]; exact g4, by rw [hm']; simp only [up2_ap]; exact g5⟩, ⟨g6, by rw [hm', up2_s, up1_s]⟩, ⟨?_, ?_, fun j hj => ?_, fun j hj => ?_, fun h3 => ?_⟩, ?_, ?_⟩
      · rw [up2_s, up1_n _ _ (by omega)]; exact f1
      · rw [up2_s, up1_n _ _ (by omega)]; exact f2
      · rw [e0, cf_0, up2_s]
        by_cases ej : j = lps (stk (qk Q r) q)
        · rw [ej, up1_s, if_pos rfl]
        · have := f3 j hj
          rw [cf_0, if_neg ej] at this
          rw [up1_n _ _ (by omega), if_neg ej]; exact this
      · rw [e0] at hj
        have := f4 j hj
        rw [e0, up2_n _ _ (by omega), this, ef_0, ef_0]
      · have := f5 h3
        rw [EC_0] at this
        rw [e0, EC_0]
        exact EC_mv (fun a ha => by
          have := o142 r i1 a.1 (by have := stk_lt (WF_le hWF (by omega : q ≤ qn Q r)) a ha; omega)
          rw [m41 _ (by omega)]; exact ⟨rfl, rfl⟩) this
      · cases R with
        | nil => exact f6
        | cons f R => obtain ⟨r', q', y0, y1, L'⟩ := f; exact ⟨f6.1, by rw [m41 _ (by omega)]; exact f6.2⟩
      · exact FsC_mv hW (fun r' h1 h2 => ⟨by rw [up2_n _ _ (by omega)], by rw [up2_n _ _ (by omega)], rfl, by rw [m41 _ (by omega)], fun q hq => by rw [m41 _ (by have := o142 r' h2 q hq; omega)]; exact ⟨rfl, rfl⟩⟩) hgt i7 f7
  · rw [if_neg hc, r3 hc]
    refine ⟨_, _, _, rfl, ?_, CRf_trans (CRf_trans CRf_41 CRf_41) (CRf_ml i1 (Or.inl rfl))⟩
    have m41 : ∀ a, a ≠ 41 → up2 (up2 mi 41 39 (zi (p + 1))) 41 39 (zi (p + 1)) a = mi a := fun a ha => by rw [up2_n _ _ ha, up2_n _ _ ha]
    refine ⟨⟨by simp only [up2_ap]; exact g1, by simp only [up2_ap]; exact g2, by simp only [up2_ap]; exact g3, by simp only [up2_ap]; exact g4, by simp only [up2_ap]; exact g5⟩, ⟨g6, by rw [up2_s, up1_s]⟩, ⟨?_, ?_, fun j hj => ?_, fun j hj => ?_, fun h3 => ?_⟩, ?_, ?_⟩
    · rw [up2_s, up1_n _ _ (by omega)]; exact f1
    · rw [up2_s, up1_n _ _ (by omega)]; exact f2
    · rw [s2, up2_s]
      by_cases ej : j = lps (stk (qk Q r) q)
      · rw [ej, up1_s, cf_hi (stk_b _ _) (Nat.le_refl _)]; rfl
      · have := f3 j hj
        rw [cf_0, if_neg ej] at this
        rw [up1_n _ _ (by omega)]; exact this
    · rw [s2] at hj ⊢
      have := f4 j (by rw [lps_0]; omega)
      rw [ef_0, if_neg (by omega)] at this
      rw [up2_n _ _ (by omega)]; exact this
    · have := f5 h3
      rw [EC_0] at this
      rw [s2]
      exact EC_mv (fun a ha => by
        have := o142 r i1 a.1 (by have := stk_lt (WF_le hWF (by omega : q ≤ qn Q r)) a ha; omega)
        rw [m41 _ (by omega)]; exact ⟨rfl, rfl⟩) this
    · cases R with
      | nil => exact f6
      | cons f R => obtain ⟨r', q', y0, y1, L'⟩ := f; exact ⟨f6.1, by rw [m41 _ (by omega)]; exact f6.2⟩
    · exact FsC_mv hW (fun r' h1 h2 => ⟨by rw [up2_n _ _ (by omega)], by rw [up2_n _ _ (by omega)], rfl, by rw [m41 _ (by omega)], fun q hq => by rw [m41 _ (by have := o142 r' h2 q hq; omega)]; exact ⟨rfl, rfl⟩⟩) hgt i7 f7