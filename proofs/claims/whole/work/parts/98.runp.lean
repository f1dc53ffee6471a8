/-! runs: a step keeps what holds -/
theorem stA_c (Q w r p x0 x1 L R sp k z) : stA Q w ((r, p, x0, x1, L) :: R, sp, k, z) = (if p = qn Q r then (match R with
      | [] => .inl (zi sp, z)
      | (r', q', y0, y1, L') :: R' => .inr ((r', q' + 1, y0, y1, L') :: R', sp, k, z))
    else if qk Q r p = 1 then .inr ((r, p + 1, x0, x1, L) :: R, sp + qw Q r p, k, z)
    else if qk Q r p = 3 then (if exv (qt Q r p) x0 x1 (cf (stk (qk Q r) p) L) = 0 then .inr ((r, cls (qk Q r) (qn Q r) p 6 + 1, x0, x1, L) :: R, sp, k, z) else if k = 20000 then .inl (-1000004, z) else .inr ((r, p + 1, x0, x1, (1, exv (qt Q r p) x0 x1 (cf (stk (qk Q r) p) L)) :: L) :: R, sp + 1, k + 1, z))
    else if qk Q r p = 4 then (if k = 20000 then .inl (-1000004, z) else .inr ((qd Q r p, 0, exv (qt Q r p) x0 x1 (cf (stk (qk Q r) p) L), exv (fun q => qt Q r p (6 + q)) x0 x1 (cf (stk (qk Q r) p) L), []) :: (r, p, x0, x1, L) :: R, sp + 1, k + 1, z))
    else if qk Q r p = 5 then (if k = 20000 then .inl (-1000004, z) else if 3 ≤ w then .inr ((r, p + 1, x0, x1, (sp + 1, 0) :: L) :: R, 0, k + 1, z) else if w = 2 then (bif lot2 (lotN z) then .inr ((r, cls (qk Q r) (qn Q r) p 7 + 1, x0, x1, (0, 0) :: L) :: R, sp + 1, k + 1, lotN z) else .inr ((r, p + 1, x0, x1, (0, 0) :: L) :: R, sp + 1, k + 1, lotN z)) else if w = 1 then .inr ((r, cls (qk Q r) (qn Q r) p 7 + 1, x0, x1, (0, 0) :: L) :: R, sp + 1, k + 1, z) else .inr ((r, p + 1, x0, x1, (0, 0) :: L) :: R, sp + 1, k + 1, z))
    else (match L with
      | [] => .inl (0, z)
      | c :: L' => if qk Q r p = 6 then (if c.1 < c.2 then (if k = 20000 then .inl (-1000004, z) else .inr ((r, hdp (stk (qk Q r) p) + 1, x0, x1, (c.1 + 1, c.2) :: L') :: R, sp + 1, k + 1, z)) else .inr ((r, p + 1, x0, x1, L') :: R, sp, k, z))
        else if qk Q r p = 7 then (if 3 ≤ w then .inr ((r, p + 1, x0, x1, (c.1, sp) :: L') :: R, 0, k, z) else .inr ((r, cls (qk Q r) (qn Q r) (hdp (stk (qk Q r) p)) 8 + 1, x0, x1, L') :: R, sp, k, z))
        else (if 3 ≤ w then .inr ((r, p + 1, x0, x1, L') :: R, c.1 + mxw w c.2 sp, k, z) else .inr ((r, p + 1, x0, x1, L') :: R, sp, k, z)))) := rfl
theorem stA_0 {Q : Pg} {w r p x0 x1 sp k : Nat} {z : Int32} {L : List En} (h : p = qn Q r) : stA Q w ((r, p, x0, x1, L) :: [], sp, k, z) = .inl (zi sp, z) := by rw [stA_c, if_pos h]
theorem stA_0c {Q : Pg} {w r p x0 x1 sp k : Nat} {z : Int32} {L : List En} {r' q' y0 y1 L' R'} (h : p = qn Q r) : stA Q w ((r, p, x0, x1, L) :: (r', q', y0, y1, L') :: R', sp, k, z) = .inr ((r', q' + 1, y0, y1, L') :: R', sp, k, z) := by rw [stA_c, if_pos h]
theorem stA_1 {Q : Pg} {w r p x0 x1 sp k : Nat} {z : Int32} {L : List En} {R : List Fr} (h : p < qn Q r) (hk : qk Q r p = 1) : stA Q w ((r, p, x0, x1, L) :: R, sp, k, z) = .inr ((r, p + 1, x0, x1, L) :: R, sp + qw Q r p, k, z) := by rw [stA_c, if_neg (by omega), if_pos hk]
theorem stA_3 {Q : Pg} {w r p x0 x1 sp k : Nat} {z : Int32} {L : List En} {R : List Fr} (h : p < qn Q r) (hk : qk Q r p = 3) : stA Q w ((r, p, x0, x1, L) :: R, sp, k, z) = (if exv (qt Q r p) x0 x1 (cf (stk (qk Q r) p) L) = 0 then .inr ((r, cls (qk Q r) (qn Q r) p 6 + 1, x0, x1, L) :: R, sp, k, z) else if k = 20000 then .inl (-1000004, z) else .inr ((r, p + 1, x0, x1, (1, exv (qt Q r p) x0 x1 (cf (stk (qk Q r) p) L)) :: L) :: R, sp + 1, k + 1, z)) := by rw [stA_c, if_neg (by omega), if_neg (by omega), if_pos hk]
theorem stA_4 {Q : Pg} {w r p x0 x1 sp k : Nat} {z : Int32} {L : List En} {R : List Fr} (h : p < qn Q r) (hk : qk Q r p = 4) : stA Q w ((r, p, x0, x1, L) :: R, sp, k, z) = (if k = 20000 then .inl (-1000004, z) else .inr ((qd Q r p, 0, exv (qt Q r p) x0 x1 (cf (stk (qk Q r) p) L), exv (fun q => qt Q r p (6 + q)) x0 x1 (cf (stk (qk Q r) p) L), []) :: (r, p, x0, x1, L) :: R, sp + 1, k + 1, z)) := by rw [stA_c, if_neg (by omega), if_neg (by omega), if_neg (by omega), if_pos hk]
theorem stA_5 {Q : Pg} {w r p x0 x1 sp k : Nat} {z : Int32} {L : List En} {R : List Fr} (h : p < qn Q r) (hk : qk Q r p = 5) : stA Q w ((r, p, x0, x1, L) :: R, sp, k, z) = (if k = 20000 then .inl (-1000004, z) else if 3 ≤ w then .inr ((r, p + 1, x0, x1, (sp + 1, 0) :: L) :: R, 0, k + 1, z) else if w = 2 then (bif lot2 (lotN z) then .inr ((r, cls (qk Q r) (qn Q r) p 7 + 1, x0, x1, (0, 0) :: L) :: R, sp + 1, k + 1, lotN z) else .inr ((r, p + 1, x0, x1, (0, 0) :: L) :: R, sp + 1, k + 1, lotN z)) else if w = 1 then .inr ((r, cls (qk Q r) (qn Q r) p 7 + 1, x0, x1, (0, 0) :: L) :: R, sp + 1, k + 1, z) else .inr ((r, p + 1, x0, x1, (0, 0) :: L) :: R, sp + 1, k + 1, z)) := by rw [stA_c, if_neg (by omega), if_neg (by omega), if_neg (by omega), if_neg (by omega), if_pos hk]
theorem stA_k {Q : Pg} {w r p x0 x1 sp k : Nat} {z : Int32} {L : List En} {R : List Fr} {c : En} (h : p < qn Q r) (hk : 6 ≤ qk Q r p) : stA Q w ((r, p, x0, x1, c :: L) :: R, sp, k, z) = (if qk Q r p = 6 then (if c.1 < c.2 then (if k = 20000 then .inl (-1000004, z) else .inr ((r, hdp (stk (qk Q r) p) + 1, x0, x1, (c.1 + 1, c.2) :: L) :: R, sp + 1, k + 1, z)) else .inr ((r, p + 1, x0, x1, L) :: R, sp, k, z))
        else if qk Q r p = 7 then (if 3 ≤ w then .inr ((r, p + 1, x0, x1, (c.1, sp) :: L) :: R, 0, k, z) else .inr ((r, cls (qk Q r) (qn Q r) (hdp (stk (qk Q r) p)) 8 + 1, x0, x1, L) :: R, sp, k, z))
        else (if 3 ≤ w then .inr ((r, p + 1, x0, x1, L) :: R, c.1 + mxw w c.2 sp, k, z) else .inr ((r, p + 1, x0, x1, L) :: R, sp, k, z))) := by rw [stA_c, if_neg (by omega), if_neg (by omega), if_neg (by omega), if_neg (by omega), if_neg (by omega)]
theorem stA_6 {Q : Pg} {w r p x0 x1 sp k : Nat} {z : Int32} {L : List En} {R : List Fr} {c : En} (h : p < qn Q r) (hk : qk Q r p = 6) : stA Q w ((r, p, x0, x1, c :: L) :: R, sp, k, z) = (if c.1 < c.2 then (if k = 20000 then .inl (-1000004, z) else .inr ((r, hdp (stk (qk Q r) p) + 1, x0, x1, (c.1 + 1, c.2) :: L) :: R, sp + 1, k + 1, z)) else .inr ((r, p + 1, x0, x1, L) :: R, sp, k, z)) := by rw [stA_k h (by omega), if_pos hk]
theorem stA_7 {Q : Pg} {w r p x0 x1 sp k : Nat} {z : Int32} {L : List En} {R : List Fr} {c : En} (h : p < qn Q r) (hk : qk Q r p = 7) : stA Q w ((r, p, x0, x1, c :: L) :: R, sp, k, z) = (if 3 ≤ w then .inr ((r, p + 1, x0, x1, (c.1, sp) :: L) :: R, 0, k, z) else .inr ((r, cls (qk Q r) (qn Q r) (hdp (stk (qk Q r) p)) 8 + 1, x0, x1, L) :: R, sp, k, z)) := by rw [stA_k h (by omega), if_neg (by omega), if_pos hk]
theorem stA_8 {Q : Pg} {w r p x0 x1 sp k : Nat} {z : Int32} {L : List En} {R : List Fr} {c : En} (h : p < qn Q r) (hk : qk Q r p = 8) : stA Q w ((r, p, x0, x1, c :: L) :: R, sp, k, z) = (if 3 ≤ w then .inr ((r, p + 1, x0, x1, L) :: R, c.1 + mxw w c.2 sp, k, z) else .inr ((r, p + 1, x0, x1, L) :: R, sp, k, z)) := by rw [stA_k h (by omega), if_neg (by omega), if_neg (by omega)]
theorem EBs_0 (B M q S c L) : EBs B M ((q, 0) :: S) (c :: L) = EBs B M S L := rfl
theorem EBs_1 (B M q S c L) : EBs B M ((q, 1) :: S) (c :: L) = EBs B M S L := rfl
theorem EBs_2 (B M q S c L) : EBs B M ((q, 2) :: S) (c :: L) = (B + sbe S L + c.1 + c.2 ≤ M ∧ EBs B M S L) := rfl
theorem LI_0 (q S c L) : LI ((q, 0) :: S) (c :: L) = (1 ≤ c.1 ∧ c.1 ≤ c.2 ∧ c.2 < 2147483648 ∧ LI S L) := rfl
theorem LI_1 (q S c L) : LI ((q, 1) :: S) (c :: L) = LI S L := rfl
theorem LI_2 (q S c L) : LI ((q, 2) :: S) (c :: L) = LI S L := rfl
/-- the DONE of an either lies behind its OR -/
theorem or_lt {K : Nat → Nat} {n p E q : Nat} (hW : WF K n) (hp : p < n) (hk : K p = 7) (hd : hdp (stk K p) = q) (hE : E < n) (h8 : K E = 8) (hd2 : hdp (stk K E) = q) : p < E := by
  by_cases h : p < E
  · exact h
  · have hne : p ≠ E := fun e => by rw [e] at hk; omega
    have hEp : E < p := by omega
    have hx := (stk_inv (WF_le hW (Nat.le_of_lt hp))).2.2 E hEp (Or.inr h8)
    have hs := (st_or hW hp hk hd).1
    have := hx (q, 1) (by rw [hs]; exact List.mem_cons_self ..)
    exact absurd hd2.symm this
/-- what a step leaves: a frame of the same routine in the place of the topmost one -/
theorem IA_top {Q : Pg} {t r p x0 x1 sp k z p' sp' k' z'} {L L' : List En} {R : List Fr} (h : IA Q t ((r, p, x0, x1, L) :: R, sp, k, z)) (hp : p' ≤ qn Q r) (hl : L'.length = (stk (qk Q r) p').length) (hi : LI (stk (qk Q r) p') L') (hk : k' ≤ 20000) (ht : cs (stk (qk Q r) p') L' + k ≤ cs (stk (qk Q r) p) L + k') (hf : 1 + (qn Q r - p') ≤ (qn Q r - p) + 25 * (k' - k)) (hkk : k ≤ k') (hs : sbe (stk (qk Q r) p') L' + sp' + bsf Q R ≤ 99 * (t + 1)) (he : EBs (bsf Q R) (99 * (t + 1)) (stk (qk Q r) p') L') : IA Q (t + 1) ((r, p', x0, x1, L') :: R, sp', k', z') := by
  obtain ⟨⟨⟨a1, a2, a3, a4, a5⟩, a6, a7⟩, -, b1, b2, ⟨b3, b4, b5⟩, b6, b7, b8, b9⟩ := h
  have c1 : cs (stk (qk Q r) p) L + tot Q R ≤ k := b2
  have c2 : t + ((qn Q r - p) + 1 + phR Q R) ≤ 25 + 25 * k := b6
  refine ⟨⟨⟨a1, a2, hp, hl, hi⟩, a6, a7⟩, List.cons_ne_nil _ _, hk, ?_, ⟨b3, b4, b5⟩, ?_, ?_, he, EBf_mono (by omega) b9⟩
  · show cs (stk (qk Q r) p') L' + tot Q R ≤ k'
    omega
  · show t + 1 + ((qn Q r - p') + 1 + phR Q R) ≤ 25 + 25 * k'
    omega
  · show sbe (stk (qk Q r) p') L' + bsf Q R + sp' ≤ 99 * (t + 1)
    omega
theorem IA_st {Q : Pg} (hW : WP Q) {w t : Nat} {A B : Rs} (h : IA Q t A) (hs : stA Q w A = .inr B) : IA Q (t + 1) B := by
  obtain ⟨fs, sp, k, z⟩ := A
  cases fs with
  | nil => exact absurd rfl h.2.1
  | cons f R =>
    obtain ⟨r, p, x0, x1, L⟩ := f
    have h' := h
    obtain ⟨⟨⟨a1, a2, a3, a4, a5⟩, a6, a7⟩, -, b1, b2, hX, b6, b7, b8, b9⟩ := h
    have hk2 : k ≤ 20000 := b1
    have htt : cs (stk (qk Q r) p) L + tot Q R ≤ k := b2
    have hss : sbe (stk (qk Q r) p) L + bsf Q R + sp ≤ 99 * t := b7
    have hph : t + ((qn Q r - p) + 1 + phR Q R) ≤ 25 + 25 * k := b6
    have h24 : qn Q r ≤ 24 := hW.2.1 r
    have hWF := hW.2.2.2.1 r
    have hnil := whl_nil hW a1 a2
    have hsb := stk_b (qk Q r) p
    have b8' : EBs (bsf Q R) (99 * (t + 1)) (stk (qk Q r) p) L := EBs_mono (by omega) b8
    by_cases hpn : p = qn Q r
    · cases R with
      | nil => rw [stA_0 hpn] at hs; cases hs
      | cons f' R' =>
        obtain ⟨r', q', y0, y1, L'⟩ := f'
        rw [stA_0c hpn] at hs
        cases hs
        obtain ⟨c1, c2, c3⟩ := a6
        obtain ⟨⟨d1, d2, d3, d4, d5⟩, d6, d7⟩ := a7
        have es : stk (qk Q r') (q' + 1) = stk (qk Q r') q' := by show stq (qk Q r' q') q' _ = _; rw [c2, stq_4]
        have hSn : stk (qk Q r) p = [] := by rw [hpn]; exact hnil
        have hL : L = [] := by rw [hSn] at a4; exact List.eq_nil_of_length_eq_zero a4
        rw [hSn, hL] at hss
        have hss2 : 0 + (sbe (stk (qk Q r') q') L' + bsf Q R') + sp ≤ 99 * t := hss
        have hph2 : t + ((qn Q r - p) + 1 + ((qn Q r' - (q' + 1)) + 1 + phR Q R')) ≤ 25 + 25 * k := hph
        have htt2 : cs (stk (qk Q r) p) L + (cs (stk (qk Q r') q') L' + tot Q R') ≤ k := htt
        have b9' := EBf_mono (M' := 99 * (t + 1)) (by omega) b9
        refine ⟨⟨⟨d1, d2, c1, by rw [es]; exact d4, by rw [es]; exact d5⟩, d6, d7⟩, List.cons_ne_nil _ _, b1, ?_, hX.2.2, ?_, ?_, by rw [es]; exact b9'.1, b9'.2⟩
        · show cs (stk (qk Q r') (q' + 1)) L' + tot Q R' ≤ k
          rw [es]; omega
        · show t + 1 + ((qn Q r' - (q' + 1)) + 1 + phR Q R') ≤ 25 + 25 * k
          omega
        · show sbe (stk (qk Q r') (q' + 1)) L' + bsf Q R' + sp ≤ 99 * (t + 1)
          rw [es]; omega
    · have hp : p < qn Q r := by omega
      have e0 : stk (qk Q r) (p + 1) = stq (qk Q r p) p (stk (qk Q r) p) := rfl
      rcases hWF p hp with hk | ⟨hk, hl3⟩ | hk | hk | ⟨hk, q, T, hS⟩ | ⟨hk, q, T, hS⟩ | ⟨hk, q, T, hS⟩
      · rw [stA_1 hp hk] at hs
        cases hs
        have hw := hW.2.2.2.2.1 r p hp hk
        rw [hk, stq_1] at e0
        exact IA_top h' (by omega) (by rw [e0]; exact a4) (by rw [e0]; exact a5) hk2 (by rw [e0]; omega) (by omega) (Nat.le_refl _) (by rw [e0]; omega) (by rw [e0]; exact b8')
      · rw [stA_3 hp hk] at hs
        have hlt := (exv_lt (t := qt Q r p) (fun q => hW.2.2.2.2.2.2 r p q) a1 hX b2 hk2).2
        by_cases he : exv (qt Q r p) x0 x1 (cf (stk (qk Q r) p) L) = 0
        · rw [if_pos he] at hs
          cases hs
          obtain ⟨E, g1, g2, ⟨g3, -⟩, g4⟩ := opn_e hWF hnil hp (Or.inl hk)
          obtain ⟨k1, k2, k3, k4, -⟩ := cls_ok ⟨E, g1, g2, g3 hk, g4⟩
          have es := (st_end hWF k4 k1 k2).2.1
          exact IA_top h' (by omega) (by rw [es]; exact a4) (by rw [es]; exact a5) hk2 (by rw [es]; omega) (by omega) (Nat.le_refl _) (by rw [es]; omega) (by rw [es]; exact b8')
        · rw [if_neg he] at hs
          by_cases hkk : k = 20000
          · rw [if_pos hkk] at hs; cases hs
          · rw [if_neg hkk] at hs
            cases hs
            rw [hk, stq_3] at e0
            refine IA_top h' (by omega) (by rw [e0, List.length_cons, List.length_cons, a4]) (by rw [e0, LI_0]; exact ⟨Nat.le_refl _, by show 1 ≤ exv _ _ _ _; omega, hlt, a5⟩) (by omega) ?_ (by omega) (by omega) ?_ ?_
            · rw [e0, cs_0 hsb hl3]; show 1 + _ + k ≤ _; omega
            · rw [e0, sbe_0]; omega
            · rw [e0, EBs_0]; exact b8'
      · rw [stA_4 hp hk] at hs
        by_cases hkk : k = 20000
        · rw [if_pos hkk] at hs; cases hs
        · rw [if_neg hkk] at hs
          cases hs
          have hd := hW.2.2.2.2.2.1 r p hp hk
          have hx0 := (exv_lt (t := qt Q r p) (fun q => hW.2.2.2.2.2.2 r p q) a1 hX b2 hk2).1
          have hx1 := (exv_lt (t := fun q => qt Q r p (6 + q)) (fun q => hW.2.2.2.2.2.2 r p (6 + q)) a1 hX b2 hk2).1
          have hpw : 4 ^ (8 - r) ≤ 4 ^ (7 - qd Q r p) := Nat.pow_le_pow_right (by decide) (by omega)
          have hm := Nat.mul_le_mul_right (21 + tot Q ((r, p, x0, x1, L) :: R)) hpw
          have hn24 : qn Q (qd Q r p) ≤ 24 := hW.2.1 _
          refine ⟨⟨⟨by omega, whl_call hW a1 a2 hp hk, Nat.zero_le _, rfl, trivial⟩, ⟨hp, hk, rfl⟩, ⟨a1, a2, a3, a4, a5⟩, a6, a7⟩, List.cons_ne_nil _ _, by show k + 1 ≤ 20000; omega, ?_, ⟨by omega, by omega, hX⟩, ?_, ?_, trivial, b8', EBf_mono (by omega) b9⟩
          · show 0 + (cs (stk (qk Q r) p) L + tot Q R) ≤ k + 1
            omega
          · show t + 1 + ((qn Q (qd Q r p) - 0) + 1 + ((qn Q r - (p + 1)) + 1 + phR Q R)) ≤ 25 + 25 * (k + 1)
            omega
          · show 0 + (sbe (stk (qk Q r) p) L + bsf Q R) + (sp + 1) ≤ 99 * (t + 1)
            omega
      · rw [stA_5 hp hk] at hs
        by_cases hkk : k = 20000
        · rw [if_pos hkk] at hs; cases hs
        · rw [if_neg hkk] at hs
          rw [hk, stq_5] at e0
          obtain ⟨k1, k2, k3, k4, -⟩ := cls_ok (opn_or hWF hnil hp hk)
          have es := (st_or hWF k4 k1 k2).2.1
          have first : ∀ b c sp' z', b + sp' ≤ sp + 1 → IA Q (t + 1) ((r, p + 1, x0, x1, (b, c) :: L) :: R, sp', k + 1, z') := by
            intro b c sp' z' hb
            refine IA_top h' (by omega) (by rw [e0, List.length_cons, List.length_cons, a4]) (by rw [e0, LI_1]; exact a5) (by omega) ?_ (by omega) (by omega) ?_ ?_
            · rw [e0, cs_1]; omega
            · rw [e0, sbe_1]; show b + _ + sp' + _ ≤ _; omega
            · rw [e0, EBs_1]; exact b8'
          have second : ∀ z', IA Q (t + 1) ((r, cls (qk Q r) (qn Q r) p 7 + 1, x0, x1, (0, 0) :: L) :: R, sp + 1, k + 1, z') := by
            intro z'
            refine IA_top h' (by omega) (by rw [es, List.length_cons, List.length_cons, a4]) (by rw [es, LI_2]; exact a5) (by omega) ?_ (by omega) (by omega) ?_ ?_
            · rw [es, cs_2]; omega
            · rw [es, sbe_2]; show 0 + _ + (sp + 1) + _ ≤ _; omega
            · rw [es, EBs_2]; exact ⟨by show _ + 0 + 0 ≤ _; omega, b8'⟩
          by_cases h3 : 3 ≤ w
          · rw [if_pos h3] at hs; cases hs; exact first _ _ _ _ (by omega)
          · rw [if_neg h3] at hs
            by_cases h2 : w = 2
            · rw [if_pos h2] at hs
              cases hb : lot2 (lotN z) <;> rw [hb] at hs
              · cases hs; exact first _ _ _ _ (by omega)
              · cases hs; exact second _
            · rw [if_neg h2] at hs
              by_cases h1 : w = 1
              · rw [if_pos h1] at hs; cases hs; exact second _
              · rw [if_neg h1] at hs; cases hs; exact first _ _ _ _ (by omega)
      · cases L with
        | nil => rw [hS] at a4; cases a4
        | cons c L =>
          rw [stA_6 hp hk] at hs
          have hd : hdp (stk (qk Q r) p) = q := by rw [hS]; rfl
          obtain ⟨s1, s2, s3, s4⟩ := st_end hWF hp hk hd
          rw [s1] at hS a4 a5 htt hss b8'
          rw [LI_0] at a5
          rw [List.length_cons, List.length_cons] at a4
          have hlT := lps_3 (WF_le hWF (Nat.le_of_lt hp))
          rw [s1, lps_0] at hlT
          rw [cs_0 (stk_b _ _) (by omega)] at htt
          rw [sbe_0] at hss
          rw [EBs_0] at b8'
          by_cases hc : c.1 < c.2
          · rw [if_pos hc] at hs
            by_cases hkk : k = 20000
            · rw [if_pos hkk] at hs; cases hs
            · rw [if_neg hkk] at hs
              cases hs
              have es : stk (qk Q r) (hdp (stk (qk Q r) p) + 1) = (q, 0) :: stk (qk Q r) q := by rw [hd]; show stq (qk Q r q) q _ = _; rw [s4, stq_3]
              rw [hd] at es ⊢
              refine IA_top h' (by omega) (by rw [es, List.length_cons, List.length_cons]; omega) (by rw [es, LI_0]; exact ⟨by show 1 ≤ c.1 + 1; omega, by show c.1 + 1 ≤ c.2; omega, a5.2.2.1, a5.2.2.2⟩) (by omega) ?_ (by omega) (by omega) ?_ ?_
              · rw [es, s1, cs_0 (stk_b _ _) (by omega), cs_0 (stk_b _ _) (by omega)]; show c.1 + 1 + _ + k ≤ _; omega
              · rw [es, sbe_0]; omega
              · rw [es, EBs_0]; exact b8'
          · rw [if_neg hc] at hs
            cases hs
            refine IA_top h' (by omega) (by rw [s2]; omega) (by rw [s2]; exact a5.2.2.2) hk2 ?_ (by omega) (Nat.le_refl _) ?_ ?_
            · rw [s2, s1, cs_0 (stk_b _ _) (by omega)]; omega
            · rw [s2]; omega
            · rw [s2]; exact b8'
      · cases L with
        | nil => rw [hS] at a4; cases a4
        | cons c L =>
          rw [stA_7 hp hk] at hs
          have hd : hdp (stk (qk Q r) p) = q := by rw [hS]; rfl
          obtain ⟨s1, s2, s3, s4⟩ := st_or hWF hp hk hd
          rw [s1] at hS a4 a5 htt hss b8'
          rw [LI_1] at a5
          rw [List.length_cons, List.length_cons] at a4
          rw [cs_1] at htt
          rw [sbe_1] at hss
          rw [EBs_1] at b8'
          by_cases h3 : 3 ≤ w
          · rw [if_pos h3] at hs
            cases hs
            refine IA_top h' (by omega) (by rw [s2, List.length_cons, List.length_cons]; omega) (by rw [s2, LI_2]; exact a5) hk2 ?_ (by omega) (Nat.le_refl _) ?_ ?_
            · rw [s2, s1, cs_2, cs_1]; omega
            · rw [s2, sbe_2]; show c.1 + _ + 0 + _ ≤ _; omega
            · rw [s2, EBs_2]; exact ⟨by show _ + c.1 + sp ≤ _; omega, b8'⟩
          · rw [if_neg h3] at hs
            cases hs
            rw [hd]
            obtain ⟨E, g1, g2, ⟨-, g3⟩, g4⟩ := opn_e hWF hnil (by omega : q < qn Q r) (Or.inr s4)
            obtain ⟨k1, k2, k3, k4, -⟩ := cls_ok ⟨E, g1, g2, g3 s4, g4⟩
            obtain ⟨d1, d2, -, -⟩ := st_done hWF k4 k1 k2
            have hlt : p < cls (qk Q r) (qn Q r) q 8 := or_lt hWF hp hk hd k4 k1 k2
            refine IA_top h' (by omega) (by rw [d2]; omega) (by rw [d2]; exact a5) hk2 ?_ (by omega) (Nat.le_refl _) ?_ ?_
            · rw [d2, s1, cs_1]; omega
            · rw [d2]; omega
            · rw [d2]; exact b8'
      · cases L with
        | nil => rw [hS] at a4; cases a4
        | cons c L =>
          rw [stA_8 hp hk] at hs
          have hd : hdp (stk (qk Q r) p) = q := by rw [hS]; rfl
          obtain ⟨s1, s2, s3, s4⟩ := st_done hWF hp hk hd
          rw [s1] at hS a4 a5 htt hss b8'
          rw [LI_2] at a5
          rw [List.length_cons, List.length_cons] at a4
          rw [cs_2] at htt
          rw [sbe_2] at hss
          rw [EBs_2] at b8'
          have b80 := b8
          rw [s1, EBs_2] at b80
          by_cases h3 : 3 ≤ w
          · rw [if_pos h3] at hs
            cases hs
            have hm : bsf Q R + sbe (stk (qk Q r) q) L + c.1 + mxw w c.2 sp ≤ 99 * t := by
              have h1 := b80.1
              unfold mxw
              split
              · split <;> omega
              · split <;> omega
            refine IA_top h' (by omega) (by rw [s2]; omega) (by rw [s2]; exact a5) hk2 ?_ (by omega) (Nat.le_refl _) ?_ ?_
            · rw [s2, s1, cs_2]; omega
            · rw [s2]; omega
            · rw [s2]; exact b8'.2
          · rw [if_neg h3] at hs
            cases hs
            refine IA_top h' (by omega) (by rw [s2]; omega) (by rw [s2]; exact a5) hk2 ?_ (by omega) (Nat.le_refl _) ?_ ?_
            · rw [s2, s1, cs_2]; omega
            · rw [s2]; omega
            · rw [s2]; exact b8'.2
