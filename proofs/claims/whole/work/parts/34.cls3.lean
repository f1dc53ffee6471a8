/-! StepsAhead: marks, ask, trace, lot, routine, expression -/
/-- what a program's objects hold stands, where all but the trace (and what else they don't look at) is as it was -/
theorem CO_tr {Q : Pg} {N : Nat} {s : Nat → Nat × Nat} {mi mi' : Nat → Nat → Int32} {mr : Nat → Nat → Nat} {r p : Nat} (h : CO Q N s mi mr r p) (hk : ∀ a, 142 ≤ a → mi' a = mi a) (hd : 6 ≤ qk Q r p → 142 ≤ mr (43 + 9 * r) (hdp (stk (qk Q r) p))) : CO Q N s mi' mr r p := by
  obtain ⟨ho, hN, hs, h1, h2, h3, h4, h42, hE, hE2, h6, h7, h8⟩ := h
  have ex : ∀ {e t}, EX s mi N e t → EX s mi' N e t := fun {e t} h => ⟨h.1, h.2.1, h.2.2.1, fun q hq => by rw [hk e h.1]; exact h.2.2.2 q hq⟩
  unfold CO
  rw [hk _ ho]
  refine ⟨ho, hN, hs, h1, h2, h3, h4, h42, fun h => ex (hE h), fun h => ⟨ex (hE2 h).1, (hE2 h).2⟩, fun h => ?_, fun h => ?_, fun h => ?_⟩
  · rw [hk _ (hd (by omega))]; exact h6 h
  · rw [hk _ (hd (by omega))]; exact h7 h
  · rw [hk _ (hd (by omega))]; exact h8 h
/-- marks -/
theorem cMk {G : AG} (hG : FIX G) {s : Nat → Nat × Nat} {mr : Nat → Nat → Nat} (hC : CS s mr) {n : Nat × Nat} {ml : Nat → Nat → Int64} {mi : Nat → Nat → Int32} {Q : Pg} {N : Nat} (hW : WP Q) {u : Nat × (Nat → Int32)} (hT : clT u mi) {r p : Nat} (hp : p < qn Q r) (hr : r < 8) (h21 : ∀ r, r < 8 → mi (42 + 9 * r) 21 = zi r) (hO : CO Q N s mi mr r p) : ∃ w : Nat × Nat, slk [(1, 58, 2), (2, 59, 2), (3, 60, 2), (4, 62, 2), (10, 62, 2)] (s (mr (43 + 9 * r) p)).1 = some w ∧ ∃ mi', G w.1 0 (padA w.2 [some (.inr (.inr (mr (43 + 9 * r) p))), some (.inr (.inr 8))]) [] (s, n, mi, ml, mr) = some (some (.inl (zi (valM Q r p))), (s, n, mi', ml, mr)) ∧ clT (trs u (bodM (qk Q r p))) mi' ∧ CTr mi mi' := by
  obtain ⟨ho, -, hs, h1, h2, h3, h4, h42, hE, hE2, -⟩ := hO
  have hb := hW.2.2.2.2.2.2 r p
  have e62 : (s (mr (43 + 9 * r) p)).1 = 10 ∨ (s (mr (43 + 9 * r) p)).1 = 4 → slk [(1, 58, 2), (2, 59, 2), (3, 60, 2), (4, 62, 2), (10, 62, 2)] (s (mr (43 + 9 * r) p)).1 = some (62, 2) := by
    rintro (h | h) <;> rw [h] <;> rfl
  rcases kle (hW.2.2.2.1 r) hp with h | h | h | h | h | h | h
  case inr.inl =>
    have hs' := hs
    rw [h, osh_3] at hs'
    obtain ⟨m1, e1, t1, r1⟩ := c53 hG hC (n := n) (ml := ml) hT 22
    obtain ⟨m2, e2, t2, r2⟩ := c53 hG hC (n := n) (ml := ml) t1 21
    have r12 := CTr_trans r1 r2
    obtain ⟨m3, e3, t3, r3⟩ := c62 hG hC (n := n) (ml := ml) t2 (o := mr (43 + 9 * r) p) (k := 3) (p := p) ho hs' (by rw [r12.1 _ (by omega) (by omega)]; exact h2)
    have r13 := CTr_trans r12 r3
    obtain ⟨m4, e4, t4, r4⟩ := c54 hG hC (n := n) (ml := ml) t3 (k := 3) ho hs' (Or.inl rfl) (EX_tr hG hC (hE (Or.inl h)) r13) hb
    have r14 := CTr_trans r13 r4
    refine ⟨(60, 2), by rw [hs']; rfl, m4, ?_, by rw [h]; exact t4, r14⟩
    show G 60 0 [some (.inr (.inr (mr (43 + 9 * r) p))), some (.inr (.inr 8))] [] (s, n, mi, ml, mr) = _
    have e61 : G 61 0 [some (.inr (.inr (mr (43 + 9 * r) p))), some (.inr (.inr 8))] [] (s, n, m1, ml, mr) = some (some (.inl (zi (p + (1 + nzc (qt Q r p) 6)))), (s, n, m4, ml, mr)) := by
      rw [b61_0 hG]
      simp (disch := omega) only [kc4 hC, kc42 hC, kc8 hC, kc10 hC, kc11 hC, kc41 hC, nbeq_f, ne_eq, Nat.not_lt_zero, Nat.zero_le, eq_self, not_true_eq_false, not_false_eq_true, decide_true, decide_false, Bool.not_true, Bool.not_false, Bool.true_and, Bool.false_and, Bool.and_true, Bool.and_false, Bool.or_true, Bool.true_or, Bool.false_or, Bool.or_false, Nat.beq_refl, bind_s, as_I, as_J, as_R, as_V, cnd_t, cnd_f, bz_ret, bzp_0, bzp_1, bzp_z0, bzp_z1, dec_bf, dec_bt, dec_nbf, dec_nbt, Bool.false_eq_true, Bool.true_eq_false, ret_0, ret_1, ret_z0, ret_z1, slk, padA, List.any_cons, List.any_nil, nbeq_f, if_true, if_false, Nat.reduceEqDiff, zi_lit, zi_add, e2, hs', e3, e4]
    rw [b60_0 hG]
    have hv : valM Q r p = p + (1 + nzc (qt Q r p) 6) + lps (stk (qk Q r) p) + 1 := by
      simp (disch := omega) only [valM, valS, h, if_true, if_false, Nat.reduceEqDiff]
    simp (disch := omega) only [kc4 hC, kc42 hC, kc8 hC, kc10 hC, kc11 hC, kc41 hC, nbeq_f, ne_eq, Nat.not_lt_zero, Nat.zero_le, eq_self, not_true_eq_false, not_false_eq_true, decide_true, decide_false, Bool.not_true, Bool.not_false, Bool.true_and, Bool.false_and, Bool.and_true, Bool.and_false, Bool.or_true, Bool.true_or, Bool.false_or, Bool.or_false, Nat.beq_refl, bind_s, as_I, as_J, as_R, as_V, cnd_t, cnd_f, bz_ret, bzp_0, bzp_1, bzp_z0, bzp_z1, dec_bf, dec_bt, dec_nbf, dec_nbt, Bool.false_eq_true, Bool.true_eq_false, ret_0, ret_1, ret_z0, ret_z1, slk, padA, List.any_cons, List.any_nil, nbeq_f, if_true, if_false, Nat.reduceEqDiff, zi_lit, zi_add, e1, hs', e61, rgI hs' hF3_3, r14.1, h3, hv]
  case inr.inr.inl =>
    have hs' := hs
    rw [h, osh_4] at hs'
    obtain ⟨m1, e1, t1, r1⟩ := c53 hG hC (n := n) (ml := ml) hT 23
    refine ⟨(58, 2), by rw [hs']; rfl, m1, ?_, by rw [h]; exact t1, r1⟩
    show G 58 0 [some (.inr (.inr (mr (43 + 9 * r) p))), some (.inr (.inr 8))] [] (s, n, mi, ml, mr) = _
    rw [b58_0 hG]
    have hd := hW.2.2.2.2.2.1 r p hp h
    have h6 := (hE2 h).2
    simp (disch := omega) only [gc21 hC, kc4 hC, kc42 hC, kc8 hC, kc10 hC, kc11 hC, kc41 hC, nbeq_f, ne_eq, Nat.not_lt_zero, Nat.zero_le, eq_self, not_true_eq_false, not_false_eq_true, decide_true, decide_false, Bool.not_true, Bool.not_false, Bool.true_and, Bool.false_and, Bool.and_true, Bool.and_false, Bool.or_true, Bool.true_or, Bool.false_or, Bool.or_false, Nat.beq_refl, bind_s, as_I, as_J, as_R, as_V, cnd_t, cnd_f, bz_ret, bzp_0, bzp_1, bzp_z0, bzp_z1, dec_bf, dec_bt, dec_nbf, dec_nbt, Bool.false_eq_true, Bool.true_eq_false, ret_0, ret_1, ret_z0, ret_z1, zi_lit, e1, rgR hs' hF1_6, h6, r1.1, h21, valM, h, if_true]
  case inr.inr.inr.inl =>
    have hs' := hs
    rw [h, osh_5] at hs'
    obtain ⟨m1, e1, t1, r1⟩ := c53 hG hC (n := n) (ml := ml) hT 24
    obtain ⟨m3, e3, t3, r3⟩ := c62 hG hC (n := n) (ml := ml) t1 (o := mr (43 + 9 * r) p) (k := 5) (p := p) ho hs' (by rw [r1.1 _ (by omega) (by omega)]; exact h2)
    refine ⟨(59, 2), by rw [hs']; rfl, m3, ?_, by rw [h]; exact t3, CTr_trans r1 r3⟩
    show G 59 0 [some (.inr (.inr (mr (43 + 9 * r) p))), some (.inr (.inr 8))] [] (s, n, mi, ml, mr) = _
    rw [b59_0 hG]
    simp (disch := omega) only [kc4 hC, kc42 hC, kc8 hC, kc10 hC, kc11 hC, kc41 hC, nbeq_f, ne_eq, Nat.not_lt_zero, Nat.zero_le, eq_self, not_true_eq_false, not_false_eq_true, decide_true, decide_false, Bool.not_true, Bool.not_false, Bool.true_and, Bool.false_and, Bool.and_true, Bool.and_false, Bool.or_true, Bool.true_or, Bool.false_or, Bool.or_false, Nat.beq_refl, bind_s, as_I, as_J, as_R, as_V, cnd_t, cnd_f, bz_ret, bzp_0, bzp_1, bzp_z0, bzp_z1, dec_bf, dec_bt, dec_nbf, dec_nbt, Bool.false_eq_true, Bool.true_eq_false, ret_0, ret_1, ret_z0, ret_z1, zi_lit, zi_mul, e1, hs', e3, valM, h, if_true, if_false, Nat.reduceEqDiff]
  all_goals
    obtain ⟨m1, e1, t1, r1⟩ := c62 hG hC (n := n) (ml := ml) hT ho hs h2
    refine ⟨(62, 2), e62 (by rw [hs, h]; first | exact Or.inl rfl | exact Or.inr rfl), m1, ?_, by rw [h]; exact t1, r1⟩
    refine Eq.trans e1 ?_
    simp (disch := omega) only [valM, h, if_true, if_false, Nat.reduceEqDiff]
theorem c50 {G : AG} (hG : FIX G) {s : Nat → Nat × Nat} {mr : Nat → Nat → Nat} (hC : CS s mr) {n : Nat × Nat} {ml : Nat → Nat → Int64} {mi : Nat → Nat → Int32} {Q : Pg} {N : Nat} (hQ : CQ Q N s mi mr) (hW : WP Q) {t : Nat × (Nat → Int32)} (hT : clT t mi) (hd : ∀ r p, r < 8 → p < qn Q r → 6 ≤ qk Q r p → 142 ≤ mr (43 + 9 * r) (hdp (stk (qk Q r) p))) (x y w : Int32) :
    ∃ mi', G 50 0 [some (.inr (.inr 4)), some (.inl x), some (.inl y), some (.inl w), none] [] (s, n, mi, ml, mr) = some (some (.inl (rAsk Q x y w)), (s, n, mi', ml, mr)) ∧ clT (tAsk Q x y w t) mi' ∧ CTr mi mi' := by
  have h8 := hW.1
  rw [b50_0 hG]
  unfold rAsk tAsk
  cases h : opq Q x y
  · obtain ⟨z, e, rfl⟩ := c45_f hG hC (n := n) (ml := ml) hQ hW h
    refine ⟨mi, ?_, hT, fun _ _ _ => rfl, fun _ _ => rfl⟩
    simp (disch := omega) only [b50_22 hG, b50_57 hG, gc47 hC, kc4 hC, kc42 hC, kc8 hC, kc10 hC, kc11 hC, kc41 hC, nbeq_f, ne_eq, Nat.not_lt_zero, Nat.zero_le, eq_self, not_true_eq_false, not_false_eq_true, decide_true, decide_false, Bool.not_true, Bool.not_false, Bool.true_and, Bool.false_and, Bool.and_true, Bool.and_false, Bool.or_true, Bool.true_or, Bool.false_or, Bool.or_false, Nat.beq_refl, bind_s, as_I, as_J, as_R, as_V, cnd_t, cnd_f, bz_ret, bzp_0, bzp_1, bzp_z0, bzp_z1, dec_bf, dec_bt, dec_nbf, dec_nbt, Bool.false_eq_true, Bool.true_eq_false, ret_0, ret_1, ret_z0, ret_z1, e]
  · unfold opq at h
    rw [Bool.and_eq_true] at h
    obtain ⟨r, hr, hr2, rfl⟩ := isN_t h.1
    have h2 := h.2
    rw [zi_cl hr2] at h2
    obtain ⟨p, hp, hp2, rfl⟩ := isN_t h2
    have hO := (hQ.2.1 r (by omega)).2.2.2.2.2.1 p hp
    have ho := hO.1
    simp (disch := omega) only [b50_22 hG, b50_57 hG, gc47 hC, kc4 hC, kc42 hC, kc8 hC, kc10 hC, kc11 hC, kc41 hC, nbeq_f, ne_eq, Nat.not_lt_zero, Nat.zero_le, eq_self, not_true_eq_false, not_false_eq_true, decide_true, decide_false, Bool.not_true, Bool.not_false, Bool.true_and, Bool.false_and, Bool.and_true, Bool.and_false, Bool.or_true, Bool.true_or, Bool.false_or, Bool.or_false, Nat.beq_refl, bind_s, as_I, as_J, as_R, as_V, cnd_t, cnd_f, bz_ret, bzp_0, bzp_1, bzp_z0, bzp_z1, dec_bf, dec_bt, dec_nbf, dec_nbt, Bool.false_eq_true, Bool.true_eq_false, ret_0, ret_1, ret_z0, ret_z1, zi_cl, c45_t hG hC hQ hW hr hp]
    cases h3 : isN w 2
    · refine ⟨mi, ?_, hT, fun _ _ _ => rfl, fun _ _ => rfl⟩
      by_cases h0 : w < 0
      · simp only [ne_eq, Nat.not_lt_zero, Nat.zero_le, eq_self, not_true_eq_false, not_false_eq_true, decide_true, decide_false, Bool.not_true, Bool.not_false, Bool.true_and, Bool.false_and, Bool.and_true, Bool.and_false, Bool.or_true, Bool.true_or, Bool.false_or, Bool.or_false, Nat.beq_refl, bind_s, as_I, as_J, as_R, as_V, cnd_t, cnd_f, bz_ret, bzp_0, bzp_1, bzp_z0, bzp_z1, dec_bf, dec_bt, dec_nbf, dec_nbt, Bool.false_eq_true, Bool.true_eq_false, ret_0, ret_1, ret_z0, ret_z1, decide_eq_true h0]
      · obtain ⟨j, hj, rfl⟩ := zi_of (Int32.not_lt.mp h0)
        rw [isN_zi hj] at h3
        have h9 : 2 ≤ j := by have := of_decide_eq_false h3; omega
        simp (disch := omega) only [ne_eq, Nat.not_lt_zero, Nat.zero_le, eq_self, not_true_eq_false, not_false_eq_true, decide_true, decide_false, Bool.not_true, Bool.not_false, Bool.true_and, Bool.false_and, Bool.and_true, Bool.and_false, Bool.or_true, Bool.true_or, Bool.false_or, Bool.or_false, Nat.beq_refl, bind_s, as_I, as_J, as_R, as_V, cnd_t, cnd_f, bz_ret, bzp_0, bzp_1, bzp_z0, bzp_z1, dec_bf, dec_bt, dec_nbf, dec_nbt, Bool.false_eq_true, Bool.true_eq_false, ret_0, ret_1, ret_z0, ret_z1, decide_eq_false h0, zi_lit, zi_add, zi_mul, zi_lt, zi_le, zi_eq, zi_sub, eq_false (by omega : ¬ j ≤ 1)]
    · obtain ⟨j, hj, hj2, rfl⟩ := isN_t h3
      have hM0 : CTr mi (up2 mi 8 41 (zi 0)) := ⟨fun a h1 h2 => up2_n _ _ h1, fun f hf => by rw [up2_s, up1_n _ _ hf]⟩
      have hT0 : clT (0, t.2) (up2 mi 8 41 (zi 0)) := ⟨Nat.zero_le _, by rw [up2_s, up1_s], fun i hi => by cases hi⟩
      have hO0 : CO Q N s (up2 mi 8 41 (zi 0)) mr r p := CO_tr hO (fun a ha => hM0.1 a (by omega) (by omega)) (hd r p (by omega) hp)
      have e51 : G 51 0 [some (.inr (.inr 8))] [] (s, n, mi, ml, mr) = some (none, (s, n, up2 mi 8 41 (zi 0), ml, mr)) := by
        rw [b51_0 hG]
        simp (disch := omega) only [pc41 hC, ne_eq, Nat.not_lt_zero, Nat.zero_le, eq_self, not_true_eq_false, not_false_eq_true, decide_true, decide_false, Bool.not_true, Bool.not_false, Bool.true_and, Bool.false_and, Bool.and_true, Bool.and_false, Bool.or_true, Bool.true_or, Bool.false_or, Bool.or_false, Nat.beq_refl, bind_s, as_I, as_J, as_R, as_V, cnd_t, cnd_f, bz_ret, bzp_0, bzp_1, bzp_z0, bzp_z1, dec_bf, dec_bt, dec_nbf, dec_nbt, Bool.false_eq_true, Bool.true_eq_false, ret_0, ret_1, ret_z0, ret_z1, zi_lit]
      have h01 : j = 0 ∨ j = 1 := by omega
      rcases h01 with rfl | rfl
      · obtain ⟨v, ev, m1, e1, t1, r1⟩ := cSz hG hC (n := n) (ml := ml) hW hT0 hp hO0
        refine ⟨m1, ?_, t1, CTr_trans hM0 r1⟩
        simp (disch := omega) only [b50_22 hG, b50_57 hG, gc47 hC, kc4 hC, kc42 hC, kc8 hC, kc10 hC, kc11 hC, kc41 hC, nbeq_f, ne_eq, Nat.not_lt_zero, Nat.zero_le, eq_self, not_true_eq_false, not_false_eq_true, decide_true, decide_false, Bool.not_true, Bool.not_false, Bool.true_and, Bool.false_and, Bool.and_true, Bool.and_false, Bool.or_true, Bool.true_or, Bool.false_or, Bool.or_false, Nat.beq_refl, bind_s, as_I, as_J, as_R, as_V, cnd_t, cnd_f, bz_ret, bzp_0, bzp_1, bzp_z0, bzp_z1, dec_bf, dec_bt, dec_nbf, dec_nbt, Bool.false_eq_true, Bool.true_eq_false, ret_0, ret_1, ret_z0, ret_z1, zi_lit, zi_add, zi_mul, zi_lt, zi_le, zi_eq, zi_sub, e51, ev, e1, Nat.not_lt_zero, Nat.zero_le]
      · obtain ⟨v, ev, m1, e1, t1, r1⟩ := cMk hG hC (n := n) (ml := ml) hW hT0 hp (by omega) (fun a ha => by rw [hM0.1 _ (by omega) (by omega)]; exact (hQ.2.1 a ha).1) hO0
        refine ⟨m1, ?_, t1, CTr_trans hM0 r1⟩
        simp (disch := omega) only [b50_22 hG, b50_57 hG, gc47 hC, kc4 hC, kc42 hC, kc8 hC, kc10 hC, kc11 hC, kc41 hC, nbeq_f, ne_eq, Nat.not_lt_zero, Nat.zero_le, eq_self, not_true_eq_false, not_false_eq_true, decide_true, decide_false, Bool.not_true, Bool.not_false, Bool.true_and, Bool.false_and, Bool.and_true, Bool.and_false, Bool.or_true, Bool.true_or, Bool.false_or, Bool.or_false, Nat.beq_refl, bind_s, as_I, as_J, as_R, as_V, cnd_t, cnd_f, bz_ret, bzp_0, bzp_1, bzp_z0, bzp_z1, dec_bf, dec_bt, dec_nbf, dec_nbt, Bool.false_eq_true, Bool.true_eq_false, ret_0, ret_1, ret_z0, ret_z1, zi_lit, zi_add, zi_mul, zi_lt, zi_le, zi_eq, zi_sub, e51, ev, e1, Nat.not_lt_zero, Nat.le_refl, Nat.reduceEqDiff]
theorem c63 {G : AG} (hG : FIX G) {s : Nat → Nat × Nat} {mr : Nat → Nat → Nat} (hC : CS s mr) {n : Nat × Nat} {ml : Nat → Nat → Int64} {mi : Nat → Nat → Int32} {t : Nat × (Nat → Int32)} (hT : clT t mi) (x : Int32) : G 63 0 [some (.inr (.inr 4)), some (.inl x)] [] (s, n, mi, ml, mr) = some (some (.inl (rTrace t x)), (s, n, mi, ml, mr)) := by
  obtain ⟨h16, h41, hi⟩ := hT
  have e : G 64 0 [some (.inr (.inr 8)), some (.inl x)] [] (s, n, mi, ml, mr) = some (some (.inl (rTrace t x)), (s, n, mi, ml, mr)) := by
    rw [b64_0 hG]
    unfold rTrace
    by_cases h0 : x < 0
    · have : isN x t.1 = false := by
        cases h : isN x t.1
        · rfl
        · obtain ⟨r, -, hr, rfl⟩ := isN_t h
          exact absurd h0 (Int32.not_lt.mpr (zi_ge0 hr))
      simp only [ne_eq, Nat.not_lt_zero, Nat.zero_le, eq_self, not_true_eq_false, not_false_eq_true, decide_true, decide_false, Bool.not_true, Bool.not_false, Bool.true_and, Bool.false_and, Bool.and_true, Bool.and_false, Bool.or_true, Bool.true_or, Bool.false_or, Bool.or_false, Nat.beq_refl, bind_s, as_I, as_J, as_R, as_V, cnd_t, cnd_f, bz_ret, bzp_0, bzp_1, bzp_z0, bzp_z1, dec_bf, dec_bt, dec_nbf, dec_nbt, Bool.false_eq_true, Bool.true_eq_false, ret_0, ret_1, ret_z0, ret_z1, b64_21 hG, b64_32 hG, decide_eq_true h0, this]
    · obtain ⟨j, hj, rfl⟩ := zi_of (Int32.not_lt.mp h0)
      rw [isN_zi hj, zi_cl hj]
      by_cases hl : j < t.1
      · simp (disch := omega) only [ne_eq, Nat.not_lt_zero, Nat.zero_le, eq_self, not_true_eq_false, not_false_eq_true, decide_true, decide_false, Bool.not_true, Bool.not_false, Bool.true_and, Bool.false_and, Bool.and_true, Bool.and_false, Bool.or_true, Bool.true_or, Bool.false_or, Bool.or_false, Nat.beq_refl, bind_s, as_I, as_J, as_R, as_V, cnd_t, cnd_f, bz_ret, bzp_0, bzp_1, bzp_z0, bzp_z1, dec_bf, dec_bt, dec_nbf, dec_nbt, Bool.false_eq_true, Bool.true_eq_false, ret_0, ret_1, ret_z0, ret_z1, b64_21 hG, b64_32 hG, gc41 hC, gc40 hC, ac9 hC, wc9 hC, lc9 hC, decide_eq_false h0, zi_lit, zi_add, zi_mul, zi_lt, zi_le, zi_eq, zi_sub, h41, eq_true hl, eq_false (by omega : ¬ t.1 ≤ j), eq_true (by omega : j < 16), hi j hl]
      · simp (disch := omega) only [ne_eq, Nat.not_lt_zero, Nat.zero_le, eq_self, not_true_eq_false, not_false_eq_true, decide_true, decide_false, Bool.not_true, Bool.not_false, Bool.true_and, Bool.false_and, Bool.and_true, Bool.and_false, Bool.or_true, Bool.true_or, Bool.false_or, Bool.or_false, Nat.beq_refl, bind_s, as_I, as_J, as_R, as_V, cnd_t, cnd_f, bz_ret, bzp_0, bzp_1, bzp_z0, bzp_z1, dec_bf, dec_bt, dec_nbf, dec_nbt, Bool.false_eq_true, Bool.true_eq_false, ret_0, ret_1, ret_z0, ret_z1, b64_21 hG, b64_32 hG, gc41 hC, gc40 hC, ac9 hC, wc9 hC, lc9 hC, decide_eq_false h0, zi_lit, zi_add, zi_mul, zi_lt, zi_le, zi_eq, zi_sub, h41, eq_false hl, eq_true (by omega : t.1 ≤ j)]
  rw [b63_0 hG]
  simp (disch := omega) only [gc47 hC, kc4 hC, kc42 hC, kc8 hC, kc10 hC, kc11 hC, kc41 hC, nbeq_f, ne_eq, Nat.not_lt_zero, Nat.zero_le, eq_self, not_true_eq_false, not_false_eq_true, decide_true, decide_false, Bool.not_true, Bool.not_false, Bool.true_and, Bool.false_and, Bool.and_true, Bool.and_false, Bool.or_true, Bool.true_or, Bool.false_or, Bool.or_false, Nat.beq_refl, bind_s, as_I, as_J, as_R, as_V, cnd_t, cnd_f, bz_ret, bzp_0, bzp_1, bzp_z0, bzp_z1, dec_bf, dec_bt, dec_nbf, dec_nbt, Bool.false_eq_true, Bool.true_eq_false, ret_0, ret_1, ret_z0, ret_z1, e]
theorem c123 {G : AG} (hG : FIX G) {s : Nat → Nat × Nat} {mr : Nat → Nat → Nat} (hC : CS s mr) {n : Nat × Nat} {ml : Nat → Nat → Int64} {mi : Nat → Nat → Int32} (v : Int32) : G 123 0 [some (.inr (.inr 4)), some (.inl v)] [] (s, n, mi, ml, mr) = some (some (.inl 1), (s, n, up2 mi 41 33 v, ml, mr)) := by
  rw [b123_0 hG]
  simp (disch := omega) only [gc49 hC, pc33 hC, ne_eq, Nat.not_lt_zero, Nat.zero_le, eq_self, not_true_eq_false, not_false_eq_true, decide_true, decide_false, Bool.not_true, Bool.not_false, Bool.true_and, Bool.false_and, Bool.and_true, Bool.and_false, Bool.or_true, Bool.true_or, Bool.false_or, Bool.or_false, Nat.beq_refl, bind_s, as_I, as_J, as_R, as_V, cnd_t, cnd_f, bz_ret, bzp_0, bzp_1, bzp_z0, bzp_z1, dec_bf, dec_bt, dec_nbf, dec_nbt, Bool.false_eq_true, Bool.true_eq_false, ret_0, ret_1, ret_z0, ret_z1]
theorem c11 {G : AG} (hG : FIX G) {s : Nat → Nat × Nat} {mr : Nat → Nat → Nat} (hC : CS s mr) {n : Nat × Nat} {ml : Nat → Nat → Int64} {mi : Nat → Nat → Int32} {c : Nat} (h44 : mi 4 44 = zi c) (hc : c ≤ 8) : G 11 0 [some (.inr (.inr 4))] [] (s, n, mi, ml, mr) = if c = 8 then some (some (.inl (-1000003)), (s, n, mi, ml, mr)) else some (some (.inl (zi c)), (s, n, up2 mi 4 44 (zi (c + 1)), ml, mr)) := by
  rw [b11_0 hG]
  by_cases h : c = 8
  · rw [if_pos h]
    simp (disch := omega) only [gc44 hC, pc44 hC, ne_eq, Nat.not_lt_zero, Nat.zero_le, eq_self, not_true_eq_false, not_false_eq_true, decide_true, decide_false, Bool.not_true, Bool.not_false, Bool.true_and, Bool.false_and, Bool.and_true, Bool.and_false, Bool.or_true, Bool.true_or, Bool.false_or, Bool.or_false, Nat.beq_refl, bind_s, as_I, as_J, as_R, as_V, cnd_t, cnd_f, bz_ret, bzp_0, bzp_1, bzp_z0, bzp_z1, dec_bf, dec_bt, dec_nbf, dec_nbt, Bool.false_eq_true, Bool.true_eq_false, ret_0, ret_1, ret_z0, ret_z1, zi_lit, zi_add, zi_mul, zi_lt, zi_le, zi_eq, zi_sub, h44, eq_false (by omega : ¬ c < 8)]
  · rw [if_neg h]
    simp (disch := omega) only [gc44 hC, pc44 hC, ne_eq, Nat.not_lt_zero, Nat.zero_le, eq_self, not_true_eq_false, not_false_eq_true, decide_true, decide_false, Bool.not_true, Bool.not_false, Bool.true_and, Bool.false_and, Bool.and_true, Bool.and_false, Bool.or_true, Bool.true_or, Bool.false_or, Bool.or_false, Nat.beq_refl, bind_s, as_I, as_J, as_R, as_V, cnd_t, cnd_f, bz_ret, bzp_0, bzp_1, bzp_z0, bzp_z1, dec_bf, dec_bt, dec_nbf, dec_nbt, Bool.false_eq_true, Bool.true_eq_false, ret_0, ret_1, ret_z0, ret_z1, zi_lit, zi_add, zi_mul, zi_lt, zi_le, zi_eq, zi_sub, h44, eq_true (by omega : c < 8), up2_s, up1_s, Nat.add_sub_cancel]
theorem c13 {G : AG} (hG : FIX G) (x : Int32) (H : Hp) : G 13 0 [some (.inl x)] [] H = some (some (.inl (bz (isN x 3))), H) := by
  rw [b13_0 hG]
  by_cases h0 : x < 0
  · have : isN x 3 = false := by
      cases h : isN x 3
      · rfl
      · obtain ⟨r, -, hr, rfl⟩ := isN_t h
        exact absurd h0 (Int32.not_lt.mpr (zi_ge0 hr))
    simp only [ne_eq, Nat.not_lt_zero, Nat.zero_le, eq_self, not_true_eq_false, not_false_eq_true, decide_true, decide_false, Bool.not_true, Bool.not_false, Bool.true_and, Bool.false_and, Bool.and_true, Bool.and_false, Bool.or_true, Bool.true_or, Bool.false_or, Bool.or_false, Nat.beq_refl, bind_s, as_I, as_J, as_R, as_V, cnd_t, cnd_f, bz_ret, bzp_0, bzp_1, bzp_z0, bzp_z1, dec_bf, dec_bt, dec_nbf, dec_nbt, Bool.false_eq_true, Bool.true_eq_false, ret_0, ret_1, ret_z0, ret_z1, b13_13 hG, b13_14 hG, decide_eq_true h0, this]
  · obtain ⟨j, hj, rfl⟩ := zi_of (Int32.not_lt.mp h0)
    rw [isN_zi hj]
    by_cases hl : j < 3
    · simp (disch := omega) only [ne_eq, Nat.not_lt_zero, Nat.zero_le, eq_self, not_true_eq_false, not_false_eq_true, decide_true, decide_false, Bool.not_true, Bool.not_false, Bool.true_and, Bool.false_and, Bool.and_true, Bool.and_false, Bool.or_true, Bool.true_or, Bool.false_or, Bool.or_false, Nat.beq_refl, bind_s, as_I, as_J, as_R, as_V, cnd_t, cnd_f, bz_ret, bzp_0, bzp_1, bzp_z0, bzp_z1, dec_bf, dec_bt, dec_nbf, dec_nbt, Bool.false_eq_true, Bool.true_eq_false, ret_0, ret_1, ret_z0, ret_z1, b13_13 hG, b13_14 hG, decide_eq_false h0, zi_lit, zi_add, zi_mul, zi_lt, zi_le, zi_eq, zi_sub, eq_true hl, eq_false (by omega : ¬ 2 < j)]
    · simp (disch := omega) only [ne_eq, Nat.not_lt_zero, Nat.zero_le, eq_self, not_true_eq_false, not_false_eq_true, decide_true, decide_false, Bool.not_true, Bool.not_false, Bool.true_and, Bool.false_and, Bool.and_true, Bool.and_false, Bool.or_true, Bool.true_or, Bool.false_or, Bool.or_false, Nat.beq_refl, bind_s, as_I, as_J, as_R, as_V, cnd_t, cnd_f, bz_ret, bzp_0, bzp_1, bzp_z0, bzp_z1, dec_bf, dec_bt, dec_nbf, dec_nbt, Bool.false_eq_true, Bool.true_eq_false, ret_0, ret_1, ret_z0, ret_z1, b13_13 hG, b13_14 hG, decide_eq_false h0, zi_lit, zi_add, zi_mul, zi_lt, zi_le, zi_eq, zi_sub, eq_false hl, eq_true (by omega : 2 < j)]