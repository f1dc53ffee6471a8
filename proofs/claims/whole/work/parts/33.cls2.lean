/-! StepsAhead: ask and its bodies, trace, lot, routine, expression -/
theorem c53 {G : AG} (hG : FIX G) {s : Nat → Nat × Nat} {mr : Nat → Nat → Nat} (hC : CS s mr) {n : Nat × Nat} {ml : Nat → Nat → Int64} {mi : Nat → Nat → Int32} {t : Nat × (Nat → Int32)} (hT : clT t mi) (b : Nat) : ∃ mi', G 53 0 [some (.inr (.inr 8)), some (.inl (zi b))] [] (s, n, mi, ml, mr) = some (none, (s, n, mi', ml, mr)) ∧ clT (trs t [b]) mi' ∧ CTr mi mi' := by
  obtain ⟨h16, h41, hi⟩ := hT
  by_cases h : t.1 < 16
  · refine ⟨up2 (up2 mi 9 t.1 (zi b)) 8 41 (zi (t.1 + 1)), ?_, ⟨?_, ?_, ?_⟩, ?_, ?_⟩
    · rw [b53_0 hG]
      simp (disch := omega) only [b53_32 hG, gc41 hC, gc40 hC, ac9 hC, wc9 hC, lc9 hC, pc41 hC, ne_eq, Nat.not_lt_zero, Nat.zero_le, eq_self, not_true_eq_false, not_false_eq_true, decide_true, decide_false, Bool.not_true, Bool.not_false, Bool.true_and, Bool.false_and, Bool.and_true, Bool.and_false, Bool.or_true, Bool.true_or, Bool.false_or, Bool.or_false, Nat.beq_refl, bind_s, as_I, as_J, as_R, as_V, cnd_t, cnd_f, bz_ret, bzp_0, bzp_1, bzp_z0, bzp_z1, dec_bf, dec_bt, dec_nbf, dec_nbt, Bool.false_eq_true, Bool.true_eq_false, ret_0, ret_1, ret_z0, ret_z1, zi_lit, zi_add, zi_mul, zi_lt, zi_le, zi_eq, zi_sub, h41, up2_s, up2_n, eq_false (by omega : ¬ 16 ≤ t.1)]
    · show trN t.1 ≤ 16; unfold trN; split <;> omega
    · show _ = zi (trN t.1); unfold trN; rw [if_pos h, up2_s, up1_s]
    · intro i hi'
      have hi2 : i < trN t.1 := hi'
      unfold trN at hi2; rw [if_pos h] at hi2
      show _ = trF t.1 t.2 (zi b) i
      unfold trF; rw [if_pos h, up2_n _ _ (by decide), up2_s]
      by_cases e : i = t.1
      · rw [e, up1_s, up1_s]
      · rw [up1_n _ _ e, up1_n _ _ e]; exact hi i (by omega)
    · intro a h1 h2; rw [up2_n _ _ h1, up2_n _ _ h2]
    · intro f hf; rw [up2_s, up1_n _ _ hf, up2_n _ _ (by decide)]
  · refine ⟨mi, ?_, ⟨?_, ?_, ?_⟩, fun _ _ _ => rfl, fun _ _ => rfl⟩
    · rw [b53_0 hG]
      simp (disch := omega) only [b53_32 hG, gc41 hC, gc40 hC, ac9 hC, wc9 hC, lc9 hC, pc41 hC, ne_eq, Nat.not_lt_zero, Nat.zero_le, eq_self, not_true_eq_false, not_false_eq_true, decide_true, decide_false, Bool.not_true, Bool.not_false, Bool.true_and, Bool.false_and, Bool.and_true, Bool.and_false, Bool.or_true, Bool.true_or, Bool.false_or, Bool.or_false, Nat.beq_refl, bind_s, as_I, as_J, as_R, as_V, cnd_t, cnd_f, bz_ret, bzp_0, bzp_1, bzp_z0, bzp_z1, dec_bf, dec_bt, dec_nbf, dec_nbt, Bool.false_eq_true, Bool.true_eq_false, ret_0, ret_1, ret_z0, ret_z1, zi_lit, zi_add, zi_mul, zi_lt, zi_le, zi_eq, zi_sub, h41, eq_true (by omega : 16 ≤ t.1)]
    · show trN t.1 ≤ 16; unfold trN; split <;> omega
    · show _ = zi (trN t.1); unfold trN; rw [if_neg h]; exact h41
    · show ∀ i, i < trN t.1 → mi 9 i = trF t.1 t.2 (zi b) i
      unfold trN trF; rw [if_neg h, if_neg h]; exact hi
theorem c55L {G : AG} (hG : FIX G) {s : Nat → Nat × Nat} {mr : Nat → Nat → Nat} {n : Nat × Nat} {ml : Nat → Nat → Int64} {mi : Nat → Nat → Int32} {N e : Nat} {t : Nat → Nat} (hE : EX s mi N e t) (hb : ∀ q, t q ≤ 2) : ∀ (d k : Nat) (o5 : Option AV), k + d = 6 →
    G 55 10 [some (.inr (.inr e)), some (.inl (zi (nzc t k))), some (.inr (.inr e)), some (.inl (zi 6)), some (.inl (zi k)), o5] [] (s, n, mi, ml, mr) = some (some (.inl (zi (nzc t 6))), (s, n, mi, ml, mr))
  | 0, k, o5, hk => by
    have e : k = 6 := by omega
    subst e
    rw [b55_10 hG]
    simp (disch := omega) only [ne_eq, Nat.not_lt_zero, Nat.zero_le, eq_self, not_true_eq_false, not_false_eq_true, decide_true, decide_false, Bool.not_true, Bool.not_false, Bool.true_and, Bool.false_and, Bool.and_true, Bool.and_false, Bool.or_true, Bool.true_or, Bool.false_or, Bool.or_false, Nat.beq_refl, bind_s, as_I, as_J, as_R, as_V, cnd_t, cnd_f, bz_ret, bzp_0, bzp_1, bzp_z0, bzp_z1, dec_bf, dec_bt, dec_nbf, dec_nbt, Bool.false_eq_true, Bool.true_eq_false, ret_0, ret_1, ret_z0, ret_z1, zi_lit, zi_add, zi_mul, zi_lt, zi_le, zi_eq, zi_sub, Nat.le_refl]
  | d + 1, k, o5, hk => by
    have ih := c55L hG (s := s) (mr := mr) (n := n) (ml := ml) hE hb d (k + 1) (some (.inl (zi (t k)))) (by omega)
    have hbk := hb k
    obtain ⟨e1, e2, e3, e4⟩ := hE
    rw [b55_10 hG]
    simp (disch := omega) only [b55_30 hG, ne_eq, Nat.not_lt_zero, Nat.zero_le, eq_self, not_true_eq_false, not_false_eq_true, decide_true, decide_false, Bool.not_true, Bool.not_false, Bool.true_and, Bool.false_and, Bool.and_true, Bool.and_false, Bool.or_true, Bool.true_or, Bool.false_or, Bool.or_false, Nat.beq_refl, bind_s, as_I, as_J, as_R, as_V, cnd_t, cnd_f, bz_ret, bzp_0, bzp_1, bzp_z0, bzp_z1, dec_bf, dec_bt, dec_nbf, dec_nbt, Bool.false_eq_true, Bool.true_eq_false, ret_0, ret_1, ret_z0, ret_z1, zi_lit, zi_add, zi_mul, zi_lt, zi_le, zi_eq, zi_sub, raI e3 (by omega : k < 6) (by decide), e4 k (by omega), eq_false (by omega : ¬ 6 ≤ k)]
    by_cases h0 : t k = 0
    · rw [nzc, if_pos h0] at ih
      simp (disch := omega) only [b55_30 hG, ne_eq, Nat.not_lt_zero, Nat.zero_le, eq_self, not_true_eq_false, not_false_eq_true, decide_true, decide_false, Bool.not_true, Bool.not_false, Bool.true_and, Bool.false_and, Bool.and_true, Bool.and_false, Bool.or_true, Bool.true_or, Bool.false_or, Bool.or_false, Nat.beq_refl, bind_s, as_I, as_J, as_R, as_V, cnd_t, cnd_f, bz_ret, bzp_0, bzp_1, bzp_z0, bzp_z1, dec_bf, dec_bt, dec_nbf, dec_nbt, Bool.false_eq_true, Bool.true_eq_false, ret_0, ret_1, ret_z0, ret_z1, zi_lit, zi_add, zi_mul, zi_lt, zi_le, zi_eq, zi_sub, eq_true h0]
      exact ih
    · rw [nzc, if_neg h0] at ih
      simp (disch := omega) only [b55_30 hG, ne_eq, Nat.not_lt_zero, Nat.zero_le, eq_self, not_true_eq_false, not_false_eq_true, decide_true, decide_false, Bool.not_true, Bool.not_false, Bool.true_and, Bool.false_and, Bool.and_true, Bool.and_false, Bool.or_true, Bool.true_or, Bool.false_or, Bool.or_false, Nat.beq_refl, bind_s, as_I, as_J, as_R, as_V, cnd_t, cnd_f, bz_ret, bzp_0, bzp_1, bzp_z0, bzp_z1, dec_bf, dec_bt, dec_nbf, dec_nbt, Bool.false_eq_true, Bool.true_eq_false, ret_0, ret_1, ret_z0, ret_z1, zi_lit, zi_add, zi_mul, zi_lt, zi_le, zi_eq, zi_sub, eq_false h0]
      exact ih
theorem c55 {G : AG} (hG : FIX G) {s : Nat → Nat × Nat} {mr : Nat → Nat → Nat} {n : Nat × Nat} {ml : Nat → Nat → Int64} {mi : Nat → Nat → Int32} {N e : Nat} {t : Nat → Nat} (hE : EX s mi N e t) (hb : ∀ q, t q ≤ 2) : G 55 0 [some (.inr (.inr e)), none, none, none, none, none] [] (s, n, mi, ml, mr) = some (some (.inl (zi (nzc t 6))), (s, n, mi, ml, mr)) := by
  rw [b55_0 hG]
  simp (disch := omega) only [ne_eq, Nat.not_lt_zero, Nat.zero_le, eq_self, not_true_eq_false, not_false_eq_true, decide_true, decide_false, Bool.not_true, Bool.not_false, Bool.true_and, Bool.false_and, Bool.and_true, Bool.and_false, Bool.or_true, Bool.true_or, Bool.false_or, Bool.or_false, Nat.beq_refl, bind_s, as_I, as_J, as_R, as_V, cnd_t, cnd_f, bz_ret, bzp_0, bzp_1, bzp_z0, bzp_z1, dec_bf, dec_bt, dec_nbf, dec_nbt, Bool.false_eq_true, Bool.true_eq_false, ret_0, ret_1, ret_z0, ret_z1, rlen hE.2.2.1 rfl]
  exact c55L hG hE hb 6 0 none (by omega)
theorem EX_tr {G : AG} (hG : FIX G) {s : Nat → Nat × Nat} {mr : Nat → Nat → Nat} (hC : CS s mr) {mi mi' : Nat → Nat → Int32} {N e : Nat} {t : Nat → Nat} (hE : EX s mi N e t) (h : CTr mi mi') : EX s mi' N e t := ⟨hE.1, hE.2.1, hE.2.2.1, fun q hq => by rw [h.1 e (by have := hE.1; omega) (by have := hE.1; omega)]; exact hE.2.2.2 q hq⟩
theorem c57 {G : AG} (hG : FIX G) {s : Nat → Nat × Nat} {mr : Nat → Nat → Nat} (hC : CS s mr) {n : Nat × Nat} {ml : Nat → Nat → Int64} {mi : Nat → Nat → Int32} {t : Nat × (Nat → Int32)} (hT : clT t mi) (o : Nat) : ∃ mi', G 57 0 [some (.inr (.inr o)), some (.inr (.inr 8))] [] (s, n, mi, ml, mr) = some (some (.inl (zi 1)), (s, n, mi', ml, mr)) ∧ clT (trs t [10]) mi' ∧ CTr mi mi' := by
  obtain ⟨m1, e1, t1, r1⟩ := c53 hG hC (n := n) (ml := ml) hT 10
  refine ⟨m1, ?_, t1, r1⟩
  rw [b57_0 hG]
  simp (disch := omega) only [kc4 hC, kc42 hC, kc8 hC, kc10 hC, kc11 hC, kc41 hC, nbeq_f, ne_eq, Nat.not_lt_zero, Nat.zero_le, eq_self, not_true_eq_false, not_false_eq_true, decide_true, decide_false, Bool.not_true, Bool.not_false, Bool.true_and, Bool.false_and, Bool.and_true, Bool.and_false, Bool.or_true, Bool.true_or, Bool.false_or, Bool.or_false, Nat.beq_refl, bind_s, as_I, as_J, as_R, as_V, cnd_t, cnd_f, bz_ret, bzp_0, bzp_1, bzp_z0, bzp_z1, dec_bf, dec_bt, dec_nbf, dec_nbt, Bool.false_eq_true, Bool.true_eq_false, ret_0, ret_1, ret_z0, ret_z1, zi_lit, e1]
theorem c62 {G : AG} (hG : FIX G) {s : Nat → Nat × Nat} {mr : Nat → Nat → Nat} (hC : CS s mr) {n : Nat × Nat} {ml : Nat → Nat → Int64} {mi : Nat → Nat → Int32} {t : Nat × (Nat → Int32)} (hT : clT t mi) {o k p : Nat} (ho : 142 ≤ o) (hs : s o = osh k) (h2 : mi o 2 = zi p) : ∃ mi', G 62 0 [some (.inr (.inr o)), some (.inr (.inr 8))] [] (s, n, mi, ml, mr) = some (some (.inl (zi p)), (s, n, mi', ml, mr)) ∧ clT (trs t [20]) mi' ∧ CTr mi mi' := by
  obtain ⟨m1, e1, t1, r1⟩ := c53 hG hC (n := n) (ml := ml) hT 20
  refine ⟨m1, ?_, t1, r1⟩
  rw [b62_0 hG]
  simp (disch := omega) only [kc4 hC, kc42 hC, kc8 hC, kc10 hC, kc11 hC, kc41 hC, nbeq_f, ne_eq, Nat.not_lt_zero, Nat.zero_le, eq_self, not_true_eq_false, not_false_eq_true, decide_true, decide_false, Bool.not_true, Bool.not_false, Bool.true_and, Bool.false_and, Bool.and_true, Bool.and_false, Bool.or_true, Bool.true_or, Bool.false_or, Bool.or_false, Nat.beq_refl, bind_s, as_I, as_J, as_R, as_V, cnd_t, cnd_f, bz_ret, bzp_0, bzp_1, bzp_z0, bzp_z1, dec_bf, dec_bt, dec_nbf, dec_nbt, Bool.false_eq_true, Bool.true_eq_false, ret_0, ret_1, ret_z0, ret_z1, zi_lit, e1, opF2 hs, r1.1, h2]
theorem c54 {G : AG} (hG : FIX G) {s : Nat → Nat × Nat} {mr : Nat → Nat → Nat} (hC : CS s mr) {n : Nat × Nat} {ml : Nat → Nat → Int64} {mi : Nat → Nat → Int32} {u : Nat × (Nat → Int32)} (hT : clT u mi) {o k N : Nat} {t : Nat → Nat} (ho : 142 ≤ o) (hs : s o = osh k) (hk : k = 3 ∨ k = 4) (hE : EX s mi N (mr o 0) t) (hb : ∀ q, t q ≤ 2) : ∃ mi', G 54 0 [some (.inr (.inr o)), some (.inr (.inr 8))] [] (s, n, mi, ml, mr) = some (some (.inl (zi (1 + nzc t 6))), (s, n, mi', ml, mr)) ∧ clT (trs u [11, 10]) mi' ∧ CTr mi mi' := by
  obtain ⟨m1, e1, t1, r1⟩ := c53 hG hC (n := n) (ml := ml) hT 11
  obtain ⟨m2, e2, t2, r2⟩ := c57 hG hC (n := n) (ml := ml) t1 o
  have r12 := CTr_trans r1 r2
  refine ⟨m2, ?_, t2, r12⟩
  have z := c55 hG (n := n) (ml := ml) (mr := mr) (EX_tr hG hC hE r12) hb
  rw [b54_0 hG]
  rcases hk with rfl | rfl
  · rw [osh_3] at hs
    simp (disch := omega) only [kc4 hC, kc42 hC, kc8 hC, kc10 hC, kc11 hC, kc41 hC, nbeq_f, ne_eq, Nat.not_lt_zero, Nat.zero_le, eq_self, not_true_eq_false, not_false_eq_true, decide_true, decide_false, Bool.not_true, Bool.not_false, Bool.true_and, Bool.false_and, Bool.and_true, Bool.and_false, Bool.or_true, Bool.true_or, Bool.false_or, Bool.or_false, Nat.beq_refl, bind_s, as_I, as_J, as_R, as_V, cnd_t, cnd_f, bz_ret, bzp_0, bzp_1, bzp_z0, bzp_z1, dec_bf, dec_bt, dec_nbf, dec_nbt, Bool.false_eq_true, Bool.true_eq_false, ret_0, ret_1, ret_z0, ret_z1, slk, padA, List.any_cons, List.any_nil, nbeq_f, if_true, if_false, Nat.reduceEqDiff, zi_lit, zi_add, e1, hs, e2, rgR hs hF3_0, z]
  · rw [osh_4] at hs
    simp (disch := omega) only [kc4 hC, kc42 hC, kc8 hC, kc10 hC, kc11 hC, kc41 hC, nbeq_f, ne_eq, Nat.not_lt_zero, Nat.zero_le, eq_self, not_true_eq_false, not_false_eq_true, decide_true, decide_false, Bool.not_true, Bool.not_false, Bool.true_and, Bool.false_and, Bool.and_true, Bool.and_false, Bool.or_true, Bool.true_or, Bool.false_or, Bool.or_false, Nat.beq_refl, bind_s, as_I, as_J, as_R, as_V, cnd_t, cnd_f, bz_ret, bzp_0, bzp_1, bzp_z0, bzp_z1, dec_bf, dec_bt, dec_nbf, dec_nbt, Bool.false_eq_true, Bool.true_eq_false, ret_0, ret_1, ret_z0, ret_z1, slk, padA, List.any_cons, List.any_nil, nbeq_f, if_true, if_false, Nat.reduceEqDiff, zi_lit, zi_add, e1, hs, e2, rgR hs hF1_0, z]
theorem c52 {G : AG} (hG : FIX G) {s : Nat → Nat × Nat} {mr : Nat → Nat → Nat} (hC : CS s mr) {n : Nat × Nat} {ml : Nat → Nat → Int64} {mi : Nat → Nat → Int32} {u : Nat × (Nat → Int32)} (hT : clT u mi) {o N : Nat} {t t2 : Nat → Nat} (ho : 142 ≤ o) (hs : s o = (1, 7)) (hE : EX s mi N (mr o 0) t) (hb : ∀ q, t q ≤ 2) (hE2 : EX s mi N (mr o 5) t2) (hb2 : ∀ q, t2 q ≤ 2) : ∃ mi', G 52 0 [some (.inr (.inr o)), some (.inr (.inr 8))] [] (s, n, mi, ml, mr) = some (some (.inl (zi (1 + nzc t 6 + nzc t2 6))), (s, n, mi', ml, mr)) ∧ clT (trs u [12, 11, 10]) mi' ∧ CTr mi mi' := by
  obtain ⟨m1, e1, t1, r1⟩ := c53 hG hC (n := n) (ml := ml) hT 12
  obtain ⟨m2, e2, t2', r2⟩ := c54 hG hC (n := n) (ml := ml) t1 (k := 4) ho hs (Or.inr rfl) (EX_tr hG hC hE r1) hb
  have r12 := CTr_trans r1 r2
  refine ⟨m2, ?_, t2', r12⟩
  have z := c55 hG (n := n) (ml := ml) (mr := mr) (EX_tr hG hC hE2 r12) hb2
  rw [b52_0 hG]
  simp (disch := omega) only [kc4 hC, kc42 hC, kc8 hC, kc10 hC, kc11 hC, kc41 hC, nbeq_f, ne_eq, Nat.not_lt_zero, Nat.zero_le, eq_self, not_true_eq_false, not_false_eq_true, decide_true, decide_false, Bool.not_true, Bool.not_false, Bool.true_and, Bool.false_and, Bool.and_true, Bool.and_false, Bool.or_true, Bool.true_or, Bool.false_or, Bool.or_false, Nat.beq_refl, bind_s, as_I, as_J, as_R, as_V, cnd_t, cnd_f, bz_ret, bzp_0, bzp_1, bzp_z0, bzp_z1, dec_bf, dec_bt, dec_nbf, dec_nbt, Bool.false_eq_true, Bool.true_eq_false, ret_0, ret_1, ret_z0, ret_z1, slk, padA, List.any_cons, List.any_nil, nbeq_f, if_true, if_false, Nat.reduceEqDiff, zi_lit, zi_add, e1, hs, e2, rgR hs hF1_5, z]
/-- sizes -/
theorem cSz {G : AG} (hG : FIX G) {s : Nat → Nat × Nat} {mr : Nat → Nat → Nat} (hC : CS s mr) {n : Nat × Nat} {ml : Nat → Nat → Int64} {mi : Nat → Nat → Int32} {Q : Pg} {N : Nat} (hW : WP Q) {u : Nat × (Nat → Int32)} (hT : clT u mi) {r p : Nat} (hp : p < qn Q r) (hO : CO Q N s mi mr r p) : ∃ w : Nat × Nat, slk [(1, 52, 2), (2, 57, 2), (3, 54, 2), (4, 57, 2), (10, 56, 2)] (s (mr (43 + 9 * r) p)).1 = some w ∧ ∃ mi', G w.1 0 (padA w.2 [some (.inr (.inr (mr (43 + 9 * r) p))), some (.inr (.inr 8))]) [] (s, n, mi, ml, mr) = some (some (.inl (zi (valS Q r p))), (s, n, mi', ml, mr)) ∧ clT (trs u (bodS (qk Q r p))) mi' ∧ CTr mi mi' := by
  obtain ⟨ho, -, hs, h1, h2, h3, h4, h42, hE, hE2, -⟩ := hO
  have hb := hW.2.2.2.2.2.2 r p
  have e57 : (s (mr (43 + 9 * r) p)).1 = 2 ∨ (s (mr (43 + 9 * r) p)).1 = 4 → slk [(1, 52, 2), (2, 57, 2), (3, 54, 2), (4, 57, 2), (10, 56, 2)] (s (mr (43 + 9 * r) p)).1 = some (57, 2) := by
    rintro (h | h) <;> rw [h] <;> rfl
  rcases kle (hW.2.2.2.1 r) hp with h | h | h | h | h | h | h
  case inl =>
    obtain ⟨m1, e1, t1, r1⟩ := c53 hG hC (n := n) (ml := ml) hT 13
    have hs' := hs
    rw [h, osh_1] at hs'
    refine ⟨(56, 2), by rw [hs']; rfl, m1, ?_, by rw [h]; exact t1, r1⟩
    show G 56 0 [some (.inr (.inr (mr (43 + 9 * r) p))), some (.inr (.inr 8))] [] (s, n, mi, ml, mr) = _
    rw [b56_0 hG]
    have hw := h42 h
    simp (disch := omega) only [kc4 hC, kc42 hC, kc8 hC, kc10 hC, kc11 hC, kc41 hC, nbeq_f, ne_eq, Nat.not_lt_zero, Nat.zero_le, eq_self, not_true_eq_false, not_false_eq_true, decide_true, decide_false, Bool.not_true, Bool.not_false, Bool.true_and, Bool.false_and, Bool.and_true, Bool.and_false, Bool.or_true, Bool.true_or, Bool.false_or, Bool.or_false, Nat.beq_refl, bind_s, as_I, as_J, as_R, as_V, cnd_t, cnd_f, bz_ret, bzp_0, bzp_1, bzp_z0, bzp_z1, dec_bf, dec_bt, dec_nbf, dec_nbt, Bool.false_eq_true, Bool.true_eq_false, ret_0, ret_1, ret_z0, ret_z1, zi_lit, e1, rgI hs' hF10_42, r1.1, hw, valS, h, if_true]
  case inr.inl =>
    obtain ⟨m1, e1, t1, r1⟩ := c54 hG hC (n := n) (ml := ml) hT ho hs (Or.inl h) (hE (Or.inl h)) hb
    have hs' := hs
    rw [h, osh_3] at hs'
    refine ⟨(54, 2), by rw [hs']; rfl, m1, ?_, by rw [h]; exact t1, r1⟩
    refine Eq.trans e1 ?_
    simp (disch := omega) only [valS, h, if_true, if_false, Nat.reduceEqDiff]
  case inr.inr.inl =>
    have hs' := hs
    rw [h, osh_4] at hs'
    obtain ⟨m1, e1, t1, r1⟩ := c52 hG hC (n := n) (ml := ml) hT ho hs' (hE (Or.inr h)) hb (hE2 h).1 (fun q => hb _)
    refine ⟨(52, 2), by rw [hs']; rfl, m1, ?_, by rw [h]; exact t1, r1⟩
    refine Eq.trans e1 ?_
    simp (disch := omega) only [valS, h, if_true, if_false, Nat.reduceEqDiff]
  all_goals
    obtain ⟨m1, e1, t1, r1⟩ := c57 hG hC (n := n) (ml := ml) hT (mr (43 + 9 * r) p)
    refine ⟨(57, 2), e57 (by rw [hs, h]; first | exact Or.inl rfl | exact Or.inr rfl), m1, ?_, by rw [h]; exact t1, r1⟩
    refine Eq.trans e1 ?_
    simp (disch := omega) only [valS, h, if_true, if_false, Nat.reduceEqDiff]