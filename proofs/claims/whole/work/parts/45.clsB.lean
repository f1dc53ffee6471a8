/-! StepsAhead: back -/
theorem c43 {G : AG} (hG : FIX G) {s : Nat → Nat × Nat} {mr : Nat → Nat → Nat} (hC : CS s mr) {n : Nat × Nat} {ml : Nat → Nat → Int64} {mi : Nat → Nat → Int32} {Q : Pg} {N r m : Nat} (hQ : CQ Q N s mi mr) (hW : WP Q) (hr : r < 8) (hm : qn Q r = m + 1) :
    ∃ m', G 43 0 [some (.inr (.inr (42 + 9 * r))), none, none] [] (s, n, mi, ml, mr) = some (none, (s, n, m', ml, up2 mr (43 + 9 * r) m 0)) ∧ CQ (pop Q r) N s m' (up2 mr (43 + 9 * r) m 0) ∧ (∀ a, a < 142 → a ≠ 42 + 9 * r → a ≠ 44 + 9 * r → m' a = mi a) ∧ (∀ f, f ≠ 23 → f ≠ 25 → f ≠ 26 → m' (42 + 9 * r) f = mi (42 + 9 * r) f) ∧ m' (42 + 9 * r) 23 = zi m := by
  have hQ0 := hQ
  obtain ⟨g1, g2, g3⟩ := hQ
  obtain ⟨a1, a2, a3, a4, a5, a6, a7⟩ := g2 r hr
  have hC1 := CS_op hC m 0 hr
  have hWr := hW.2.2.2.1 r
  have h24 := hW.2.1 r
  have a6m := a6 m (by omega)
  obtain ⟨o1, o2, o3, o4, o5, o6, o7, o8, o9, o10, -⟩ := a6m
  rw [hm] at hWr a2 a3 a4 h24
  have hWm := WF_le hWr (Nat.le_succ m)
  have hk := hWr m (Nat.lt_succ_self m)
  have hL := stk_len (qk Q r) m
  have hkk := okc_k hk
  have e0 : stk (qk Q r) (m + 1) = stq (qk Q r m) m (stk (qk Q r) m) := rfl
  rw [e0] at a3 a4
  obtain ⟨m2, e2, f1, f2, f3⟩ := c23 hG hC1 (n := n) (ml := ml) (mi := up2 mi (42 + 9 * r) 23 (zi m)) (K := qk Q r) (D := qd Q r) hr (c := m) (by omega) (by rw [up2_s, up1_s]) (fun p hp => by
      have hp' : p < qn Q r := by omega
      obtain ⟨b1, b2, b3, b4, b5, b6, b7, b8, b9, b10, -⟩ := a6 p hp'
      rw [up2_s, up1_n _ _ (by omega)]
      refine ⟨b3, b1, fun h4 => ?_, ?_⟩
      · rw [up2_n _ _ (by omega)]; exact ⟨(b10 h4).2, by have := hW.2.2.2.2.2.1 r p hp' h4; omega⟩
      · have := kle (hW.2.2.2.1 r) hp'; omega) (fun a ha => by
      by_cases e : a = r
      · rw [e, up2_s, up1_n _ _ (by decide)]; exact a1
      · rw [up2_n _ _ (by omega)]; exact (g2 a ha).1)
  have n2 : ∀ a, a ≠ 42 + 9 * r → m2 a = mi a := fun a ha => (f1 a ha).trans (up2_n _ _ ha)
  have n3 : ∀ f, f ≠ 23 → f ≠ 26 → m2 (42 + 9 * r) f = mi (42 + 9 * r) f := fun f h1 h2 => by rw [f2 f h2, up2_s, up1_n _ _ h1]
  have n23 : m2 (42 + 9 * r) 23 = zi m := by rw [f2 23 (by decide), up2_s, up1_s]
  have n25 : m2 (42 + 9 * r) 25 = zi (stq (qk Q r m) m (stk (qk Q r) m)).length := (n3 25 (by decide) (by decide)).trans a3
  have no : ∀ f, m2 (mr (43 + 9 * r) m) f = mi (mr (43 + 9 * r) m) f := fun f => by rw [n2 _ (by omega)]
  have e18 := c18_t hG hC (n := n) (ml := ml) (p := m) hr a2 (by omega) (by omega)
  rw [b43_0 hG]
  simp (disch := omega) only [ne_eq, Nat.not_lt_zero, Nat.zero_le, eq_self, not_true_eq_false, not_false_eq_true, decide_true, decide_false, Bool.not_true, Bool.not_false, Bool.true_and, Bool.false_and, Bool.and_true, Bool.and_false, Bool.or_true, Bool.true_or, Bool.false_or, Bool.or_false, Nat.beq_refl, bind_s, as_I, as_J, as_R, as_V, cnd_t, cnd_f, bz_ret, bzp_0, bzp_1, bzp_z0, bzp_z1, dec_bf, dec_bt, dec_nbf, dec_nbt, Bool.false_eq_true, Bool.true_eq_false, ret_0, ret_1, ret_z0, ret_z1, kc42 hC, gc22 hC, gc23 hC, pc23 hC, gc22 hC1, gc23 hC1, kc42 hC1, a2, zi_lit, zi_sub, Nat.add_sub_cancel, e18, nbeq_f, up2_s, up1_s, wc43 hC hr (by omega : m < 24) (Or.inl rfl), e2, opF1 o3, no, o4]
  rcases stq_ok (p := m) hk with ⟨hk', e⟩ | ⟨hk', e⟩ | ⟨hk', e⟩ | ⟨q, T, hS, hk', e⟩ | ⟨q, T, hS, hk', e⟩ | ⟨q, T, hS, hk', e⟩
  · rw [e] at n25 a4
    refine ⟨m2, ?_, CQ_pop hQ0 hW hr hm (fun a _ h2 _ => n2 a h2) (fun f h1 _ h3 => n3 f h1 h3) n23 f3 n25 (by rw [n2 (44 + 9 * r) (by omega)]; exact a4) (fun a ha _ => n2 a (by omega)) (fun h6 => by omega), fun a _ h2 _ => n2 a h2, fun f h1 _ h3 => n3 f h1 h3, n23⟩
    have h4 : mi (mr (43 + 9 * r) m) 4 = -1 := by rw [o7, if_neg (by omega)]
    have e18' := c18_f hG hC1 (n := n) (ml := ml) (mi := m2) (x := -1) hr n23 (by omega) (by unfold isN; rfl)
    have z3 : ¬ qk Q r m = 3 := by omega
    have z5 : ¬ qk Q r m = 5 := by omega
    simp (disch := omega) only [ne_eq, Nat.not_lt_zero, Nat.zero_le, eq_self, not_true_eq_false, not_false_eq_true, decide_true, decide_false, Bool.not_true, Bool.not_false, Bool.true_and, Bool.false_and, Bool.and_true, Bool.and_false, Bool.or_true, Bool.true_or, Bool.false_or, Bool.or_false, Nat.beq_refl, bind_s, as_I, as_J, as_R, as_V, cnd_t, cnd_f, bz_ret, bzp_0, bzp_1, bzp_z0, bzp_z1, dec_bf, dec_bt, dec_nbf, dec_nbt, Bool.false_eq_true, Bool.true_eq_false, ret_0, ret_1, ret_z0, ret_z1, zi_eq, eq_false z3, eq_false z5, opF4 o3, no, h4, e18', b43_56 hG, b43_106 hG, Nat.beq_refl]
  · rw [e] at n25 a4
    have B1 : ∀ a, a < 142 → a ≠ 42 + 9 * r → a ≠ 44 + 9 * r → up2 m2 (42 + 9 * r) 25 (zi (stk (qk Q r) m).length) a = mi a := fun a _ h2 _ => by rw [up2_n _ _ h2, n2 a h2]
    have B2 : ∀ f, f ≠ 23 → f ≠ 25 → f ≠ 26 → up2 m2 (42 + 9 * r) 25 (zi (stk (qk Q r) m).length) (42 + 9 * r) f = mi (42 + 9 * r) f := fun f h1 h2 h3 => by rw [up2_s, up1_n _ _ h2, n3 f h1 h3]
    have B3 : up2 m2 (42 + 9 * r) 25 (zi (stk (qk Q r) m).length) (42 + 9 * r) 23 = zi m := by rw [up2_s, up1_n _ _ (by decide)]; exact n23
    refine ⟨_, ?_, CQ_pop hQ0 hW hr hm B1 B2 B3 (by rw [up2_s, up1_n _ _ (by decide)]; exact f3) (by rw [up2_s, up1_s]) (by rw [up2_n _ _ (by omega), n2 (44 + 9 * r) (by omega)]; exact a4.2) (fun a ha _ => by rw [up2_n _ _ (by omega), n2 a (by omega)]) (fun h6 => by omega), B1, B2, B3⟩
    rw [List.length_cons] at n25
    simp (disch := omega) only [ne_eq, Nat.not_lt_zero, Nat.zero_le, eq_self, not_true_eq_false, not_false_eq_true, decide_true, decide_false, Bool.not_true, Bool.not_false, Bool.true_and, Bool.false_and, Bool.and_true, Bool.and_false, Bool.or_true, Bool.true_or, Bool.false_or, Bool.or_false, Nat.beq_refl, bind_s, as_I, as_J, as_R, as_V, cnd_t, cnd_f, bz_ret, bzp_0, bzp_1, bzp_z0, bzp_z1, dec_bf, dec_bt, dec_nbf, dec_nbt, Bool.false_eq_true, Bool.true_eq_false, ret_0, ret_1, ret_z0, ret_z1, b43_56 hG, b43_106 hG, zi_lit, zi_add, zi_mul, zi_lt, zi_le, zi_eq, zi_sub, eq_true hk', gc25 hC1, pc25 hC1, n25, Nat.add_sub_cancel]
  · rw [e] at n25 a4
    have B1 : ∀ a, a < 142 → a ≠ 42 + 9 * r → a ≠ 44 + 9 * r → up2 m2 (42 + 9 * r) 25 (zi (stk (qk Q r) m).length) a = mi a := fun a _ h2 _ => by rw [up2_n _ _ h2, n2 a h2]
    have B2 : ∀ f, f ≠ 23 → f ≠ 25 → f ≠ 26 → up2 m2 (42 + 9 * r) 25 (zi (stk (qk Q r) m).length) (42 + 9 * r) f = mi (42 + 9 * r) f := fun f h1 h2 h3 => by rw [up2_s, up1_n _ _ h2, n3 f h1 h3]
    have B3 : up2 m2 (42 + 9 * r) 25 (zi (stk (qk Q r) m).length) (42 + 9 * r) 23 = zi m := by rw [up2_s, up1_n _ _ (by decide)]; exact n23
    refine ⟨_, ?_, CQ_pop hQ0 hW hr hm B1 B2 B3 (by rw [up2_s, up1_n _ _ (by decide)]; exact f3) (by rw [up2_s, up1_s]) (by rw [up2_n _ _ (by omega), n2 (44 + 9 * r) (by omega)]; exact a4.2) (fun a ha _ => by rw [up2_n _ _ (by omega), n2 a (by omega)]) (fun h6 => by omega), B1, B2, B3⟩
    rw [List.length_cons] at n25
    have z3 : ¬ qk Q r m = 3 := by omega
    simp (disch := omega) only [ne_eq, Nat.not_lt_zero, Nat.zero_le, eq_self, not_true_eq_false, not_false_eq_true, decide_true, decide_false, Bool.not_true, Bool.not_false, Bool.true_and, Bool.false_and, Bool.and_true, Bool.and_false, Bool.or_true, Bool.true_or, Bool.false_or, Bool.or_false, Nat.beq_refl, bind_s, as_I, as_J, as_R, as_V, cnd_t, cnd_f, bz_ret, bzp_0, bzp_1, bzp_z0, bzp_z1, dec_bf, dec_bt, dec_nbf, dec_nbt, Bool.false_eq_true, Bool.true_eq_false, ret_0, ret_1, ret_z0, ret_z1, b43_56 hG, b43_106 hG, zi_lit, zi_add, zi_mul, zi_lt, zi_le, zi_eq, zi_sub, eq_false z3, eq_true hk', gc25 hC1, pc25 hC1, n25, Nat.add_sub_cancel]
  all_goals
    have hent := (stk_inv hWm).2.1 _ (by rw [hS]; exact List.mem_cons_self ..)
    have hql := hent.1
    simp only at hql
    have hqn : q < qn Q r := by omega
    have hoq := (a6 q hqn).1
    have hsq := (a6 q hqn).2.2.1
    have hq2 := (a6 q hqn).2.2.2.2.1
    have hne : mr (43 + 9 * r) q ≠ mr (43 + 9 * r) m := fun h => by have := (g3 r q r m hr hr hqn (by omega) h).2; omega
    have hup : up2 mr (43 + 9 * r) m 0 (43 + 9 * r) q = mr (43 + 9 * r) q := by rw [up2_s, up1_n _ _ (by omega)]
    have e18' := c18_t hG hC1 (n := n) (ml := ml) (mi := m2) (p := q) hr n23 (by omega) (by omega)
    rw [hup] at e18'
    have h4 : mi (mr (43 + 9 * r) m) 4 = zi q := by rw [o7, if_pos (by omega), hS]; rfl
    have hh : hdp (stk (qk Q r) m) = q := by rw [hS]; rfl
    rw [e] at n25 a4
    have z3 : ¬ qk Q r m = 3 := by omega
    have z5 : ¬ qk Q r m = 5 := by omega
  · have hkq : qk Q r q = 3 := by
      rcases hent.2 with h | ⟨h, -⟩ | ⟨h, -⟩
      · exact h.2
      · exact absurd h (by show (0 : Nat) ≠ 1; decide)
      · exact absurd h (by show (0 : Nat) ≠ 2; decide)
    have hsq0 := hsq
    rw [hkq, osh_3] at hsq
    obtain ⟨v, ev, ec⟩ := cCl hG hC1 (n := n) (ml := ml) (mi := m2) (k := qk Q r m) hoq (Or.inl ⟨hk', hsq⟩) (-zi 1)
    have no' : ∀ f, up2 m2 (mr (43 + 9 * r) q) (cfl (qk Q r m)) (-zi 1) (mr (43 + 9 * r) m) f = mi (mr (43 + 9 * r) m) f := fun f => by rw [up2_n _ _ (Ne.symm hne), no f]
    have nq2 : up2 m2 (mr (43 + 9 * r) q) (cfl (qk Q r m)) (-zi 1) (mr (43 + 9 * r) q) 2 = zi q := by rw [up2_s, up1_n _ _ (by rw [hk']; decide), n2 _ (by omega)]; exact hq2
    have ec' : ∀ f, up2 m2 (mr (43 + 9 * r) q) (cfl (qk Q r m)) (-zi 1) (42 + 9 * r) f = m2 (42 + 9 * r) f := fun f => by rw [up2_n _ _ (by omega)]
    rw [hS] at hL
    rw [List.length_cons] at hL
    have e24 := c24 hG hC1 (n := n) (ml := ml) (mi := up2 m2 (mr (43 + 9 * r) q) (cfl (qk Q r m)) (-zi 1)) (p := q) (L := T.length) hr (by omega) ((ec' 25).trans n25)
    have B1 : ∀ a, a < 142 → a ≠ 42 + 9 * r → a ≠ 44 + 9 * r → up2 (up2 (up2 m2 (mr (43 + 9 * r) q) (cfl (qk Q r m)) (-zi 1)) (44 + 9 * r) T.length (zi q)) (42 + 9 * r) 25 (zi (T.length + 1)) a = mi a := fun a h1 h2 h3 => by rw [up2_n _ _ h2, up2_n _ _ h3, up2_n _ _ (by omega), n2 a h2]
    have B0 : ∀ f, f ≠ 25 → up2 (up2 (up2 m2 (mr (43 + 9 * r) q) (cfl (qk Q r m)) (-zi 1)) (44 + 9 * r) T.length (zi q)) (42 + 9 * r) 25 (zi (T.length + 1)) (42 + 9 * r) f = m2 (42 + 9 * r) f := fun f h2 => by rw [up2_s, up1_n _ _ h2, up2_n _ _ (by omega), ec']
    have B2 : ∀ f, f ≠ 23 → f ≠ 25 → f ≠ 26 → up2 (up2 (up2 m2 (mr (43 + 9 * r) q) (cfl (qk Q r m)) (-zi 1)) (44 + 9 * r) T.length (zi q)) (42 + 9 * r) 25 (zi (T.length + 1)) (42 + 9 * r) f = mi (42 + 9 * r) f := fun f h1 h2 h3 => by rw [B0 f h2, n3 f h1 h3]
    refine ⟨_, ?_, CQ_pop hQ0 hW hr hm B1 B2 ((B0 23 (by decide)).trans n23) ((B0 26 (by decide)).trans f3) (by rw [hS, up2_s, up1_s]; rfl)
      (by
        rw [hS, up2_n _ _ (by omega), up2_s, up2_n _ _ (by omega), n2 (44 + 9 * r) (by omega)]
        exact ⟨up1_s _ _ _, OB_congr (fun i hi => up1_n _ _ (by omega)) a4⟩) (fun a ha hn => by rw [up2_n _ _ (by omega), up2_n _ _ (by omega), up2_n _ _ (by have := hn (by omega); rw [hh] at this; exact this), n2 a (by omega)]) (fun _ => ⟨fun f hf => by rw [hh, up2_n _ _ (by omega), up2_n _ _ (by omega), up2_s, up1_n _ _ hf, n2 _ (by omega)], by rw [hh, up2_n _ _ (by omega), up2_n _ _ (by omega), up2_s, up1_s]; rfl⟩), B1, B2, (B0 23 (by decide)).trans n23⟩
    have z7 : ¬ qk Q r m = 7 := by omega
    simp (disch := omega) only [ne_eq, Nat.not_lt_zero, Nat.zero_le, eq_self, not_true_eq_false, not_false_eq_true, decide_true, decide_false, Bool.not_true, Bool.not_false, Bool.true_and, Bool.false_and, Bool.and_true, Bool.and_false, Bool.or_true, Bool.true_or, Bool.false_or, Bool.or_false, Nat.beq_refl, bind_s, as_I, as_J, as_R, as_V, cnd_t, cnd_f, bz_ret, bzp_0, bzp_1, bzp_z0, bzp_z1, dec_bf, dec_bt, dec_nbf, dec_nbt, Bool.false_eq_true, Bool.true_eq_false, ret_0, ret_1, ret_z0, ret_z1, b43_56 hG, b43_106 hG, zi_lit, zi_add, zi_mul, zi_lt, zi_le, zi_eq, zi_sub, eq_false z3, eq_false z5, eq_false z7, opF1 o3, opF4 o3, opF2 hsq0, no, no', nq2, h4, o4, kc42 hC1, e18', nbeq_f, ev, ec, e24]
  · have hkq : qk Q r q = 5 := by
      rcases hent.2 with h | ⟨-, h, -⟩ | ⟨-, h, -⟩
      · exact absurd h.1 (by show (1 : Nat) ≠ 0; decide)
      · exact h
      · exact h
    rw [hkq, osh_5] at hsq
    obtain ⟨v, ev, ec⟩ := cCl hG hC1 (n := n) (ml := ml) (mi := m2) (k := qk Q r m) hoq (Or.inr ⟨Or.inl hk', hsq⟩) (-zi 1)
    have no' : ∀ f, up2 m2 (mr (43 + 9 * r) q) (cfl (qk Q r m)) (-zi 1) (mr (43 + 9 * r) m) f = mi (mr (43 + 9 * r) m) f := fun f => by rw [up2_n _ _ (Ne.symm hne), no f]
    have ec' : ∀ f, up2 m2 (mr (43 + 9 * r) q) (cfl (qk Q r m)) (-zi 1) (42 + 9 * r) f = m2 (42 + 9 * r) f := fun f => by rw [up2_n _ _ (by omega)]
    have B1 : ∀ a, a < 142 → a ≠ 42 + 9 * r → a ≠ 44 + 9 * r → up2 m2 (mr (43 + 9 * r) q) (cfl (qk Q r m)) (-zi 1) a = mi a := fun a h1 h2 h3 => by rw [up2_n _ _ (by omega), n2 a h2]
    have B2 : ∀ f, f ≠ 23 → f ≠ 25 → f ≠ 26 → up2 m2 (mr (43 + 9 * r) q) (cfl (qk Q r m)) (-zi 1) (42 + 9 * r) f = mi (42 + 9 * r) f := fun f h1 h2 h3 => by rw [ec', n3 f h1 h3]
    refine ⟨_, ?_, CQ_pop hQ0 hW hr hm B1 B2 (by rw [ec']; exact n23) (by rw [ec']; exact f3) (by rw [ec', n25, hS]; rfl)
      (by rw [hS, up2_n _ _ (by omega), n2 (44 + 9 * r) (by omega)]; exact ⟨a4.1, a4.2⟩) (fun a ha hn => by rw [up2_n _ _ (by have := hn (by omega); rw [hh] at this; exact this), n2 a (by omega)]) (fun _ => ⟨fun f hf => by rw [hh, up2_s, up1_n _ _ hf, n2 _ (by omega)], by rw [hh, up2_s, up1_s]; rfl⟩), B1, B2, by rw [ec']; exact n23⟩
    simp (disch := omega) only [ne_eq, Nat.not_lt_zero, Nat.zero_le, eq_self, not_true_eq_false, not_false_eq_true, decide_true, decide_false, Bool.not_true, Bool.not_false, Bool.true_and, Bool.false_and, Bool.and_true, Bool.and_false, Bool.or_true, Bool.true_or, Bool.false_or, Bool.or_false, Nat.beq_refl, bind_s, as_I, as_J, as_R, as_V, cnd_t, cnd_f, bz_ret, bzp_0, bzp_1, bzp_z0, bzp_z1, dec_bf, dec_bt, dec_nbf, dec_nbt, Bool.false_eq_true, Bool.true_eq_false, ret_0, ret_1, ret_z0, ret_z1, b43_56 hG, b43_106 hG, zi_lit, zi_add, zi_mul, zi_lt, zi_le, zi_eq, zi_sub, eq_false z3, eq_false z5, eq_true hk', opF1 o3, opF4 o3, no, no', h4, o4, kc42 hC1, e18', nbeq_f, ev, ec]
  · have hkq : qk Q r q = 5 := by
      rcases hent.2 with h | ⟨-, h, -⟩ | ⟨-, h, -⟩
      · exact absurd h.1 (by show (2 : Nat) ≠ 0; decide)
      · exact h
      · exact h
    have hsq0 := hsq
    rw [hkq, osh_5] at hsq
    obtain ⟨v, ev, ec⟩ := cCl hG hC1 (n := n) (ml := ml) (mi := m2) (k := qk Q r m) hoq (Or.inr ⟨Or.inr hk', hsq⟩) (-zi 1)
    have no' : ∀ f, up2 m2 (mr (43 + 9 * r) q) (cfl (qk Q r m)) (-zi 1) (mr (43 + 9 * r) m) f = mi (mr (43 + 9 * r) m) f := fun f => by rw [up2_n _ _ (Ne.symm hne), no f]
    have nq2 : up2 m2 (mr (43 + 9 * r) q) (cfl (qk Q r m)) (-zi 1) (mr (43 + 9 * r) q) 2 = zi q := by rw [up2_s, up1_n _ _ (by rw [hk']; decide), n2 _ (by omega)]; exact hq2
    have ec' : ∀ f, up2 m2 (mr (43 + 9 * r) q) (cfl (qk Q r m)) (-zi 1) (42 + 9 * r) f = m2 (42 + 9 * r) f := fun f => by rw [up2_n _ _ (by omega)]
    rw [hS] at hL
    rw [List.length_cons] at hL
    have e24 := c24 hG hC1 (n := n) (ml := ml) (mi := up2 m2 (mr (43 + 9 * r) q) (cfl (qk Q r m)) (-zi 1)) (p := q) (L := T.length) hr (by omega) ((ec' 25).trans n25)
    have B1 : ∀ a, a < 142 → a ≠ 42 + 9 * r → a ≠ 44 + 9 * r → up2 (up2 (up2 m2 (mr (43 + 9 * r) q) (cfl (qk Q r m)) (-zi 1)) (44 + 9 * r) T.length (zi q)) (42 + 9 * r) 25 (zi (T.length + 1)) a = mi a := fun a h1 h2 h3 => by rw [up2_n _ _ h2, up2_n _ _ h3, up2_n _ _ (by omega), n2 a h2]
    have B0 : ∀ f, f ≠ 25 → up2 (up2 (up2 m2 (mr (43 + 9 * r) q) (cfl (qk Q r m)) (-zi 1)) (44 + 9 * r) T.length (zi q)) (42 + 9 * r) 25 (zi (T.length + 1)) (42 + 9 * r) f = m2 (42 + 9 * r) f := fun f h2 => by rw [up2_s, up1_n _ _ h2, up2_n _ _ (by omega), ec']
    have B2 : ∀ f, f ≠ 23 → f ≠ 25 → f ≠ 26 → up2 (up2 (up2 m2 (mr (43 + 9 * r) q) (cfl (qk Q r m)) (-zi 1)) (44 + 9 * r) T.length (zi q)) (42 + 9 * r) 25 (zi (T.length + 1)) (42 + 9 * r) f = mi (42 + 9 * r) f := fun f h1 h2 h3 => by rw [B0 f h2, n3 f h1 h3]
    refine ⟨_, ?_, CQ_pop hQ0 hW hr hm B1 B2 ((B0 23 (by decide)).trans n23) ((B0 26 (by decide)).trans f3) (by rw [hS, up2_s, up1_s]; rfl)
      (by
        rw [hS, up2_n _ _ (by omega), up2_s, up2_n _ _ (by omega), n2 (44 + 9 * r) (by omega)]
        exact ⟨up1_s _ _ _, OB_congr (fun i hi => up1_n _ _ (by omega)) a4⟩) (fun a ha hn => by rw [up2_n _ _ (by omega), up2_n _ _ (by omega), up2_n _ _ (by have := hn (by omega); rw [hh] at this; exact this), n2 a (by omega)]) (fun _ => ⟨fun f hf => by rw [hh, up2_n _ _ (by omega), up2_n _ _ (by omega), up2_s, up1_n _ _ hf, n2 _ (by omega)], by rw [hh, up2_n _ _ (by omega), up2_n _ _ (by omega), up2_s, up1_s]; rfl⟩), B1, B2, (B0 23 (by decide)).trans n23⟩
    have z7 : ¬ qk Q r m = 7 := by omega
    simp (disch := omega) only [ne_eq, Nat.not_lt_zero, Nat.zero_le, eq_self, not_true_eq_false, not_false_eq_true, decide_true, decide_false, Bool.not_true, Bool.not_false, Bool.true_and, Bool.false_and, Bool.and_true, Bool.and_false, Bool.or_true, Bool.true_or, Bool.false_or, Bool.or_false, Nat.beq_refl, bind_s, as_I, as_J, as_R, as_V, cnd_t, cnd_f, bz_ret, bzp_0, bzp_1, bzp_z0, bzp_z1, dec_bf, dec_bt, dec_nbf, dec_nbt, Bool.false_eq_true, Bool.true_eq_false, ret_0, ret_1, ret_z0, ret_z1, b43_56 hG, b43_106 hG, zi_lit, zi_add, zi_mul, zi_lt, zi_le, zi_eq, zi_sub, eq_false z3, eq_false z5, eq_false z7, opF1 o3, opF4 o3, opF2 hsq0, no, no', nq2, h4, o4, kc42 hC1, e18', nbeq_f, ev, ec, e24]
theorem c42 {G : AG} (hG : FIX G) {s : Nat → Nat × Nat} {mr : Nat → Nat → Nat} (hC : CS s mr) {n : Nat × Nat} {ml : Nat → Nat → Int64} {mi : Nat → Nat → Int32} {Q : Pg} (hQ : CQ Q n.1 s mi mr) (hW : WP Q) (x : Int32) :
    ∃ H', G 42 0 [some (.inr (.inr 4)), some (.inl x), none] [] (s, n, mi, ml, mr) = some (some (.inl (opBack Q x).1), H') ∧ CQH (opBack Q x).2 H' ∧ (H' = (s, n, mi, ml, mr) ∧ (opBack Q x).2 = Q ∨ CNew x.toNatClampNeg (s, n, mi, ml, mr) H' ∧ x.toNatClampNeg < 8 ∧ CS H'.1 H'.2.2.2.2) := by
  have h8 := hW.1
  rw [b42_0 hG]
  unfold opBack
  cases h1 : isN x (qc Q)
  · refine ⟨(s, n, mi, ml, mr), ?_, hQ, Or.inl ⟨rfl, rfl⟩⟩
    simp (disch := omega) only [ne_eq, Nat.not_lt_zero, Nat.zero_le, eq_self, not_true_eq_false, not_false_eq_true, decide_true, decide_false, Bool.not_true, Bool.not_false, Bool.true_and, Bool.false_and, Bool.and_true, Bool.and_false, Bool.or_true, Bool.true_or, Bool.false_or, Bool.or_false, Nat.beq_refl, bind_s, as_I, as_J, as_R, as_V, cnd_t, cnd_f, bz_ret, bzp_0, bzp_1, bzp_z0, bzp_z1, dec_bf, dec_bt, dec_nbf, dec_nbt, Bool.false_eq_true, Bool.true_eq_false, ret_0, ret_1, ret_z0, ret_z1, gc23 hC, gc21 hC, kc4 hC, kc42 hC, kc8 hC, kc10 hC, kc11 hC, kc41 hC, nbeq_f, c15_f hG hC hQ.1 h8 h1]
  · obtain ⟨r, hr, hr2, rfl⟩ := isN_t h1
    have h24 := hW.2.1 r
    have hr8 : r < 8 := by omega
    have e15 := c15_t hG hC (n := n) (ml := ml) hQ.1 h8 hr
    have a1 := (hQ.2.1 r hr8).1
    have a2 := (hQ.2.1 r hr8).2.1
    rw [zi_cl hr2]
    by_cases h0 : qn Q r = 0
    · refine ⟨(s, n, mi, ml, mr), ?_, ?_, Or.inl ⟨rfl, ?_⟩⟩
      · rw [if_pos h0]
        simp (disch := omega) only [ne_eq, Nat.not_lt_zero, Nat.zero_le, eq_self, not_true_eq_false, not_false_eq_true, decide_true, decide_false, Bool.not_true, Bool.not_false, Bool.true_and, Bool.false_and, Bool.and_true, Bool.and_false, Bool.or_true, Bool.true_or, Bool.false_or, Bool.or_false, Nat.beq_refl, bind_s, as_I, as_J, as_R, as_V, cnd_t, cnd_f, bz_ret, bzp_0, bzp_1, bzp_z0, bzp_z1, dec_bf, dec_bt, dec_nbf, dec_nbt, Bool.false_eq_true, Bool.true_eq_false, ret_0, ret_1, ret_z0, ret_z1, gc23 hC, gc21 hC, kc4 hC, kc42 hC, kc8 hC, kc10 hC, kc11 hC, kc41 hC, nbeq_f, zi_lit, zi_add, zi_mul, zi_lt, zi_le, zi_eq, zi_sub, e15, a2, eq_true h0]
      · rw [if_pos h0]; exact hQ
      · rw [if_pos h0]; rfl
    · rw [if_neg h0]
      obtain ⟨m, hm⟩ : ∃ m, qn Q r = m + 1 := ⟨qn Q r - 1, by omega⟩
      obtain ⟨m1, e1, q1, f1, f2, f3⟩ := c43 hG hC (n := n) (ml := ml) hQ hW hr8 hm
      have hC1 := CS_op hC m 0 hr8
      obtain ⟨m2, e2, f4, f5⟩ := c28 hG hC1 (n := n) (ml := ml) (mi := m1) hr8
      have hWp := WP_pop hW (by omega : 0 < qn Q r)
      have h21 : m1 (42 + 9 * r) 21 = zi r := (f2 21 (by decide) (by decide) (by decide)).trans a1
      have h23 : m2 (42 + 9 * r) 23 = zi m := by rw [f4 _ (fun b _ _ => by omega)]; exact f3
      refine ⟨(s, n, m2, ml, up2 mr (43 + 9 * r) m 0), ?_, CQ_i q1 hWp (fun a ha => f4 a (fun b h1 h2 => by rcases ha with h | ⟨c, h3, h4 | h4⟩ | h <;> omega)), Or.inr ⟨⟨fun _ _ => rfl, Nat.le_refl _, Nat.le_add_right _ _, Nat.le_add_right _ _, fun a h1 h2 h3 h4 => ?_, fun f h1 h2 h3 => ?_, f5, fun _ _ => rfl, fun a f h1 h2 => ?_⟩, hr8, hC1⟩⟩
      · have hm1 : qn Q r - 1 = m := by omega
        rw [hm1]
        simp (disch := omega) only [ne_eq, Nat.not_lt_zero, Nat.zero_le, eq_self, not_true_eq_false, not_false_eq_true, decide_true, decide_false, Bool.not_true, Bool.not_false, Bool.true_and, Bool.false_and, Bool.and_true, Bool.and_false, Bool.or_true, Bool.true_or, Bool.false_or, Bool.or_false, Nat.beq_refl, bind_s, as_I, as_J, as_R, as_V, cnd_t, cnd_f, bz_ret, bzp_0, bzp_1, bzp_z0, bzp_z1, dec_bf, dec_bt, dec_nbf, dec_nbt, Bool.false_eq_true, Bool.true_eq_false, ret_0, ret_1, ret_z0, ret_z1, gc23 hC, gc21 hC, kc4 hC, kc42 hC, kc8 hC, kc10 hC, kc11 hC, kc41 hC, nbeq_f, zi_lit, zi_add, zi_mul, zi_lt, zi_le, zi_eq, zi_sub, e15, a2, eq_false h0, e1, gc21 hC1, h21, kc4 hC1, e2, gc23 hC1, h23]
      · show m2 a = mi a
        rw [f4 a h2]; exact f1 a h1 h3 h4
      · show m2 (42 + 9 * r) f = mi (42 + 9 * r) f
        rw [f4 _ (fun b _ _ => by omega)]; exact f2 f h1 h2 h3
      · show up2 mr (43 + 9 * r) m 0 a f = mr a f
        rw [up2_n _ _ h2]