/-! StepsAhead: loop, call, close -/
theorem lps_3 {K : Nat → Nat} : ∀ {n : Nat}, WF K n → lps (stk K n) ≤ 3
  | 0, _ => Nat.zero_le _
  | n + 1, hW => by
    have ih := lps_3 (WF_le hW (Nat.le_succ n))
    have e0 : stk K (n + 1) = stq (K n) n (stk K n) := rfl
    rw [e0]
    have h := hW n (Nat.lt_succ_self n)
    have h3 : K n = 3 → lps (stk K n) < 3 := by
      intro hk
      rcases h with h | ⟨h, h'⟩ | h | h | ⟨h, -⟩ | ⟨h, -⟩ | ⟨h, -⟩
      · omega
      · exact h'
      all_goals omega
    rcases stq_ok (p := n) h with ⟨-, e⟩ | ⟨hk, e⟩ | ⟨-, e⟩ | ⟨q, T, hS, -, e⟩ | ⟨q, T, hS, -, e⟩ | ⟨q, T, hS, -, e⟩ <;> rw [e]
    · exact ih
    · have := h3 hk; show 1 + lps (stk K n) ≤ 3; omega
    · show 0 + lps (stk K n) ≤ 3; omega
    · rw [hS] at ih; have : 1 + lps T ≤ 3 := ih; omega
    · rw [hS] at ih; exact ih
    · rw [hS] at ih; have : 0 + lps T ≤ 3 := ih; omega
theorem c30 {G : AG} (hG : FIX G) {s : Nat → Nat × Nat} {mr : Nat → Nat → Nat} (hC : CS s mr) {n : Nat × Nat} {ml : Nat → Nat → Int64} {mi : Nat → Nat → Int32} {Q : Pg} (hN : 142 ≤ n.1) (hQ : CQ Q n.1 s mi mr) (hW : WP Q) {t : Nat → Nat} (ht : ∀ q, t q ≤ 2) (hx : clX t mi) (x : Int32) :
    ∃ H', G 30 0 [some (.inr (.inr 4)), some (.inl x), none, none] [] (s, n, mi, ml, mr) = some (some (.inl (opLoop Q x t).1), H') ∧ CQH (opLoop Q x t).2 H' ∧ (H' = (s, n, mi, ml, mr) ∧ (opLoop Q x t).2 = Q ∨ CNew x.toNatClampNeg (s, n, mi, ml, mr) H' ∧ x.toNatClampNeg < 8 ∧ CS H'.1 H'.2.2.2.2) := by
  have h8 := hW.1
  rw [b30_0 hG]
  unfold opLoop
  cases h1 : isN x (qc Q)
  · refine ⟨(s, n, mi, ml, mr), ?_, hQ, Or.inl ⟨rfl, rfl⟩⟩
    simp (disch := omega) only [ne_eq, Nat.not_lt_zero, Nat.zero_le, eq_self, not_true_eq_false, not_false_eq_true, decide_true, decide_false, Bool.not_true, Bool.not_false, Bool.true_and, Bool.false_and, Bool.and_true, Bool.and_false, Bool.or_true, Bool.true_or, Bool.false_or, Bool.or_false, Nat.beq_refl, bind_s, as_I, as_J, as_R, as_V, cnd_t, cnd_f, bz_ret, bzp_0, bzp_1, bzp_z0, bzp_z1, dec_bf, dec_bt, dec_nbf, dec_nbt, Bool.false_eq_true, Bool.true_eq_false, ret_0, ret_1, ret_z0, ret_z1, gc23 hC, gc45 hC, ac6 hC, wc6 hC, lc6 hC, kc4 hC, kc42 hC, kc8 hC, kc10 hC, kc11 hC, kc41 hC, nbeq_f, c15_f hG hC hQ.1 h8 h1]
  · obtain ⟨r, hr, hr2, rfl⟩ := isN_t h1
    have h24 := hW.2.1 r
    have e15 := c15_t hG hC (n := n) (ml := ml) hQ.1 h8 hr
    have a2 := (hQ.2.1 r (by omega)).2.1
    have e16 := c16 hG hC (n := n) (ml := ml) (by omega : r < 8) a2 h24
    have e17 := c17 hG hC (n := n) (ml := ml) hQ hW (r := r) (by omega)
    have hl3 := lps_3 (hW.2.2.2.1 r)
    rw [zi_cl hr2]
    by_cases h3 : lps (stk (qk Q r) (qn Q r)) = 3
    · refine ⟨(s, n, mi, ml, mr), ?_, ?_, Or.inl ⟨rfl, ?_⟩⟩
      · rw [if_pos h3]
        simp (disch := omega) only [ne_eq, Nat.not_lt_zero, Nat.zero_le, eq_self, not_true_eq_false, not_false_eq_true, decide_true, decide_false, Bool.not_true, Bool.not_false, Bool.true_and, Bool.false_and, Bool.and_true, Bool.and_false, Bool.or_true, Bool.true_or, Bool.false_or, Bool.or_false, Nat.beq_refl, bind_s, as_I, as_J, as_R, as_V, cnd_t, cnd_f, bz_ret, bzp_0, bzp_1, bzp_z0, bzp_z1, dec_bf, dec_bt, dec_nbf, dec_nbt, Bool.false_eq_true, Bool.true_eq_false, ret_0, ret_1, ret_z0, ret_z1, gc23 hC, gc45 hC, ac6 hC, wc6 hC, lc6 hC, kc4 hC, kc42 hC, kc8 hC, kc10 hC, kc11 hC, kc41 hC, nbeq_f, zi_lit, zi_add, zi_mul, zi_lt, zi_le, zi_eq, zi_sub, e15, e17, eq_false (by omega : ¬ lps (stk (qk Q r) (qn Q r)) < 3)]
      · rw [if_pos h3]; exact hQ
      · rw [if_pos h3]; rfl
    rw [if_neg h3]
    unfold cm
    by_cases hf : qn Q r = 24
    · have z3 : decide (24 ≤ qn Q r) = true := decide_eq_true (by omega)
      refine ⟨(s, n, mi, ml, mr), ?_, ?_, Or.inl ⟨rfl, ?_⟩⟩
      · rw [if_pos hf]
        simp (disch := omega) only [ne_eq, Nat.not_lt_zero, Nat.zero_le, eq_self, not_true_eq_false, not_false_eq_true, decide_true, decide_false, Bool.not_true, Bool.not_false, Bool.true_and, Bool.false_and, Bool.and_true, Bool.and_false, Bool.or_true, Bool.true_or, Bool.false_or, Bool.or_false, Nat.beq_refl, bind_s, as_I, as_J, as_R, as_V, cnd_t, cnd_f, bz_ret, bzp_0, bzp_1, bzp_z0, bzp_z1, dec_bf, dec_bt, dec_nbf, dec_nbt, Bool.false_eq_true, Bool.true_eq_false, ret_0, ret_1, ret_z0, ret_z1, gc23 hC, gc45 hC, ac6 hC, wc6 hC, lc6 hC, kc4 hC, kc42 hC, kc8 hC, kc10 hC, kc11 hC, kc41 hC, nbeq_f, zi_lit, zi_add, zi_mul, zi_lt, zi_le, zi_eq, zi_sub, e15, e16, e17, z3, eq_true (by omega : lps (stk (qk Q r) (qn Q r)) < 3)]
      · rw [if_pos hf]; exact hQ
      · rw [if_pos hf]; rfl
    · have z3 : decide (24 ≤ qn Q r) = false := decide_eq_false (by omega)
      rw [if_neg hf]
      have hC1 := CS_nw hC hN (3, 6) (fun _ => 0)
      have eCl := hCl_e (s := up1 s n.1 (3, 6)) (mr := up1 mr n.1 (fun _ => 0)) (n := (n.1 + 1, n.2 + 6)) (mi := up1 mi n.1 (fun _ => zi 0)) (ml := up1 ml n.1 (fun _ => 0)) (a := 6) (l := 6) (by rw [up1_n _ _ (by omega)]; exact cs6 hC) (by show 142 ≤ n.1 + 1; omega)
      rw [show up1 mi n.1 (fun _ => zi 0) 6 = mi 6 from up1_n _ _ (by omega)] at eCl
      have hC2 := CS_nw hC1 (by show 142 ≤ n.1 + 1; omega) (20, 6) (fun _ => 0)
      have hso : up1 (up1 s n.1 (3, 6)) (n.1 + 1) (20, 6) n.1 = osh 3 := by rw [up1_n _ _ (by omega), up1_s]; rfl
      have hso' : up1 (up1 s n.1 (3, 6)) (n.1 + 1) (20, 6) n.1 = (3, 6) := hso
      have e20 := c20 hG (s := up1 (up1 s n.1 (3, 6)) (n.1 + 1) (20, 6)) (n := (n.1 + 1 + 1, n.2 + 6 + 6)) (ml := up1 (up1 ml n.1 (fun _ => 0)) (n.1 + 1) (fun _ => 0)) (mr := up1 (up1 mr n.1 (fun _ => 0)) (n.1 + 1) (fun _ => 0)) (mi := up1 (up1 mi n.1 (fun _ => zi 0)) (n.1 + 1) (mi 6)) hN hso (zi 3) (zi (qn Q r)) (zi (lps (stk (qk Q r) (qn Q r)))) (-zi 1)
      have e31 : G 31 0 [some (.inr (.inr n.1)), some (.inl (zi (qn Q r))), some (.inl (zi (lps (stk (qk Q r) (qn Q r))))), some (.inr (.inr (n.1 + 1)))] [] (up1 (up1 s n.1 (3, 6)) (n.1 + 1) (20, 6), (n.1 + 1 + 1, n.2 + 6 + 6), up1 (up1 mi n.1 (fun _ => zi 0)) (n.1 + 1) (mi 6), up1 (up1 ml n.1 (fun _ => 0)) (n.1 + 1) (fun _ => 0), up1 (up1 mr n.1 (fun _ => 0)) (n.1 + 1) (fun _ => 0)) = some (none, (up1 (up1 s n.1 (3, 6)) (n.1 + 1) (20, 6), (n.1 + 1 + 1, n.2 + 6 + 6), up2 (up2 (up2 (up2 (up2 (up1 (up1 mi n.1 (fun _ => zi 0)) (n.1 + 1) (mi 6)) n.1 1 (zi 3)) n.1 2 (zi (qn Q r))) n.1 3 (zi (lps (stk (qk Q r) (qn Q r))))) n.1 4 (-zi 1)) n.1 11 (-zi 1), up1 (up1 ml n.1 (fun _ => 0)) (n.1 + 1) (fun _ => 0), up2 (up1 (up1 mr n.1 (fun _ => 0)) (n.1 + 1) (fun _ => 0)) n.1 0 (n.1 + 1))) := by
        rw [b31_0 hG, b32_0 hG]
        simp (disch := omega) only [ne_eq, Nat.not_lt_zero, Nat.zero_le, eq_self, not_true_eq_false, not_false_eq_true, decide_true, decide_false, Bool.not_true, Bool.not_false, Bool.true_and, Bool.false_and, Bool.and_true, Bool.and_false, Bool.or_true, Bool.true_or, Bool.false_or, Bool.or_false, Nat.beq_refl, bind_s, as_I, as_J, as_R, as_V, cnd_t, cnd_f, bz_ret, bzp_0, bzp_1, bzp_z0, bzp_z1, dec_bf, dec_bt, dec_nbf, dec_nbt, Bool.false_eq_true, Bool.true_eq_false, ret_0, ret_1, ret_z0, ret_z1, slk, padA, List.any_cons, List.any_nil, nbeq_f, if_true, if_false, Nat.reduceEqDiff, hso', zi_lit, e20, rpR hso' hF3_0, rpI hso' hF3_11 (by omega : 4 ≤ n.1)]
      obtain ⟨H', e21, q1, q2, q3⟩ := cFin hG hC (ml := ml) hN hQ hW (n1 := (n.1 + 1 + 1, n.2 + 6 + 6)) (ml1 := up1 (up1 ml n.1 (fun _ => 0)) (n.1 + 1) (fun _ => 0)) (s1 := up1 (up1 s n.1 (3, 6)) (n.1 + 1) (20, 6)) (mr1 := up2 (up1 (up1 mr n.1 (fun _ => 0)) (n.1 + 1) (fun _ => 0)) n.1 0 (n.1 + 1)) (mi1 := up2 (up2 (up2 (up2 (up2 (up1 (up1 mi n.1 (fun _ => zi 0)) (n.1 + 1) (mi 6)) n.1 1 (zi 3)) n.1 2 (zi (qn Q r))) n.1 3 (zi (lps (stk (qk Q r) (qn Q r))))) n.1 4 (-zi 1)) n.1 11 (-zi 1)) (k := 3) (w := 0) (d := 0) (o := n.1) (t := t) ⟨by show n.1 ≤ n.1 + 1 + 1; omega, by show n.1 + 1 + 1 ≤ n.1 + 3; omega⟩ (by show n.2 + 6 + 6 ≤ n.2 + 40; omega) (fun a ha => by simp (disch := omega) only [up1_n]) (fun a ha => by simp (disch := omega) only [up2_n, up1_n]) (fun a ha => by simp (disch := omega) only [up1_n]) (fun a ha => by simp (disch := omega) only [up2_n, up1_n]) hr (by omega) (Or.inr (Or.inl ⟨rfl, by omega⟩)) (fun h => by omega) (fun h => by omega) ht
          ⟨hN, by show n.1 < n.1 + 1 + 1; omega, hso, by simp (disch := omega) only [up2_s, up1_s, up1_n], by simp (disch := omega) only [up2_s, up1_s, up1_n], by simp (disch := omega) only [up2_s, up1_s, up1_n], by simp (disch := omega) only [up2_s, up1_s, up1_n, if_false, Nat.reduceLeDiff]; rfl, fun h => by omega, fun _ => by
              rw [up2_s, up1_s]
              refine ⟨by omega, by show n.1 + 1 < n.1 + 1 + 1; omega, up1_s _ _ _, fun q hq => ?_⟩
              simp (disch := omega) only [up2_n, up1_s, up1_n]
              exact (hx q hq).1, fun h => by omega, fun h => by omega, fun a p ha hp h => by
            rw [up2_n _ _ (by omega), up1_n _ _ (by omega), up1_n _ _ (by omega)] at h
            have := ((hQ.2.1 a ha).2.2.2.2.2.1 p hp).2.1
            omega⟩
      refine ⟨H', ?_, q1, Or.inr ⟨q2, by omega, q3⟩⟩
      have hC3 := CS_fr hC2 hN 0 (n.1 + 1)
      have es : up1 (up1 s n.1 (3, 6)) (n.1 + 1) (20, 6) (n.1 + 1) = (20, 6) := up1_s _ _ _
      simp (disch := omega) only [ne_eq, Nat.not_lt_zero, Nat.zero_le, eq_self, not_true_eq_false, not_false_eq_true, decide_true, decide_false, Bool.not_true, Bool.not_false, Bool.true_and, Bool.false_and, Bool.and_true, Bool.and_false, Bool.or_true, Bool.true_or, Bool.false_or, Bool.or_false, Nat.beq_refl, bind_s, as_I, as_J, as_R, as_V, cnd_t, cnd_f, bz_ret, bzp_0, bzp_1, bzp_z0, bzp_z1, dec_bf, dec_bt, dec_nbf, dec_nbt, Bool.false_eq_true, Bool.true_eq_false, ret_0, ret_1, ret_z0, ret_z1, slk, padA, List.any_cons, List.any_nil, nbeq_f, if_true, if_false, Nat.reduceEqDiff, gc23 hC, gc45 hC, ac6 hC, wc6 hC, lc6 hC, kc4 hC, kc42 hC, kc8 hC, kc10 hC, kc11 hC, kc41 hC, nbeq_f, e15, e16, e17, z3, zi_lit, zi_lt, eq_true (by omega : lps (stk (qk Q r) (qn Q r)) < 3), hNw_e _ _ hN, gc23 hC1, gc45 hC1, up1_n, up1_s, a2, eCl, es, hso', e31, kc4 hC3, e21]
theorem c33 {G : AG} (hG : FIX G) {s : Nat → Nat × Nat} {mr : Nat → Nat → Nat} (hC : CS s mr) {n : Nat × Nat} {ml : Nat → Nat → Int64} {mi : Nat → Nat → Int32} {Q : Pg} (hN : 142 ≤ n.1) (hQ : CQ Q n.1 s mi mr) (hW : WP Q) {t : Nat → Nat} (ht : ∀ q, t q ≤ 2) (hx : clX t mi) (x y : Int32) :
    ∃ H', G 33 0 [some (.inr (.inr 4)), some (.inl x), some (.inl y), none, none, none, none] [] (s, n, mi, ml, mr) = some (some (.inl (opCall Q x y t).1), H') ∧ CQH (opCall Q x y t).2 H' ∧ (H' = (s, n, mi, ml, mr) ∧ (opCall Q x y t).2 = Q ∨ CNew x.toNatClampNeg (s, n, mi, ml, mr) H' ∧ x.toNatClampNeg < 8 ∧ CS H'.1 H'.2.2.2.2) := by
  have h8 := hW.1
  rw [b33_0 hG]
  unfold opCall
  have nx : ∀ {c : Nat}, isN y (qc Q) = false → c < qc Q → isN y c = false := by
    intro c h hc
    cases h2 : isN y c
    · rfl
    · obtain ⟨j, hj, hj2, rfl⟩ := isN_t h2
      rw [isN_zi hj2] at h; have := of_decide_eq_false h; omega
  cases h1 : isN x (qc Q)
  · refine ⟨(s, n, mi, ml, mr), ?_, hQ, Or.inl ⟨rfl, rfl⟩⟩
    cases h2 : isN y (qc Q)
    · simp (disch := omega) only [ne_eq, Nat.not_lt_zero, Nat.zero_le, eq_self, not_true_eq_false, not_false_eq_true, decide_true, decide_false, Bool.not_true, Bool.not_false, Bool.true_and, Bool.false_and, Bool.and_true, Bool.and_false, Bool.or_true, Bool.true_or, Bool.false_or, Bool.or_false, Nat.beq_refl, bind_s, as_I, as_J, as_R, as_V, cnd_t, cnd_f, bz_ret, bzp_0, bzp_1, bzp_z0, bzp_z1, dec_bf, dec_bt, dec_nbf, dec_nbt, Bool.false_eq_true, Bool.true_eq_false, ret_0, ret_1, ret_z0, ret_z1, b33_27 hG, gc45 hC, ac6 hC, wc6 hC, lc6 hC, gc46 hC, ac7 hC, wc7 hC, lc7 hC, gc23 hC, kc4 hC, kc42 hC, kc8 hC, kc10 hC, kc11 hC, kc41 hC, nbeq_f, c15_f hG hC hQ.1 h8 h1, c15_f hG hC hQ.1 h8 h2]
    · obtain ⟨j, hj, hj2, rfl⟩ := isN_t h2
      simp (disch := omega) only [ne_eq, Nat.not_lt_zero, Nat.zero_le, eq_self, not_true_eq_false, not_false_eq_true, decide_true, decide_false, Bool.not_true, Bool.not_false, Bool.true_and, Bool.false_and, Bool.and_true, Bool.and_false, Bool.or_true, Bool.true_or, Bool.false_or, Bool.or_false, Nat.beq_refl, bind_s, as_I, as_J, as_R, as_V, cnd_t, cnd_f, bz_ret, bzp_0, bzp_1, bzp_z0, bzp_z1, dec_bf, dec_bt, dec_nbf, dec_nbt, Bool.false_eq_true, Bool.true_eq_false, ret_0, ret_1, ret_z0, ret_z1, b33_27 hG, gc45 hC, ac6 hC, wc6 hC, lc6 hC, gc46 hC, ac7 hC, wc7 hC, lc7 hC, gc23 hC, kc4 hC, kc42 hC, kc8 hC, kc10 hC, kc11 hC, kc41 hC, nbeq_f, c15_f hG hC hQ.1 h8 h1, c15_t hG hC hQ.1 h8 hj]
  · obtain ⟨r, hr, hr2, rfl⟩ := isN_t h1
    have h24 := hW.2.1 r
    have e15 := c15_t hG hC (n := n) (ml := ml) hQ.1 h8 hr
    have a2 := (hQ.2.1 r (by omega)).2.1
    have e16 := c16 hG hC (n := n) (ml := ml) (by omega : r < 8) a2 h24
    rw [zi_cl hr2]
    cases h2 : isN y (qc Q)
    · rw [nx h2 hr]
      refine ⟨(s, n, mi, ml, mr), ?_, hQ, Or.inl ⟨rfl, rfl⟩⟩
      simp (disch := omega) only [ne_eq, Nat.not_lt_zero, Nat.zero_le, eq_self, not_true_eq_false, not_false_eq_true, decide_true, decide_false, Bool.not_true, Bool.not_false, Bool.true_and, Bool.false_and, Bool.and_true, Bool.and_false, Bool.or_true, Bool.true_or, Bool.false_or, Bool.or_false, Nat.beq_refl, bind_s, as_I, as_J, as_R, as_V, cnd_t, cnd_f, bz_ret, bzp_0, bzp_1, bzp_z0, bzp_z1, dec_bf, dec_bt, dec_nbf, dec_nbt, Bool.false_eq_true, Bool.true_eq_false, ret_0, ret_1, ret_z0, ret_z1, b33_27 hG, gc45 hC, ac6 hC, wc6 hC, lc6 hC, gc46 hC, ac7 hC, wc7 hC, lc7 hC, gc23 hC, kc4 hC, kc42 hC, kc8 hC, kc10 hC, kc11 hC, kc41 hC, nbeq_f, e15, c15_f hG hC hQ.1 h8 h2]
    obtain ⟨j, hj, hj2, rfl⟩ := isN_t h2
    have e15y := c15_t hG hC (n := n) (ml := ml) hQ.1 h8 hj
    rw [isN_zi hj2]
    by_cases hjr : j < r
    case neg =>
      rw [decide_eq_false hjr]
      refine ⟨(s, n, mi, ml, mr), ?_, hQ, Or.inl ⟨rfl, rfl⟩⟩
      simp (disch := omega) only [ne_eq, Nat.not_lt_zero, Nat.zero_le, eq_self, not_true_eq_false, not_false_eq_true, decide_true, decide_false, Bool.not_true, Bool.not_false, Bool.true_and, Bool.false_and, Bool.and_true, Bool.and_false, Bool.or_true, Bool.true_or, Bool.false_or, Bool.or_false, Nat.beq_refl, bind_s, as_I, as_J, as_R, as_V, cnd_t, cnd_f, bz_ret, bzp_0, bzp_1, bzp_z0, bzp_z1, dec_bf, dec_bt, dec_nbf, dec_nbt, Bool.false_eq_true, Bool.true_eq_false, ret_0, ret_1, ret_z0, ret_z1, b33_27 hG, gc45 hC, ac6 hC, wc6 hC, lc6 hC, gc46 hC, ac7 hC, wc7 hC, lc7 hC, gc23 hC, kc4 hC, kc42 hC, kc8 hC, kc10 hC, kc11 hC, kc41 hC, nbeq_f, e15, e15y, zi_lt, eq_false hjr]
    rw [decide_eq_true hjr, zi_cl hj2]
    unfold cm
    by_cases hf : qn Q r = 24
    · have z3 : decide (24 ≤ qn Q r) = true := decide_eq_true (by omega)
      refine ⟨(s, n, mi, ml, mr), ?_, ?_, Or.inl ⟨rfl, ?_⟩⟩
      · rw [if_pos hf]
        simp (disch := omega) only [ne_eq, Nat.not_lt_zero, Nat.zero_le, eq_self, not_true_eq_false, not_false_eq_true, decide_true, decide_false, Bool.not_true, Bool.not_false, Bool.true_and, Bool.false_and, Bool.and_true, Bool.and_false, Bool.or_true, Bool.true_or, Bool.false_or, Bool.or_false, Nat.beq_refl, bind_s, as_I, as_J, as_R, as_V, cnd_t, cnd_f, bz_ret, bzp_0, bzp_1, bzp_z0, bzp_z1, dec_bf, dec_bt, dec_nbf, dec_nbt, Bool.false_eq_true, Bool.true_eq_false, ret_0, ret_1, ret_z0, ret_z1, b33_27 hG, gc45 hC, ac6 hC, wc6 hC, lc6 hC, gc46 hC, ac7 hC, wc7 hC, lc7 hC, gc23 hC, kc4 hC, kc42 hC, kc8 hC, kc10 hC, kc11 hC, kc41 hC, nbeq_f, e15, e15y, e16, z3, zi_lt, eq_true hjr]
      · rw [if_pos hf]; exact hQ
      · rw [if_pos hf]; rfl
    · have z3 : decide (24 ≤ qn Q r) = false := decide_eq_false (by omega)
      rw [if_neg hf]
      have eC1 := hCl_e (s := s) (mr := mr) (n := n) (mi := mi) (ml := ml) (a := 6) (l := 6) (cs6 hC) hN
      have hC1 := CS_nw hC hN (20, 6) (fun _ => 0)
      have eC2 := hCl_e (s := up1 s n.1 (20, 6)) (mr := up1 mr n.1 (fun _ => 0)) (n := (n.1 + 1, n.2 + 6)) (mi := up1 mi n.1 (mi 6)) (ml := up1 ml n.1 (fun _ => 0)) (a := 7) (l := 6) (by rw [up1_n _ _ (by omega)]; exact cs7 hC) (by show 142 ≤ n.1 + 1; omega)
      rw [show up1 mi n.1 (mi 6) 7 = mi 7 from up1_n _ _ (by omega)] at eC2
      have hC2 := CS_nw hC1 (by show 142 ≤ n.1 + 1; omega) (20, 6) (fun _ => 0)
      have eNw := hNw_e (s := up1 (up1 s n.1 (20, 6)) (n.1 + 1) (20, 6)) (mr := up1 (up1 mr n.1 (fun _ => 0)) (n.1 + 1) (fun _ => 0)) (n := (n.1 + 1 + 1, n.2 + 6 + 6)) (mi := up1 (up1 mi n.1 (mi 6)) (n.1 + 1) (mi 7)) (ml := up1 (up1 ml n.1 (fun _ => 0)) (n.1 + 1) (fun _ => 0)) 1 7 (by show 142 ≤ n.1 + 1 + 1; omega)
      have hC3 := CS_nw hC2 (by show 142 ≤ n.1 + 1 + 1; omega) (1, 7) (fun _ => 0)
      have hQ3 : CQ Q (n.1 + 1 + 1 + 1) (up1 (up1 (up1 s n.1 (20, 6)) (n.1 + 1) (20, 6)) (n.1 + 1 + 1) (1, 7)) (up1 (up1 (up1 mi n.1 (mi 6)) (n.1 + 1) (mi 7)) (n.1 + 1 + 1) (fun _ => zi 0)) (up1 (up1 (up1 mr n.1 (fun _ => 0)) (n.1 + 1) (fun _ => 0)) (n.1 + 1 + 1) (fun _ => 0)) := CQ_ext hQ hW (by omega) hN (fun a ha => by simp (disch := omega) only [up1_n]) (fun a ha => by simp (disch := omega) only [up1_n]) (fun a ha => by simp (disch := omega) only [up1_n])
      have e17 := c17 hG hC3 (n := (n.1 + 1 + 1 + 1, n.2 + 6 + 6 + 7)) (ml := up1 (up1 (up1 ml n.1 (fun _ => 0)) (n.1 + 1) (fun _ => 0)) (n.1 + 1 + 1) (fun _ => 0)) hQ3 hW (r := r) (by omega)
      have hso : up1 (up1 (up1 s n.1 (20, 6)) (n.1 + 1) (20, 6)) (n.1 + 1 + 1) (1, 7) (n.1 + 1 + 1) = osh 4 := up1_s _ _ _
      have hso' : up1 (up1 (up1 s n.1 (20, 6)) (n.1 + 1) (20, 6)) (n.1 + 1 + 1) (1, 7) (n.1 + 1 + 1) = (1, 7) := hso
      have e20 := c20 hG (s := up1 (up1 (up1 s n.1 (20, 6)) (n.1 + 1) (20, 6)) (n.1 + 1 + 1) (1, 7)) (n := (n.1 + 1 + 1 + 1, n.2 + 6 + 6 + 7)) (ml := up1 (up1 (up1 ml n.1 (fun _ => 0)) (n.1 + 1) (fun _ => 0)) (n.1 + 1 + 1) (fun _ => 0)) (mr := up1 (up1 (up1 mr n.1 (fun _ => 0)) (n.1 + 1) (fun _ => 0)) (n.1 + 1 + 1) (fun _ => 0)) (mi := up1 (up1 (up1 mi n.1 (mi 6)) (n.1 + 1) (mi 7)) (n.1 + 1 + 1) (fun _ => zi 0)) (by omega : 142 ≤ n.1 + 1 + 1) hso (zi 4) (zi (qn Q r)) (zi (lps (stk (qk Q r) (qn Q r)))) (-zi 1)
      have e34 : G 34 0 [some (.inr (.inr (n.1 + 1 + 1))), some (.inl (zi (qn Q r))), some (.inl (zi (lps (stk (qk Q r) (qn Q r))))), some (.inr (.inr n.1)), some (.inr (.inr (n.1 + 1))), some (.inr (.inr (42 + 9 * j)))] [] (up1 (up1 (up1 s n.1 (20, 6)) (n.1 + 1) (20, 6)) (n.1 + 1 + 1) (1, 7), (n.1 + 1 + 1 + 1, n.2 + 6 + 6 + 7), up1 (up1 (up1 mi n.1 (mi 6)) (n.1 + 1) (mi 7)) (n.1 + 1 + 1) (fun _ => zi 0), up1 (up1 (up1 ml n.1 (fun _ => 0)) (n.1 + 1) (fun _ => 0)) (n.1 + 1 + 1) (fun _ => 0), up1 (up1 (up1 mr n.1 (fun _ => 0)) (n.1 + 1) (fun _ => 0)) (n.1 + 1 + 1) (fun _ => 0)) = some (none, (up1 (up1 (up1 s n.1 (20, 6)) (n.1 + 1) (20, 6)) (n.1 + 1 + 1) (1, 7), (n.1 + 1 + 1 + 1, n.2 + 6 + 6 + 7), up2 (up2 (up2 (up2 (up1 (up1 (up1 mi n.1 (mi 6)) (n.1 + 1) (mi 7)) (n.1 + 1 + 1) (fun _ => zi 0)) (n.1 + 1 + 1) 1 (zi 4)) (n.1 + 1 + 1) 2 (zi (qn Q r))) (n.1 + 1 + 1) 3 (zi (lps (stk (qk Q r) (qn Q r))))) (n.1 + 1 + 1) 4 (-zi 1), up1 (up1 (up1 ml n.1 (fun _ => 0)) (n.1 + 1) (fun _ => 0)) (n.1 + 1 + 1) (fun _ => 0), up2 (up2 (up2 (up1 (up1 (up1 mr n.1 (fun _ => 0)) (n.1 + 1) (fun _ => 0)) (n.1 + 1 + 1) (fun _ => 0)) (n.1 + 1 + 1) 0 n.1) (n.1 + 1 + 1) 5 (n.1 + 1)) (n.1 + 1 + 1) 6 (42 + 9 * j))) := by
        rw [b34_0 hG, b32_0 hG]
        simp (disch := omega) only [ne_eq, Nat.not_lt_zero, Nat.zero_le, eq_self, not_true_eq_false, not_false_eq_true, decide_true, decide_false, Bool.not_true, Bool.not_false, Bool.true_and, Bool.false_and, Bool.and_true, Bool.and_false, Bool.or_true, Bool.true_or, Bool.false_or, Bool.or_false, Nat.beq_refl, bind_s, as_I, as_J, as_R, as_V, cnd_t, cnd_f, bz_ret, bzp_0, bzp_1, bzp_z0, bzp_z1, dec_bf, dec_bt, dec_nbf, dec_nbt, Bool.false_eq_true, Bool.true_eq_false, ret_0, ret_1, ret_z0, ret_z1, slk, padA, List.any_cons, List.any_nil, nbeq_f, if_true, if_false, Nat.reduceEqDiff, hso', zi_lit, e20, rpR hso' hF1_0, rpR hso' hF1_5, rpR hso' hF1_6]
      obtain ⟨H', e21, q1, q2, q3⟩ := cFin hG hC (ml := ml) hN hQ hW (n1 := (n.1 + 1 + 1 + 1, n.2 + 6 + 6 + 7)) (ml1 := up1 (up1 (up1 ml n.1 (fun _ => 0)) (n.1 + 1) (fun _ => 0)) (n.1 + 1 + 1) (fun _ => 0)) (s1 := up1 (up1 (up1 s n.1 (20, 6)) (n.1 + 1) (20, 6)) (n.1 + 1 + 1) (1, 7)) (mr1 := up2 (up2 (up2 (up1 (up1 (up1 mr n.1 (fun _ => 0)) (n.1 + 1) (fun _ => 0)) (n.1 + 1 + 1) (fun _ => 0)) (n.1 + 1 + 1) 0 n.1) (n.1 + 1 + 1) 5 (n.1 + 1)) (n.1 + 1 + 1) 6 (42 + 9 * j)) (mi1 := up2 (up2 (up2 (up2 (up1 (up1 (up1 mi n.1 (mi 6)) (n.1 + 1) (mi 7)) (n.1 + 1 + 1) (fun _ => zi 0)) (n.1 + 1 + 1) 1 (zi 4)) (n.1 + 1 + 1) 2 (zi (qn Q r))) (n.1 + 1 + 1) 3 (zi (lps (stk (qk Q r) (qn Q r))))) (n.1 + 1 + 1) 4 (-zi 1)) (k := 4) (w := 0) (d := j) (o := n.1 + 1 + 1) (t := t) ⟨by show n.1 ≤ n.1 + 1 + 1 + 1; omega, by show n.1 + 1 + 1 + 1 ≤ n.1 + 3; omega⟩ (by show n.2 + 6 + 6 + 7 ≤ n.2 + 40; omega) (fun a ha => by simp (disch := omega) only [up1_n]) (fun a ha => by simp (disch := omega) only [up2_n, up1_n]) (fun a ha => by simp (disch := omega) only [up1_n]) (fun a ha => by simp (disch := omega) only [up2_n, up1_n]) hr (by omega) (Or.inr (Or.inr (Or.inl rfl))) (fun h => by omega) (fun _ => hjr) ht
          ⟨by omega, by show n.1 + 1 + 1 < n.1 + 1 + 1 + 1; omega, hso, by simp (disch := omega) only [up2_s, up1_s, up1_n], by simp (disch := omega) only [up2_s, up1_s, up1_n], by simp (disch := omega) only [up2_s, up1_s, up1_n], by simp (disch := omega) only [up2_s, up1_s, up1_n, if_false, Nat.reduceLeDiff]; rfl, fun h => by omega, fun _ => by
              simp (disch := omega) only [up2_s, up1_s, up1_n]
              refine ⟨by omega, by show n.1 < n.1 + 1 + 1 + 1; omega, by simp (disch := omega) only [up1_s, up1_n], fun q hq => ?_⟩
              simp (disch := omega) only [up2_n, up1_s, up1_n]
              exact (hx q hq).1, fun _ => by
              simp (disch := omega) only [up2_s, up1_s, up1_n]
              refine ⟨⟨by omega, by show n.1 + 1 < n.1 + 1 + 1 + 1; omega, by simp (disch := omega) only [up1_s, up1_n], fun q hq => ?_⟩, trivial⟩
              simp (disch := omega) only [up2_n, up1_s, up1_n]
              exact (hx q hq).2, fun h => by omega, fun a p ha hp h => by
            simp (disch := omega) only [up2_n, up1_n] at h
            have := ((hQ.2.1 a ha).2.2.2.2.2.1 p hp).2.1
            omega⟩
      refine ⟨H', ?_, q1, Or.inr ⟨q2, by omega, q3⟩⟩
      have hC4 := CS_fr (CS_fr (CS_fr hC3 (by omega : 142 ≤ n.1 + 1 + 1) 0 n.1) (by omega : 142 ≤ n.1 + 1 + 1) 5 (n.1 + 1)) (by omega : 142 ≤ n.1 + 1 + 1) 6 (42 + 9 * j)
      have es : up1 s n.1 (20, 6) n.1 = (20, 6) := up1_s _ _ _
      have es2 : up1 (up1 s n.1 (20, 6)) (n.1 + 1) (20, 6) (n.1 + 1) = (20, 6) := up1_s _ _ _
      have e23 : up1 (up1 (up1 mi n.1 (mi 6)) (n.1 + 1) (mi 7)) (n.1 + 1 + 1) (fun _ => zi 0) (42 + 9 * r) 23 = zi (qn Q r) := by simp (disch := omega) only [up1_n]; exact a2
      simp (disch := omega) only [ne_eq, Nat.not_lt_zero, Nat.zero_le, eq_self, not_true_eq_false, not_false_eq_true, decide_true, decide_false, Bool.not_true, Bool.not_false, Bool.true_and, Bool.false_and, Bool.and_true, Bool.and_false, Bool.or_true, Bool.true_or, Bool.false_or, Bool.or_false, Nat.beq_refl, bind_s, as_I, as_J, as_R, as_V, cnd_t, cnd_f, bz_ret, bzp_0, bzp_1, bzp_z0, bzp_z1, dec_bf, dec_bt, dec_nbf, dec_nbt, Bool.false_eq_true, Bool.true_eq_false, ret_0, ret_1, ret_z0, ret_z1, slk, padA, List.any_cons, List.any_nil, nbeq_f, if_true, if_false, Nat.reduceEqDiff, b33_27 hG, gc45 hC, ac6 hC, wc6 hC, lc6 hC, gc46 hC, ac7 hC, wc7 hC, lc7 hC, gc23 hC, kc4 hC, kc42 hC, kc8 hC, kc10 hC, kc11 hC, kc41 hC, nbeq_f, e15, e15y, e16, e17, z3, zi_lt, eq_true hjr, eC1, eC2, es, es2, gc46 hC1, eNw, gc23 hC3, kc42 hC3, e23, hso', e34, kc4 hC4, e21]