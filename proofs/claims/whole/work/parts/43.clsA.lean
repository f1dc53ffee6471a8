/-! StepsAhead: close -/
theorem c38_n {G : AG} (hG : FIX G) {s : Nat → Nat × Nat} {mr : Nat → Nat → Nat} (hC : CS s mr) {n : Nat × Nat} {ml : Nat → Nat → Int64} {mi : Nat → Nat → Int32} {Q : Pg} (hQ : CQ Q n.1 s mi mr) (hW : WP Q) {r : Nat} (hr : r < 8) (hS : stk (qk Q r) (qn Q r) = []) : G 38 0 [some (.inr (.inr (42 + 9 * r))), none] [] (s, n, mi, ml, mr) = some (some (.inr (.inr 0)), (s, n, mi, ml, mr)) := by
  obtain ⟨a1, a2, a3, a4, a5, a6, a7⟩ := hQ.2.1 r hr
  rw [hS] at a3
  have e1 : decide (zi ([] : List (Nat × Nat)).length - 1 < 0) = true := by decide
  rw [b38_0 hG]
  simp (disch := omega) only [b38_17 hG, b38_31 hG, gc25 hC, gc24 hC, ac44 hC, wc44 hC, kc4 hC, kc42 hC, kc8 hC, kc10 hC, kc11 hC, kc41 hC, nbeq_f, ne_eq, Nat.not_lt_zero, Nat.zero_le, eq_self, not_true_eq_false, not_false_eq_true, decide_true, decide_false, Bool.not_true, Bool.not_false, Bool.true_and, Bool.false_and, Bool.and_true, Bool.and_false, Bool.or_true, Bool.true_or, Bool.false_or, Bool.or_false, Nat.beq_refl, bind_s, as_I, as_J, as_R, as_V, cnd_t, cnd_f, bz_ret, bzp_0, bzp_1, bzp_z0, bzp_z1, dec_bf, dec_bt, dec_nbf, dec_nbt, Bool.false_eq_true, Bool.true_eq_false, ret_0, ret_1, ret_z0, ret_z1, a3, e1]
theorem c38_c {G : AG} (hG : FIX G) {s : Nat → Nat × Nat} {mr : Nat → Nat → Nat} (hC : CS s mr) {n : Nat × Nat} {ml : Nat → Nat → Int64} {mi : Nat → Nat → Int32} {Q : Pg} (hQ : CQ Q n.1 s mi mr) (hW : WP Q) {r : Nat} (hr : r < 8) {q : Nat × Nat} {T : List (Nat × Nat)} (hS : stk (qk Q r) (qn Q r) = q :: T) : G 38 0 [some (.inr (.inr (42 + 9 * r))), none] [] (s, n, mi, ml, mr) = some (some (.inr (.inr (mr (43 + 9 * r) q.1))), (s, n, mi, ml, mr)) := by
  obtain ⟨a1, a2, a3, a4, a5, a6, a7⟩ := hQ.2.1 r hr
  have h24 := hW.2.1 r
  have hl := stk_len (qk Q r) (qn Q r)
  have hq := stk_lt (hW.2.2.2.1 r) q (by rw [hS]; exact List.mem_cons_self ..)
  rw [hS] at a3 a4 hl
  rw [List.length_cons] at a3 hl
  have e18 := c18_t hG hC (n := n) (ml := ml) hr a2 h24 hq
  rw [b38_0 hG]
  simp (disch := omega) only [b38_17 hG, b38_31 hG, gc25 hC, gc24 hC, ac44 hC, wc44 hC, kc4 hC, kc42 hC, kc8 hC, kc10 hC, kc11 hC, kc41 hC, nbeq_f, ne_eq, Nat.not_lt_zero, Nat.zero_le, eq_self, not_true_eq_false, not_false_eq_true, decide_true, decide_false, Bool.not_true, Bool.not_false, Bool.true_and, Bool.false_and, Bool.and_true, Bool.and_false, Bool.or_true, Bool.true_or, Bool.false_or, Bool.or_false, Nat.beq_refl, bind_s, as_I, as_J, as_R, as_V, cnd_t, cnd_f, bz_ret, bzp_0, bzp_1, bzp_z0, bzp_z1, dec_bf, dec_bt, dec_nbf, dec_nbt, Bool.false_eq_true, Bool.true_eq_false, ret_0, ret_1, ret_z0, ret_z1, zi_lit, zi_add, zi_mul, zi_lt, zi_le, zi_eq, zi_sub, a3, Nat.add_sub_cancel, a4.1, e18, eq_true (by omega : T.length < 24)]
/-- which op closes next -/
theorem cNx {G : AG} (hG : FIX G) {s : Nat → Nat × Nat} {mr : Nat → Nat → Nat} (hC : CS s mr) {n : Nat × Nat} {ml : Nat → Nat → Int64} {mi : Nat → Nat → Int32} {Q : Pg} (hQ : CQ Q n.1 s mi mr) (hW : WP Q) {r : Nat} (hr : r < 8) {q : Nat × Nat} {T : List (Nat × Nat)} (hS : stk (qk Q r) (qn Q r) = q :: T) {k : Nat} (hk : 6 ≤ k ∧ k ≤ 8) : ∃ w : Nat × Nat, slk [(1, 41, 2), (2, 39, 2), (3, 40, 2), (4, 41, 2), (10, 41, 2)] (s (mr (43 + 9 * r) q.1)).1 = some w ∧ G w.1 0 (padA w.2 [some (.inr (.inr (mr (43 + 9 * r) q.1))), some (.inl (zi k))]) [] (s, n, mi, ml, mr) = some (some (.inl (bz (decide (q.2 + 6 = k)))), (s, n, mi, ml, mr)) := by
  obtain ⟨a1, a2, a3, a4, a5, a6, a7⟩ := hQ.2.1 r hr
  have hmem : q ∈ stk (qk Q r) (qn Q r) := by rw [hS]; exact List.mem_cons_self ..
  obtain ⟨hq, he⟩ := (stk_inv (hW.2.2.2.1 r)).2.1 q hmem
  have hs := (a6 q.1 hq).2.2.1
  have hp24 := hW.2.1 r
  rcases he with ⟨h0, h3⟩ | ⟨h1, h5, -⟩ | ⟨h2, h5, p, hp, hk7, hh⟩
  · rw [h3, osh_3] at hs
    refine ⟨(40, 2), by rw [hs]; rfl, ?_⟩
    refine (b40_0 hG _ (zi k) _).trans ?_
    rw [h0]
    have hkk : k = 6 ∨ k = 7 ∨ k = 8 := by omega
    rcases hkk with rfl | rfl | rfl <;> simp (disch := omega) only [ne_eq, Nat.not_lt_zero, Nat.zero_le, eq_self, not_true_eq_false, not_false_eq_true, decide_true, decide_false, Bool.not_true, Bool.not_false, Bool.true_and, Bool.false_and, Bool.and_true, Bool.and_false, Bool.or_true, Bool.true_or, Bool.false_or, Bool.or_false, Nat.beq_refl, bind_s, as_I, as_J, as_R, as_V, cnd_t, cnd_f, bz_ret, bzp_0, bzp_1, bzp_z0, bzp_z1, dec_bf, dec_bt, dec_nbf, dec_nbt, Bool.false_eq_true, Bool.true_eq_false, ret_0, ret_1, ret_z0, ret_z1, zi_lit, zi_add, zi_mul, zi_lt, zi_le, zi_eq, zi_sub, b40_11 hG, Nat.reduceEqDiff, Nat.reduceAdd]
  · rw [h5, osh_5] at hs
    have h7 : mi (mr (43 + 9 * r) q.1) 7 = -1 := a7 q.1 (by rw [← h1]; exact hmem)
    refine ⟨(39, 2), by rw [hs]; rfl, ?_⟩
    refine (b39_0 hG _ (zi k) _).trans ?_
    rw [h1]
    have hkk : k = 6 ∨ k = 7 ∨ k = 8 := by omega
    rcases hkk with rfl | rfl | rfl <;> simp (disch := omega) only [ne_eq, Nat.not_lt_zero, Nat.zero_le, eq_self, not_true_eq_false, not_false_eq_true, decide_true, decide_false, Bool.not_true, Bool.not_false, Bool.true_and, Bool.false_and, Bool.and_true, Bool.and_false, Bool.or_true, Bool.true_or, Bool.false_or, Bool.or_false, Nat.beq_refl, bind_s, as_I, as_J, as_R, as_V, cnd_t, cnd_f, bz_ret, bzp_0, bzp_1, bzp_z0, bzp_z1, dec_bf, dec_bt, dec_nbf, dec_nbt, Bool.false_eq_true, Bool.true_eq_false, ret_0, ret_1, ret_z0, ret_z1, zi_lit, zi_add, zi_mul, zi_lt, zi_le, zi_eq, zi_sub, b39_16 hG, b39_24 hG, rgI hs hF2_7, h7, Nat.reduceEqDiff, Nat.reduceAdd]
  · rw [h5, osh_5] at hs
    have h7 : mi (mr (43 + 9 * r) q.1) 7 = zi p := by
      have h := (a6 p hp).2.2.2.2.2.2.2.2.2.2.2.1 hk7
      rw [hh] at h; exact h
    have hne : decide (zi p ≠ -1) = true := by
      refine decide_eq_true fun h => ?_
      have := congrArg Int32.toInt h
      rw [zi_ti (by omega), show (-1 : Int32).toInt = -1 from rfl] at this
      omega
    refine ⟨(39, 2), by rw [hs]; rfl, ?_⟩
    refine (b39_0 hG _ (zi k) _).trans ?_
    rw [h2, rgI hs hF2_7, h7]
    simp only [bind_s, hne, cnd_t]
    have hkk : k = 6 ∨ k = 7 ∨ k = 8 := by omega
    rcases hkk with rfl | rfl | rfl <;> simp (disch := omega) only [ne_eq, Nat.not_lt_zero, Nat.zero_le, eq_self, not_true_eq_false, not_false_eq_true, decide_true, decide_false, Bool.not_true, Bool.not_false, Bool.true_and, Bool.false_and, Bool.and_true, Bool.and_false, Bool.or_true, Bool.true_or, Bool.false_or, Bool.or_false, Nat.beq_refl, bind_s, as_I, as_J, as_R, as_V, cnd_t, cnd_f, bz_ret, bzp_0, bzp_1, bzp_z0, bzp_z1, dec_bf, dec_bt, dec_nbf, dec_nbt, Bool.false_eq_true, Bool.true_eq_false, ret_0, ret_1, ret_z0, ret_z1, zi_lit, zi_add, zi_mul, zi_lt, zi_le, zi_eq, zi_sub, b39_16 hG, b39_24 hG, Nat.reduceEqDiff, Nat.reduceAdd]
theorem c37 {G : AG} (hG : FIX G) {s : Nat → Nat × Nat} {mr : Nat → Nat → Nat} (hC : CS s mr) {n : Nat × Nat} {ml : Nat → Nat → Int64} {mi : Nat → Nat → Int32} {Q : Pg} (hN : 142 ≤ n.1) (hQ : CQ Q n.1 s mi mr) (hW : WP Q) {t : Nat → Nat} (ht : ∀ q, t q ≤ 2) (x y : Int32) :
    ∃ H', G 37 0 [some (.inr (.inr 4)), some (.inl x), some (.inl y), none, none] [] (s, n, mi, ml, mr) = some (some (.inl (opClose Q x y t).1), H') ∧ CQH (opClose Q x y t).2 H' ∧ (H' = (s, n, mi, ml, mr) ∧ (opClose Q x y t).2 = Q ∨ CNew x.toNatClampNeg (s, n, mi, ml, mr) H' ∧ x.toNatClampNeg < 8 ∧ CS H'.1 H'.2.2.2.2) := by
  have h8 := hW.1
  rw [b37_0 hG]
  unfold opClose
  cases h1 : isN x (qc Q)
  · refine ⟨(s, n, mi, ml, mr), ?_, hQ, Or.inl ⟨rfl, rfl⟩⟩
    simp (disch := omega) only [ne_eq, Nat.not_lt_zero, Nat.zero_le, eq_self, not_true_eq_false, not_false_eq_true, decide_true, decide_false, Bool.not_true, Bool.not_false, Bool.true_and, Bool.false_and, Bool.and_true, Bool.and_false, Bool.or_true, Bool.true_or, Bool.false_or, Bool.or_false, Nat.beq_refl, bind_s, as_I, as_J, as_R, as_V, cnd_t, cnd_f, bz_ret, bzp_0, bzp_1, bzp_z0, bzp_z1, dec_bf, dec_bt, dec_nbf, dec_nbt, Bool.false_eq_true, Bool.true_eq_false, ret_0, ret_1, ret_z0, ret_z1, b37_22 hG, b37_45 hG, gc23 hC, kc4 hC, kc42 hC, kc8 hC, kc10 hC, kc11 hC, kc41 hC, nbeq_f, c15_f hG hC hQ.1 h8 h1]
  · obtain ⟨r, hr, hr2, rfl⟩ := isN_t h1
    have h24 := hW.2.1 r
    have e15 := c15_t hG hC (n := n) (ml := ml) hQ.1 h8 hr
    have a2 := (hQ.2.1 r (by omega)).2.1
    have e16 := c16 hG hC (n := n) (ml := ml) (by omega : r < 8) a2 h24
    cases h2 : isB y 6 8
    · refine ⟨(s, n, mi, ml, mr), ?_, hQ, Or.inl ⟨rfl, rfl⟩⟩
      by_cases h0 : y < 6
      · simp (disch := omega) only [ne_eq, Nat.not_lt_zero, Nat.zero_le, eq_self, not_true_eq_false, not_false_eq_true, decide_true, decide_false, Bool.not_true, Bool.not_false, Bool.true_and, Bool.false_and, Bool.and_true, Bool.and_false, Bool.or_true, Bool.true_or, Bool.false_or, Bool.or_false, Nat.beq_refl, bind_s, as_I, as_J, as_R, as_V, cnd_t, cnd_f, bz_ret, bzp_0, bzp_1, bzp_z0, bzp_z1, dec_bf, dec_bt, dec_nbf, dec_nbt, Bool.false_eq_true, Bool.true_eq_false, ret_0, ret_1, ret_z0, ret_z1, b37_22 hG, b37_45 hG, gc23 hC, kc4 hC, kc42 hC, kc8 hC, kc10 hC, kc11 hC, kc41 hC, nbeq_f, e15, decide_eq_true h0]
      · have h99 : ¬ y ≤ 8 := by
          intro h99
          rw [Int32.lt_iff_toInt_lt] at h0
          rw [Int32.le_iff_toInt_le] at h99
          have z1 : (6 : Int32).toInt = 6 := rfl
          have z2 : (8 : Int32).toInt = 8 := rfl
          unfold isB at h2
          rw [Bool.and_eq_false_iff, decide_eq_false_iff_not, decide_eq_false_iff_not] at h2
          omega
        simp (disch := omega) only [ne_eq, Nat.not_lt_zero, Nat.zero_le, eq_self, not_true_eq_false, not_false_eq_true, decide_true, decide_false, Bool.not_true, Bool.not_false, Bool.true_and, Bool.false_and, Bool.and_true, Bool.and_false, Bool.or_true, Bool.true_or, Bool.false_or, Bool.or_false, Nat.beq_refl, bind_s, as_I, as_J, as_R, as_V, cnd_t, cnd_f, bz_ret, bzp_0, bzp_1, bzp_z0, bzp_z1, dec_bf, dec_bt, dec_nbf, dec_nbt, Bool.false_eq_true, Bool.true_eq_false, ret_0, ret_1, ret_z0, ret_z1, b37_22 hG, b37_45 hG, gc23 hC, kc4 hC, kc42 hC, kc8 hC, kc10 hC, kc11 hC, kc41 hC, nbeq_f, e15, decide_eq_false h0, decide_eq_false h99]
    obtain ⟨k, hk1, hk2, rfl⟩ := isB_t h2 (by decide)
    have z1 : decide (zi k < 6) = false := decide_eq_false (by show ¬ zi k < zi 6; rw [zi_lt (by omega) (by omega)]; omega)
    have z2 : decide (zi k ≤ 8) = true := decide_eq_true (by show zi k ≤ zi 8; rw [zi_le (by omega) (by omega)]; omega)
    rw [zi_cl hr2, zi_cl (by omega : k < 2147483648)]
    cases hS : stk (qk Q r) (qn Q r) with
    | nil =>
      have e38 := c38_n hG hC (n := n) (ml := ml) hQ hW (by omega : r < 8) hS
      refine ⟨(s, n, mi, ml, mr), ?_, hQ, Or.inl ⟨rfl, rfl⟩⟩
      simp (disch := omega) only [ne_eq, Nat.not_lt_zero, Nat.zero_le, eq_self, not_true_eq_false, not_false_eq_true, decide_true, decide_false, Bool.not_true, Bool.not_false, Bool.true_and, Bool.false_and, Bool.and_true, Bool.and_false, Bool.or_true, Bool.true_or, Bool.false_or, Bool.or_false, Nat.beq_refl, bind_s, as_I, as_J, as_R, as_V, cnd_t, cnd_f, bz_ret, bzp_0, bzp_1, bzp_z0, bzp_z1, dec_bf, dec_bt, dec_nbf, dec_nbt, Bool.false_eq_true, Bool.true_eq_false, ret_0, ret_1, ret_z0, ret_z1, b37_22 hG, b37_45 hG, gc23 hC, kc4 hC, kc42 hC, kc8 hC, kc10 hC, kc11 hC, kc41 hC, nbeq_f, e15, z1, z2, e38, clo]
    | cons q T =>
      have e38 := c38_c hG hC (n := n) (ml := ml) hQ hW (by omega : r < 8) hS
      obtain ⟨w, ew, eg⟩ := cNx hG hC (n := n) (ml := ml) hQ hW (by omega : r < 8) hS (k := k) ⟨hk1, hk2⟩
      have hq := stk_lt (hW.2.2.2.1 r) q (by rw [hS]; exact List.mem_cons_self ..)
      have hO := (hQ.2.1 r (by omega)).2.2.2.2.2.1 q.1 hq
      have ho := hO.1
      have hoN := hO.2.1
      simp only [clo]
      by_cases hc : q.2 + 6 = k
      case neg =>
        rw [decide_eq_false hc] at eg ⊢
        refine ⟨(s, n, mi, ml, mr), ?_, hQ, Or.inl ⟨rfl, rfl⟩⟩
        simp (disch := omega) only [ne_eq, Nat.not_lt_zero, Nat.zero_le, eq_self, not_true_eq_false, not_false_eq_true, decide_true, decide_false, Bool.not_true, Bool.not_false, Bool.true_and, Bool.false_and, Bool.and_true, Bool.and_false, Bool.or_true, Bool.true_or, Bool.false_or, Bool.or_false, Nat.beq_refl, bind_s, as_I, as_J, as_R, as_V, cnd_t, cnd_f, bz_ret, bzp_0, bzp_1, bzp_z0, bzp_z1, dec_bf, dec_bt, dec_nbf, dec_nbt, Bool.false_eq_true, Bool.true_eq_false, ret_0, ret_1, ret_z0, ret_z1, b37_22 hG, b37_45 hG, gc23 hC, kc4 hC, kc42 hC, kc8 hC, kc10 hC, kc11 hC, kc41 hC, nbeq_f, e15, z1, z2, e38, ew, eg]
      rw [decide_eq_true hc] at eg ⊢
      simp only [cnd_t]
      unfold cm
      by_cases hf : qn Q r = 24
      · have z3 : decide (24 ≤ qn Q r) = true := decide_eq_true (by omega)
        refine ⟨(s, n, mi, ml, mr), ?_, ?_, Or.inl ⟨rfl, ?_⟩⟩
        · rw [if_pos hf]
          simp (disch := omega) only [ne_eq, Nat.not_lt_zero, Nat.zero_le, eq_self, not_true_eq_false, not_false_eq_true, decide_true, decide_false, Bool.not_true, Bool.not_false, Bool.true_and, Bool.false_and, Bool.and_true, Bool.and_false, Bool.or_true, Bool.true_or, Bool.false_or, Bool.or_false, Nat.beq_refl, bind_s, as_I, as_J, as_R, as_V, cnd_t, cnd_f, bz_ret, bzp_0, bzp_1, bzp_z0, bzp_z1, dec_bf, dec_bt, dec_nbf, dec_nbt, Bool.false_eq_true, Bool.true_eq_false, ret_0, ret_1, ret_z0, ret_z1, b37_22 hG, b37_45 hG, gc23 hC, kc4 hC, kc42 hC, kc8 hC, kc10 hC, kc11 hC, kc41 hC, nbeq_f, e15, z1, z2, e38, ew, eg, e16, z3]
        · rw [if_pos hf]; exact hQ
        · rw [if_pos hf]; rfl
      · have z3 : decide (24 ≤ qn Q r) = false := decide_eq_false (by omega)
        rw [if_neg hf]
        have hC1 := CS_nw hC hN (4, 4) (fun _ => 0)
        have hQ1 : CQ Q (n.1 + 1) (up1 s n.1 (4, 4)) (up1 mi n.1 (fun _ => zi 0)) (up1 mr n.1 (fun _ => 0)) := CQ_ext hQ hW (Nat.le_succ _) hN (fun a ha => up1_n _ _ (by omega)) (fun a ha => up1_n _ _ (by omega)) (fun a ha => up1_n _ _ (by omega))
        have e17 := c17 hG hC1 (n := (n.1 + 1, n.2 + 4)) (ml := up1 ml n.1 (fun _ => 0)) hQ1 hW (r := r) (by omega)
        have hso : up1 s n.1 (4, 4) n.1 = osh k := by rw [up1_s, osh_6 hk1]
        have hso' : up1 s n.1 (4, 4) n.1 = (4, 4) := up1_s _ _ _
        have hsq : up1 s n.1 (4, 4) (mr (43 + 9 * r) q.1) = osh (qk Q r q.1) := by rw [up1_n _ _ (by omega)]; exact hO.2.2.1
        have e20 := c20 hG (n := (n.1 + 1, n.2 + 4)) (ml := up1 ml n.1 (fun _ => 0)) (mr := up1 mr n.1 (fun _ => 0)) (mi := up1 mi n.1 (fun _ => zi 0)) hN hso (zi k) (zi (qn Q r)) (zi (lps (stk (qk Q r) (qn Q r)))) (zi q.1)
        have okk : okc k (stk (qk Q r) (qn Q r)) := by
          rw [hS]
          have hb := stk_b (qk Q r) (qn Q r) q (by rw [hS]; exact List.mem_cons_self ..)
          have h3 : q.2 = 0 ∨ q.2 = 1 ∨ q.2 = 2 := by omega
          rcases h3 with h | h | h
          · exact Or.inr (Or.inr (Or.inr (Or.inr (Or.inl ⟨by omega, q.1, T, by rw [← h]⟩))))
          · exact Or.inr (Or.inr (Or.inr (Or.inr (Or.inr (Or.inl ⟨by omega, q.1, T, by rw [← h]⟩)))))
          · exact Or.inr (Or.inr (Or.inr (Or.inr (Or.inr (Or.inr ⟨by omega, q.1, T, by rw [← h]⟩)))))
        obtain ⟨H', e21, q1, q2, q3⟩ := cFin hG hC (ml := ml) hN hQ hW (n1 := (n.1 + 1, n.2 + 4)) (ml1 := up1 ml n.1 (fun _ => 0)) (s1 := up1 s n.1 (4, 4)) (mr1 := up1 mr n.1 (fun _ => 0)) (mi1 := up2 (up2 (up2 (up2 (up1 mi n.1 (fun _ => zi 0)) n.1 1 (zi k)) n.1 2 (zi (qn Q r))) n.1 3 (zi (lps (stk (qk Q r) (qn Q r))))) n.1 4 (zi q.1)) (k := k) (w := 0) (d := 0) (o := n.1) (t := t) ⟨Nat.le_succ _, by show n.1 + 1 ≤ n.1 + 3; omega⟩ (by show n.2 + 4 ≤ n.2 + 40; omega) (fun a ha => up1_n _ _ (by omega)) (fun a ha => by simp (disch := omega) only [up2_n, up1_n]) (fun a ha => up1_n _ _ (by omega)) (fun a ha => up1_n _ _ (by omega)) hr (by omega) okk (fun h => by omega) (fun h => by omega) ht
          ⟨hN, Nat.lt_succ_self _, hso, by simp (disch := omega) only [up2_s, up1_s, up1_n], by simp (disch := omega) only [up2_s, up1_s, up1_n], by simp (disch := omega) only [up2_s, up1_s, up1_n], by rw [if_pos hk1, hS, up2_s, up1_s]; rfl, fun h => by omega, fun h => by omega, fun h => by omega, fun h => by omega, fun a p ha hp h => by
            rw [up1_n _ _ (by omega)] at h
            have := ((hQ.2.1 a ha).2.2.2.2.2.1 p hp).2.1
            omega⟩
        refine ⟨H', ?_, q1, Or.inr ⟨q2, by omega, q3⟩⟩
        rw [hS] at e17 e20 e21
        simp (disch := omega) only [ne_eq, Nat.not_lt_zero, Nat.zero_le, eq_self, not_true_eq_false, not_false_eq_true, decide_true, decide_false, Bool.not_true, Bool.not_false, Bool.true_and, Bool.false_and, Bool.and_true, Bool.and_false, Bool.or_true, Bool.true_or, Bool.false_or, Bool.or_false, Nat.beq_refl, bind_s, as_I, as_J, as_R, as_V, cnd_t, cnd_f, bz_ret, bzp_0, bzp_1, bzp_z0, bzp_z1, dec_bf, dec_bt, dec_nbf, dec_nbt, Bool.false_eq_true, Bool.true_eq_false, ret_0, ret_1, ret_z0, ret_z1, b37_22 hG, b37_45 hG, gc23 hC, kc4 hC, kc42 hC, kc8 hC, kc10 hC, kc11 hC, kc41 hC, nbeq_f, e15, z1, z2, e38, ew, eg, e16, z3, hNw_e _ _ hN, gc23 hC1, up1_n, a2, kc42 hC1, e17, opF2 hsq, hO.2.2.2.2.1, hso', e20, kc4 hC1, e21]