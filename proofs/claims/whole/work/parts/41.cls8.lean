/-! StepsAhead: loop, call, either, close -/
theorem cFin {G : AG} (hG : FIX G) {s : Nat → Nat × Nat} {mr : Nat → Nat → Nat} (hC : CS s mr) {n : Nat × Nat} {ml : Nat → Nat → Int64} {mi : Nat → Nat → Int32} {Q : Pg} (hN : 142 ≤ n.1) (hQ : CQ Q n.1 s mi mr) (hW : WP Q) {s1 : Nat → Nat × Nat} {mr1 : Nat → Nat → Nat} {n1 : Nat × Nat} {ml1 : Nat → Nat → Int64} {mi1 : Nat → Nat → Int32} {r k w d o : Nat} {t : Nat → Nat} (hn : n.1 ≤ n1.1 ∧ n1.1 ≤ n.1 + 3) (hn2 : n1.2 ≤ n.2 + 40) (hs : ∀ a, a < n.1 → s1 a = s a) (hi : ∀ a, a < n.1 → mi1 a = mi a) (hl : ∀ a, a < n.1 → ml1 a = ml a) (hm : ∀ a, a < n.1 → mr1 a = mr a)
    (hr : r < qc Q) (hm24 : qn Q r < 24) (hk : okc k (stk (qk Q r) (qn Q r))) (hw : k = 1 → 1 ≤ w ∧ w ≤ 99) (hd : k = 4 → d < r) (ht : ∀ q, t q ≤ 2) (hO : NO Q n1.1 s1 mi1 mr1 r k w d t o) :
    ∃ H', G 21 0 [some (.inr (.inr 4)), some (.inr (.inr (42 + 9 * r))), some (.inr (.inr o))] [] (s1, n1, mi1, ml1, mr1) = some (some (.inl (zi (qn Q r))), H') ∧ CQH (psh Q r k w d t) H' ∧ CNew r (s, n, mi, ml, mr) H' ∧ CS H'.1 H'.2.2.2.2 := by
  have hC1 : CS s1 mr1 := CS_ext hC (fun a ha => hs a (by omega)) (fun a f h => by rw [hm a (by rcases h with h | ⟨b, h1, h2, h3⟩ | ⟨b, h1, h2⟩ <;> omega)])
  have hQ1 := CQ_ext hQ hW hn.1 hN hs hi hm
  obtain ⟨m', mr', e21, q1, q2, q3, q4, q5, q6⟩ := c21 hG hC1 (n := n1) (ml := ml1) hQ1 hW hr hm24 hk hw hd ht hO
  have h8 := hW.1
  refine ⟨_, e21, q1, ⟨fun a ha => hs a (by omega), hn.1, hn.2, hn2, fun a h1 h2 h3 h4 => ?_, fun f h1 h2 h3 => ?_, q5, fun a ha => hl a (by omega), fun a f h1 h2 => ?_⟩, q2⟩
  · show m' a = mi a
    rw [q3 a h1 h2 h3 h4]; exact hi a (by omega)
  · show m' (42 + 9 * r) f = mi (42 + 9 * r) f
    rw [q4 f h1 h2 h3, hi _ (by omega)]
  · show mr' a f = mr a f
    rw [q6 a f h1 h2, hm a (by omega)]
theorem c14 {G : AG} (hG : FIX G) {s : Nat → Nat × Nat} {mr : Nat → Nat → Nat} (hC : CS s mr) {n : Nat × Nat} {ml : Nat → Nat → Int64} {mi : Nat → Nat → Int32} {Q : Pg} (hN : 142 ≤ n.1) (hQ : CQ Q n.1 s mi mr) (hW : WP Q) {t : Nat → Nat} (ht : ∀ q, t q ≤ 2) (x c : Int32) :
    ∃ H', G 14 0 [some (.inr (.inr 4)), some (.inl x), some (.inl c), none] [] (s, n, mi, ml, mr) = some (some (.inl (opWork Q x c t).1), H') ∧ CQH (opWork Q x c t).2 H' ∧ (H' = (s, n, mi, ml, mr) ∧ (opWork Q x c t).2 = Q ∨ CNew x.toNatClampNeg (s, n, mi, ml, mr) H' ∧ x.toNatClampNeg < 8 ∧ CS H'.1 H'.2.2.2.2) := by
  have h8 := hW.1
  rw [b14_0 hG]
  unfold opWork
  cases h1 : isN x (qc Q)
  · refine ⟨(s, n, mi, ml, mr), ?_, hQ, Or.inl ⟨rfl, rfl⟩⟩
    simp (disch := omega) only [ne_eq, Nat.not_lt_zero, Nat.zero_le, eq_self, not_true_eq_false, not_false_eq_true, decide_true, decide_false, Bool.not_true, Bool.not_false, Bool.true_and, Bool.false_and, Bool.and_true, Bool.and_false, Bool.or_true, Bool.true_or, Bool.false_or, Bool.or_false, Nat.beq_refl, bind_s, as_I, as_J, as_R, as_V, cnd_t, cnd_f, bz_ret, bzp_0, bzp_1, bzp_z0, bzp_z1, dec_bf, dec_bt, dec_nbf, dec_nbt, Bool.false_eq_true, Bool.true_eq_false, ret_0, ret_1, ret_z0, ret_z1, b14_21 hG, gc23 hC, kc4 hC, kc42 hC, kc8 hC, kc10 hC, kc11 hC, kc41 hC, nbeq_f, c15_f hG hC hQ.1 h8 h1]
  · obtain ⟨r, hr, hr2, rfl⟩ := isN_t h1
    have h24 := hW.2.1 r
    have e15 := c15_t hG hC (n := n) (ml := ml) hQ.1 h8 hr
    have a2 := (hQ.2.1 r (by omega)).2.1
    cases h2 : isB c 1 99
    · refine ⟨(s, n, mi, ml, mr), ?_, hQ, Or.inl ⟨rfl, rfl⟩⟩
      by_cases h0 : c < 1
      · simp (disch := omega) only [ne_eq, Nat.not_lt_zero, Nat.zero_le, eq_self, not_true_eq_false, not_false_eq_true, decide_true, decide_false, Bool.not_true, Bool.not_false, Bool.true_and, Bool.false_and, Bool.and_true, Bool.and_false, Bool.or_true, Bool.true_or, Bool.false_or, Bool.or_false, Nat.beq_refl, bind_s, as_I, as_J, as_R, as_V, cnd_t, cnd_f, bz_ret, bzp_0, bzp_1, bzp_z0, bzp_z1, dec_bf, dec_bt, dec_nbf, dec_nbt, Bool.false_eq_true, Bool.true_eq_false, ret_0, ret_1, ret_z0, ret_z1, b14_21 hG, gc23 hC, kc4 hC, kc42 hC, kc8 hC, kc10 hC, kc11 hC, kc41 hC, nbeq_f, e15, decide_eq_true h0]
      · have h99 : ¬ c ≤ 99 := by
          intro h99
          rw [Int32.lt_iff_toInt_lt] at h0
          rw [Int32.le_iff_toInt_le] at h99
          have z1 : (1 : Int32).toInt = 1 := rfl
          have z2 : (99 : Int32).toInt = 99 := rfl
          unfold isB at h2
          rw [Bool.and_eq_false_iff, decide_eq_false_iff_not, decide_eq_false_iff_not] at h2
          omega
        simp (disch := omega) only [ne_eq, Nat.not_lt_zero, Nat.zero_le, eq_self, not_true_eq_false, not_false_eq_true, decide_true, decide_false, Bool.not_true, Bool.not_false, Bool.true_and, Bool.false_and, Bool.and_true, Bool.and_false, Bool.or_true, Bool.true_or, Bool.false_or, Bool.or_false, Nat.beq_refl, bind_s, as_I, as_J, as_R, as_V, cnd_t, cnd_f, bz_ret, bzp_0, bzp_1, bzp_z0, bzp_z1, dec_bf, dec_bt, dec_nbf, dec_nbt, Bool.false_eq_true, Bool.true_eq_false, ret_0, ret_1, ret_z0, ret_z1, b14_21 hG, gc23 hC, kc4 hC, kc42 hC, kc8 hC, kc10 hC, kc11 hC, kc41 hC, nbeq_f, e15, decide_eq_false h0, decide_eq_false h99]
    · obtain ⟨w, hw1, hw2, rfl⟩ := isB_t h2 (by decide)
      have z1 : decide (zi w < 1) = false := decide_eq_false (by show ¬ zi w < zi 1; rw [zi_lt (by omega) (by omega)]; omega)
      have z2 : decide (zi w ≤ 99) = true := decide_eq_true (by show zi w ≤ zi 99; rw [zi_le (by omega) (by omega)]; omega)
      have e16 := c16 hG hC (n := n) (ml := ml) (by omega : r < 8) a2 h24
      rw [zi_cl hr2, zi_cl (by omega : w < 2147483648)]
      unfold cm
      by_cases hf : qn Q r = 24
      · have z3 : decide (24 ≤ qn Q r) = true := decide_eq_true (by omega)
        refine ⟨(s, n, mi, ml, mr), ?_, ?_, Or.inl ⟨rfl, ?_⟩⟩
        · rw [if_pos hf]
          simp (disch := omega) only [ne_eq, Nat.not_lt_zero, Nat.zero_le, eq_self, not_true_eq_false, not_false_eq_true, decide_true, decide_false, Bool.not_true, Bool.not_false, Bool.true_and, Bool.false_and, Bool.and_true, Bool.and_false, Bool.or_true, Bool.true_or, Bool.false_or, Bool.or_false, Nat.beq_refl, bind_s, as_I, as_J, as_R, as_V, cnd_t, cnd_f, bz_ret, bzp_0, bzp_1, bzp_z0, bzp_z1, dec_bf, dec_bt, dec_nbf, dec_nbt, Bool.false_eq_true, Bool.true_eq_false, ret_0, ret_1, ret_z0, ret_z1, b14_21 hG, gc23 hC, kc4 hC, kc42 hC, kc8 hC, kc10 hC, kc11 hC, kc41 hC, nbeq_f, e15, z1, z2, e16, z3]
        · rw [if_pos hf]; exact hQ
        · rw [if_pos hf]; rfl
      · have z3 : decide (24 ≤ qn Q r) = false := decide_eq_false (by omega)
        rw [if_neg hf]
        have hC1 := CS_nw hC hN (10, 5) (fun _ => 0)
        have hQ1 : CQ Q (n.1 + 1) (up1 s n.1 (10, 5)) (up1 mi n.1 (fun _ => zi 0)) (up1 mr n.1 (fun _ => 0)) := CQ_ext hQ hW (Nat.le_succ _) hN (fun a ha => up1_n _ _ (by omega)) (fun a ha => up1_n _ _ (by omega)) (fun a ha => up1_n _ _ (by omega))
        have e17 := c17 hG hC1 (n := (n.1 + 1, n.2 + 5)) (ml := up1 ml n.1 (fun _ => 0)) hQ1 hW (r := r) (by omega)
        have hso : up1 s n.1 (10, 5) n.1 = osh 1 := up1_s _ _ _
        have hso' : up1 s n.1 (10, 5) n.1 = (10, 5) := up1_s _ _ _
        have e20 := c20 hG (n := (n.1 + 1, n.2 + 5)) (ml := up1 ml n.1 (fun _ => 0)) (mr := up1 mr n.1 (fun _ => 0)) (mi := up1 mi n.1 (fun _ => zi 0)) hN hso (zi 1) (zi (qn Q r)) (zi (lps (stk (qk Q r) (qn Q r)))) (-zi 1)
        have e19 : G 19 0 [some (.inr (.inr n.1)), some (.inl (zi (qn Q r))), some (.inl (zi (lps (stk (qk Q r) (qn Q r))))), some (.inl (zi w))] [] (up1 s n.1 (10, 5), (n.1 + 1, n.2 + 5), up1 mi n.1 (fun _ => zi 0), up1 ml n.1 (fun _ => 0), up1 mr n.1 (fun _ => 0)) = some (none, (up1 s n.1 (10, 5), (n.1 + 1, n.2 + 5), up2 (up2 (up2 (up2 (up2 (up1 mi n.1 (fun _ => zi 0)) n.1 1 (zi 1)) n.1 2 (zi (qn Q r))) n.1 3 (zi (lps (stk (qk Q r) (qn Q r))))) n.1 4 (-zi 1)) n.1 42 (zi w), up1 ml n.1 (fun _ => 0), up1 mr n.1 (fun _ => 0))) := by
          rw [b19_0 hG]
          simp (disch := omega) only [ne_eq, Nat.not_lt_zero, Nat.zero_le, eq_self, not_true_eq_false, not_false_eq_true, decide_true, decide_false, Bool.not_true, Bool.not_false, Bool.true_and, Bool.false_and, Bool.and_true, Bool.and_false, Bool.or_true, Bool.true_or, Bool.false_or, Bool.or_false, Nat.beq_refl, bind_s, as_I, as_J, as_R, as_V, cnd_t, cnd_f, bz_ret, bzp_0, bzp_1, bzp_z0, bzp_z1, dec_bf, dec_bt, dec_nbf, dec_nbt, Bool.false_eq_true, Bool.true_eq_false, ret_0, ret_1, ret_z0, ret_z1, hso', zi_lit, e20, rpI hso' hF10_42 (by omega : 4 ≤ n.1)]
        obtain ⟨H', e21, q1, q2, q3⟩ := cFin hG hC hN hQ hW (n1 := (n.1 + 1, n.2 + 5)) (ml1 := up1 ml n.1 (fun _ => 0)) (s1 := up1 s n.1 (10, 5)) (mr1 := up1 mr n.1 (fun _ => 0)) (mi1 := up2 (up2 (up2 (up2 (up2 (up1 mi n.1 (fun _ => zi 0)) n.1 1 (zi 1)) n.1 2 (zi (qn Q r))) n.1 3 (zi (lps (stk (qk Q r) (qn Q r))))) n.1 4 (-zi 1)) n.1 42 (zi w)) (k := 1) (w := w) (d := 0) (o := n.1) (t := t) ⟨Nat.le_succ _, by show n.1 + 1 ≤ n.1 + 3; omega⟩ (by show n.2 + 5 ≤ n.2 + 40; omega) (fun a ha => up1_n _ _ (by omega)) (fun a ha => by simp (disch := omega) only [up2_n, up1_n]) (fun a ha => up1_n _ _ (by omega)) (fun a ha => up1_n _ _ (by omega)) hr (by omega) (Or.inl rfl) (fun _ => ⟨hw1, hw2⟩) (fun h => by omega) ht
          ⟨hN, Nat.lt_succ_self _, hso, by simp (disch := omega) only [up2_s, up1_s, up1_n], by simp (disch := omega) only [up2_s, up1_s, up1_n], by simp (disch := omega) only [up2_s, up1_s, up1_n], by simp (disch := omega) only [up2_s, up1_s, up1_n, if_false, Nat.reduceLeDiff]; rfl, fun _ => by simp (disch := omega) only [up2_s, up1_s], fun h => by omega, fun h => by omega, fun h => by omega, fun a p ha hp h => by
            rw [up1_n _ _ (by omega)] at h
            have := ((hQ.2.1 a ha).2.2.2.2.2.1 p hp).2.1
            omega⟩
        refine ⟨H', ?_, q1, Or.inr ⟨q2, by omega, q3⟩⟩
        simp (disch := omega) only [ne_eq, Nat.not_lt_zero, Nat.zero_le, eq_self, not_true_eq_false, not_false_eq_true, decide_true, decide_false, Bool.not_true, Bool.not_false, Bool.true_and, Bool.false_and, Bool.and_true, Bool.and_false, Bool.or_true, Bool.true_or, Bool.false_or, Bool.or_false, Nat.beq_refl, bind_s, as_I, as_J, as_R, as_V, cnd_t, cnd_f, bz_ret, bzp_0, bzp_1, bzp_z0, bzp_z1, dec_bf, dec_bt, dec_nbf, dec_nbt, Bool.false_eq_true, Bool.true_eq_false, ret_0, ret_1, ret_z0, ret_z1, b14_21 hG, gc23 hC, kc4 hC, kc42 hC, kc8 hC, kc10 hC, kc11 hC, kc41 hC, nbeq_f, e15, z1, z2, e16, z3, hNw_e _ _ hN, gc23 hC1, up1_n, a2, kc42 hC1, e17, hso', e19, kc4 hC1, e21]
theorem c35 {G : AG} (hG : FIX G) {s : Nat → Nat × Nat} {mr : Nat → Nat → Nat} (hC : CS s mr) {n : Nat × Nat} {ml : Nat → Nat → Int64} {mi : Nat → Nat → Int32} {Q : Pg} (hN : 142 ≤ n.1) (hQ : CQ Q n.1 s mi mr) (hW : WP Q) {t : Nat → Nat} (ht : ∀ q, t q ≤ 2) (x : Int32) :
    ∃ H', G 35 0 [some (.inr (.inr 4)), some (.inl x), none] [] (s, n, mi, ml, mr) = some (some (.inl (opEith Q x t).1), H') ∧ CQH (opEith Q x t).2 H' ∧ (H' = (s, n, mi, ml, mr) ∧ (opEith Q x t).2 = Q ∨ CNew x.toNatClampNeg (s, n, mi, ml, mr) H' ∧ x.toNatClampNeg < 8 ∧ CS H'.1 H'.2.2.2.2) := by
  have h8 := hW.1
  rw [b35_0 hG]
  unfold opEith
  cases h1 : isN x (qc Q)
  · refine ⟨(s, n, mi, ml, mr), ?_, hQ, Or.inl ⟨rfl, rfl⟩⟩
    simp (disch := omega) only [ne_eq, Nat.not_lt_zero, Nat.zero_le, eq_self, not_true_eq_false, not_false_eq_true, decide_true, decide_false, Bool.not_true, Bool.not_false, Bool.true_and, Bool.false_and, Bool.and_true, Bool.and_false, Bool.or_true, Bool.true_or, Bool.false_or, Bool.or_false, Nat.beq_refl, bind_s, as_I, as_J, as_R, as_V, cnd_t, cnd_f, bz_ret, bzp_0, bzp_1, bzp_z0, bzp_z1, dec_bf, dec_bt, dec_nbf, dec_nbt, Bool.false_eq_true, Bool.true_eq_false, ret_0, ret_1, ret_z0, ret_z1, gc23 hC, kc4 hC, kc42 hC, kc8 hC, kc10 hC, kc11 hC, kc41 hC, nbeq_f, c15_f hG hC hQ.1 h8 h1]
  · obtain ⟨r, hr, hr2, rfl⟩ := isN_t h1
    have h24 := hW.2.1 r
    have e15 := c15_t hG hC (n := n) (ml := ml) hQ.1 h8 hr
    have a2 := (hQ.2.1 r (by omega)).2.1
    have e16 := c16 hG hC (n := n) (ml := ml) (by omega : r < 8) a2 h24
    rw [zi_cl hr2]
    unfold cm
    by_cases hf : qn Q r = 24
    · have z3 : decide (24 ≤ qn Q r) = true := decide_eq_true (by omega)
      refine ⟨(s, n, mi, ml, mr), ?_, ?_, Or.inl ⟨rfl, ?_⟩⟩
      · rw [if_pos hf]
        simp (disch := omega) only [ne_eq, Nat.not_lt_zero, Nat.zero_le, eq_self, not_true_eq_false, not_false_eq_true, decide_true, decide_false, Bool.not_true, Bool.not_false, Bool.true_and, Bool.false_and, Bool.and_true, Bool.and_false, Bool.or_true, Bool.true_or, Bool.false_or, Bool.or_false, Nat.beq_refl, bind_s, as_I, as_J, as_R, as_V, cnd_t, cnd_f, bz_ret, bzp_0, bzp_1, bzp_z0, bzp_z1, dec_bf, dec_bt, dec_nbf, dec_nbt, Bool.false_eq_true, Bool.true_eq_false, ret_0, ret_1, ret_z0, ret_z1, gc23 hC, kc4 hC, kc42 hC, kc8 hC, kc10 hC, kc11 hC, kc41 hC, nbeq_f, e15, e16, z3]
      · rw [if_pos hf]; exact hQ
      · rw [if_pos hf]; rfl
    · have z3 : decide (24 ≤ qn Q r) = false := decide_eq_false (by omega)
      rw [if_neg hf]
      have hC1 := CS_nw hC hN (2, 8) (fun _ => 0)
      have hQ1 : CQ Q (n.1 + 1) (up1 s n.1 (2, 8)) (up1 mi n.1 (fun _ => zi 0)) (up1 mr n.1 (fun _ => 0)) := CQ_ext hQ hW (Nat.le_succ _) hN (fun a ha => up1_n _ _ (by omega)) (fun a ha => up1_n _ _ (by omega)) (fun a ha => up1_n _ _ (by omega))
      have e17 := c17 hG hC1 (n := (n.1 + 1, n.2 + 8)) (ml := up1 ml n.1 (fun _ => 0)) hQ1 hW (r := r) (by omega)
      have hso : up1 s n.1 (2, 8) n.1 = osh 5 := up1_s _ _ _
      have hso' : up1 s n.1 (2, 8) n.1 = (2, 8) := up1_s _ _ _
      have e20 := c20 hG (n := (n.1 + 1, n.2 + 8)) (ml := up1 ml n.1 (fun _ => 0)) (mr := up1 mr n.1 (fun _ => 0)) (mi := up1 mi n.1 (fun _ => zi 0)) hN hso (zi 5) (zi (qn Q r)) (zi (lps (stk (qk Q r) (qn Q r)))) (-zi 1)
      have e36 : G 36 0 [some (.inr (.inr n.1)), some (.inl (zi (qn Q r))), some (.inl (zi (lps (stk (qk Q r) (qn Q r)))))] [] (up1 s n.1 (2, 8), (n.1 + 1, n.2 + 8), up1 mi n.1 (fun _ => zi 0), up1 ml n.1 (fun _ => 0), up1 mr n.1 (fun _ => 0)) = some (none, (up1 s n.1 (2, 8), (n.1 + 1, n.2 + 8), up2 (up2 (up2 (up2 (up2 (up2 (up2 (up2 (up1 mi n.1 (fun _ => zi 0)) n.1 1 (zi 5)) n.1 2 (zi (qn Q r))) n.1 3 (zi (lps (stk (qk Q r) (qn Q r))))) n.1 4 (-zi 1)) n.1 7 (-zi 1)) n.1 8 (-zi 1)) n.1 9 (zi 0)) n.1 10 (zi 0), up1 ml n.1 (fun _ => 0), up1 mr n.1 (fun _ => 0))) := by
        rw [b36_0 hG]
        simp (disch := omega) only [ne_eq, Nat.not_lt_zero, Nat.zero_le, eq_self, not_true_eq_false, not_false_eq_true, decide_true, decide_false, Bool.not_true, Bool.not_false, Bool.true_and, Bool.false_and, Bool.and_true, Bool.and_false, Bool.or_true, Bool.true_or, Bool.false_or, Bool.or_false, Nat.beq_refl, bind_s, as_I, as_J, as_R, as_V, cnd_t, cnd_f, bz_ret, bzp_0, bzp_1, bzp_z0, bzp_z1, dec_bf, dec_bt, dec_nbf, dec_nbt, Bool.false_eq_true, Bool.true_eq_false, ret_0, ret_1, ret_z0, ret_z1, hso', zi_lit, e20, rpI hso' hF2_7 (by omega : 4 ≤ n.1), rpI hso' hF2_8 (by omega : 4 ≤ n.1), rpI hso' hF2_9 (by omega : 4 ≤ n.1), rpI hso' hF2_10 (by omega : 4 ≤ n.1)]
      obtain ⟨H', e21, q1, q2, q3⟩ := cFin hG hC hN hQ hW (n1 := (n.1 + 1, n.2 + 8)) (ml1 := up1 ml n.1 (fun _ => 0)) (s1 := up1 s n.1 (2, 8)) (mr1 := up1 mr n.1 (fun _ => 0)) (mi1 := up2 (up2 (up2 (up2 (up2 (up2 (up2 (up2 (up1 mi n.1 (fun _ => zi 0)) n.1 1 (zi 5)) n.1 2 (zi (qn Q r))) n.1 3 (zi (lps (stk (qk Q r) (qn Q r))))) n.1 4 (-zi 1)) n.1 7 (-zi 1)) n.1 8 (-zi 1)) n.1 9 (zi 0)) n.1 10 (zi 0)) (k := 5) (w := 0) (d := 0) (o := n.1) (t := t) ⟨Nat.le_succ _, by show n.1 + 1 ≤ n.1 + 3; omega⟩ (by show n.2 + 8 ≤ n.2 + 40; omega) (fun a ha => up1_n _ _ (by omega)) (fun a ha => by simp (disch := omega) only [up2_n, up1_n]) (fun a ha => up1_n _ _ (by omega)) (fun a ha => up1_n _ _ (by omega)) hr (by omega) (Or.inr (Or.inr (Or.inr (Or.inl rfl)))) (fun h => by omega) (fun h => by omega) ht
          ⟨hN, Nat.lt_succ_self _, hso, by simp (disch := omega) only [up2_s, up1_s, up1_n], by simp (disch := omega) only [up2_s, up1_s, up1_n], by simp (disch := omega) only [up2_s, up1_s, up1_n], by simp (disch := omega) only [up2_s, up1_s, up1_n, if_false, Nat.reduceLeDiff]; rfl, fun h => by omega, fun h => by omega, fun h => by omega, fun h => by simp (disch := omega) only [up2_s, up1_s, up1_n]; rfl, fun a p ha hp h => by
            rw [up1_n _ _ (by omega)] at h
            have := ((hQ.2.1 a ha).2.2.2.2.2.1 p hp).2.1
            omega⟩
      refine ⟨H', ?_, q1, Or.inr ⟨q2, by omega, q3⟩⟩
      simp (disch := omega) only [ne_eq, Nat.not_lt_zero, Nat.zero_le, eq_self, not_true_eq_false, not_false_eq_true, decide_true, decide_false, Bool.not_true, Bool.not_false, Bool.true_and, Bool.false_and, Bool.and_true, Bool.and_false, Bool.or_true, Bool.true_or, Bool.false_or, Bool.or_false, Nat.beq_refl, bind_s, as_I, as_J, as_R, as_V, cnd_t, cnd_f, bz_ret, bzp_0, bzp_1, bzp_z0, bzp_z1, dec_bf, dec_bt, dec_nbf, dec_nbt, Bool.false_eq_true, Bool.true_eq_false, ret_0, ret_1, ret_z0, ret_z1, gc23 hC, kc4 hC, kc42 hC, kc8 hC, kc10 hC, kc11 hC, kc41 hC, nbeq_f, e15, e16, z3, hNw_e _ _ hN, gc23 hC1, up1_n, a2, kc42 hC1, e17, hso', e36, kc4 hC1, e21]