/-! StepsAhead: expression -/
theorem nwX_s {x : Nat → Nat} {w c a0 a1 a2 a3 a4 : Nat} {m : Nat → Int32} (q : Nat) (hq : q < 6) : up1 (up1 (up1 (up1 (up1 (up1 m 0 (zi c)) 1 (zi a0)) 2 (zi a1)) 3 (zi a2)) 4 (zi a3)) 5 (zi a4) q = zi (nwX x w c a0 a1 a2 a3 a4 (6 * w + q)) := by
  unfold nwX
  have h : q = 0 ∨ q = 1 ∨ q = 2 ∨ q = 3 ∨ q = 4 ∨ q = 5 := by omega
  rcases h with rfl | rfl | rfl | rfl | rfl | rfl <;> simp (disch := omega) only [up1_s, up1_n, Nat.add_zero]
theorem nwX_n {x : Nat → Nat} {w c a0 a1 a2 a3 a4 q : Nat} (hq : q < 6 * w ∨ 6 * w + 6 ≤ q) : nwX x w c a0 a1 a2 a3 a4 q = x q := by
  unfold nwX
  simp (disch := omega) only [up1_n]
theorem c12b {G : AG} (hG : FIX G) {s : Nat → Nat × Nat} {mr : Nat → Nat → Nat} (hC : CS s mr) {n : Nat × Nat} {ml : Nat → Nat → Int64} {mi : Nat → Nat → Int32} {x : Nat → Nat} (hx : clX x mi) {w c a0 a1 a2 a3 a4 : Nat} (hw : w < 2) : ∃ mi', G 12 51 [some (.inr (.inr 4)), some (.inl (zi w)), some (.inl (zi c)), some (.inl (zi a0)), some (.inl (zi a1)), some (.inl (zi a2)), some (.inl (zi a3)), some (.inl (zi a4)), none, none] [.inl (zi 1)] (s, n, mi, ml, mr) = some (some (.inl 1), (s, n, mi', ml, mr)) ∧ clX (nwX x w c a0 a1 a2 a3 a4) mi' ∧ (∀ a, a ≠ 6 → a ≠ 7 → mi' a = mi a) := by
  rw [b12_51 hG]
  have h01 : w = 0 ∨ w = 1 := by omega
  rcases h01 with rfl | rfl
  · refine ⟨up2 (up2 (up2 (up2 (up2 (up2 mi 6 0 (zi c)) 6 1 (zi a0)) 6 2 (zi a1)) 6 3 (zi a2)) 6 4 (zi a3)) 6 5 (zi a4), ?_, fun q hq => ⟨?_, ?_⟩, fun a h1 h2 => ?_⟩
    · simp (disch := omega) only [b12_50 hG, b12_51 hG, b12_67 hG, b12_85 hG, gc46 hC, ac7 hC, wc7 hC, lc7 hC, gc45 hC, ac6 hC, wc6 hC, lc6 hC, ne_eq, Nat.not_lt_zero, Nat.zero_le, eq_self, not_true_eq_false, not_false_eq_true, decide_true, decide_false, Bool.not_true, Bool.not_false, Bool.true_and, Bool.false_and, Bool.and_true, Bool.and_false, Bool.or_true, Bool.true_or, Bool.false_or, Bool.or_false, Nat.beq_refl, bind_s, as_I, as_J, as_R, as_V, cnd_t, cnd_f, bz_ret, bzp_0, bzp_1, bzp_z0, bzp_z1, dec_bf, dec_bt, dec_nbf, dec_nbt, Bool.false_eq_true, Bool.true_eq_false, ret_0, ret_1, ret_z0, ret_z1, zi_lit, zi_add, zi_mul, zi_lt, zi_le, zi_eq, zi_sub, Nat.reduceEqDiff]
    · simp only [up2_s]
      rw [nwX_s (x := x) (w := 0) q hq]
      simp only [Nat.mul_zero, Nat.zero_add]
    · simp (disch := omega) only [up2_n]
      rw [nwX_n (by omega)]; exact (hx q hq).2
    · simp (disch := omega) only [up2_n]
  · refine ⟨up2 (up2 (up2 (up2 (up2 (up2 mi 7 0 (zi c)) 7 1 (zi a0)) 7 2 (zi a1)) 7 3 (zi a2)) 7 4 (zi a3)) 7 5 (zi a4), ?_, fun q hq => ⟨?_, ?_⟩, fun a h1 h2 => ?_⟩
    · simp (disch := omega) only [b12_50 hG, b12_51 hG, b12_67 hG, b12_85 hG, gc46 hC, ac7 hC, wc7 hC, lc7 hC, gc45 hC, ac6 hC, wc6 hC, lc6 hC, ne_eq, Nat.not_lt_zero, Nat.zero_le, eq_self, not_true_eq_false, not_false_eq_true, decide_true, decide_false, Bool.not_true, Bool.not_false, Bool.true_and, Bool.false_and, Bool.and_true, Bool.and_false, Bool.or_true, Bool.true_or, Bool.false_or, Bool.or_false, Nat.beq_refl, bind_s, as_I, as_J, as_R, as_V, cnd_t, cnd_f, bz_ret, bzp_0, bzp_1, bzp_z0, bzp_z1, dec_bf, dec_bt, dec_nbf, dec_nbt, Bool.false_eq_true, Bool.true_eq_false, ret_0, ret_1, ret_z0, ret_z1, zi_lit, zi_add, zi_mul, zi_lt, zi_le, zi_eq, zi_sub, Nat.lt_irrefl, Nat.reduceEqDiff]
    · simp (disch := omega) only [up2_n]
      rw [nwX_n (by omega)]; exact (hx q hq).1
    · simp only [up2_s]
      rw [nwX_s (x := x) (w := 1) q hq]
    · simp (disch := omega) only [up2_n]
theorem c12 {G : AG} (hG : FIX G) {s : Nat → Nat × Nat} {mr : Nat → Nat → Nat} (hC : CS s mr) {n : Nat × Nat} {ml : Nat → Nat → Int64} {mi : Nat → Nat → Int32} {x : Nat → Nat} (hx : clX x mi) (w c a0 a1 a2 a3 a4 : Int32) : ∃ mi', G 12 0 [some (.inr (.inr 4)), some (.inl w), some (.inl c), some (.inl a0), some (.inl a1), some (.inl a2), some (.inl a3), some (.inl a4), none, none] [] (s, n, mi, ml, mr) = some (some (.inl (opX x w c a0 a1 a2 a3 a4).1), (s, n, mi', ml, mr)) ∧ clX (opX x w c a0 a1 a2 a3 a4).2 mi' ∧ (∀ a, a ≠ 6 → a ≠ 7 → mi' a = mi a) := by
  have bad : ∀ (b : Bool) (H : Hp), (b = false ∨ isN w 2 = false) → G 12 51 [some (.inr (.inr 4)), some (.inl w), some (.inl c), some (.inl a0), some (.inl a1), some (.inl a2), some (.inl a3), some (.inl a4), none, none] [.inl (bz b)] H = some (some (.inl (-1000001)), H) := by
    intro b H hb
    rw [b12_51 hG]
    by_cases h0 : w < 0
    · simp only [ne_eq, Nat.not_lt_zero, Nat.zero_le, eq_self, not_true_eq_false, not_false_eq_true, decide_true, decide_false, Bool.not_true, Bool.not_false, Bool.true_and, Bool.false_and, Bool.and_true, Bool.and_false, Bool.or_true, Bool.true_or, Bool.false_or, Bool.or_false, Nat.beq_refl, bind_s, as_I, as_J, as_R, as_V, cnd_t, cnd_f, bz_ret, bzp_0, bzp_1, bzp_z0, bzp_z1, dec_bf, dec_bt, dec_nbf, dec_nbt, Bool.false_eq_true, Bool.true_eq_false, ret_0, ret_1, ret_z0, ret_z1, b12_50 hG, b12_51 hG, b12_67 hG, b12_85 hG, decide_eq_true h0]
    · obtain ⟨j, hj, rfl⟩ := zi_of (Int32.not_lt.mp h0)
      by_cases h1 : 1 < j
      · simp (disch := omega) only [ne_eq, Nat.not_lt_zero, Nat.zero_le, eq_self, not_true_eq_false, not_false_eq_true, decide_true, decide_false, Bool.not_true, Bool.not_false, Bool.true_and, Bool.false_and, Bool.and_true, Bool.and_false, Bool.or_true, Bool.true_or, Bool.false_or, Bool.or_false, Nat.beq_refl, bind_s, as_I, as_J, as_R, as_V, cnd_t, cnd_f, bz_ret, bzp_0, bzp_1, bzp_z0, bzp_z1, dec_bf, dec_bt, dec_nbf, dec_nbt, Bool.false_eq_true, Bool.true_eq_false, ret_0, ret_1, ret_z0, ret_z1, b12_50 hG, b12_51 hG, b12_67 hG, b12_85 hG, decide_eq_false h0, zi_lit, zi_lt, eq_true h1]
      · have hb2 : b = false := by
          rcases hb with h | h
          · exact h
          · rw [isN_zi hj] at h; have := of_decide_eq_false h; omega
        subst hb2
        simp (disch := omega) only [ne_eq, Nat.not_lt_zero, Nat.zero_le, eq_self, not_true_eq_false, not_false_eq_true, decide_true, decide_false, Bool.not_true, Bool.not_false, Bool.true_and, Bool.false_and, Bool.and_true, Bool.and_false, Bool.or_true, Bool.true_or, Bool.false_or, Bool.or_false, Nat.beq_refl, bind_s, as_I, as_J, as_R, as_V, cnd_t, cnd_f, bz_ret, bzp_0, bzp_1, bzp_z0, bzp_z1, dec_bf, dec_bt, dec_nbf, dec_nbt, Bool.false_eq_true, Bool.true_eq_false, ret_0, ret_1, ret_z0, ret_z1, b12_50 hG, b12_51 hG, b12_67 hG, b12_85 hG, decide_eq_false h0, bz_n0, zi_lit, zi_lt, eq_false h1]
  have bad0 : ∀ H : Hp, G 12 50 [some (.inr (.inr 4)), some (.inl w), some (.inl c), some (.inl a0), some (.inl a1), some (.inl a2), some (.inl a3), some (.inl a4), none, none] [] H = some (some (.inl (-1000001)), H) := fun H => (b12_50 hG ..).trans (bad false H (Or.inl rfl))
  rw [b12_0 hG]
  simp only [ne_eq, Nat.not_lt_zero, Nat.zero_le, eq_self, not_true_eq_false, not_false_eq_true, decide_true, decide_false, Bool.not_true, Bool.not_false, Bool.true_and, Bool.false_and, Bool.and_true, Bool.and_false, Bool.or_true, Bool.true_or, Bool.false_or, Bool.or_false, Nat.beq_refl, bind_s, as_I, as_J, as_R, as_V, cnd_t, cnd_f, bz_ret, bzp_0, bzp_1, bzp_z0, bzp_z1, dec_bf, dec_bt, dec_nbf, dec_nbt, Bool.false_eq_true, Bool.true_eq_false, ret_0, ret_1, ret_z0, ret_z1, c13 hG]
  unfold opX okX
  cases h1 : isN c 3
  · simp only [ne_eq, Nat.not_lt_zero, Nat.zero_le, eq_self, not_true_eq_false, not_false_eq_true, decide_true, decide_false, Bool.not_true, Bool.not_false, Bool.true_and, Bool.false_and, Bool.and_true, Bool.and_false, Bool.or_true, Bool.true_or, Bool.false_or, Bool.or_false, Nat.beq_refl, bind_s, as_I, as_J, as_R, as_V, cnd_t, cnd_f, bz_ret, bzp_0, bzp_1, bzp_z0, bzp_z1, dec_bf, dec_bt, dec_nbf, dec_nbt, Bool.false_eq_true, Bool.true_eq_false, ret_0, ret_1, ret_z0, ret_z1, bad0]; exact ⟨mi, rfl, hx, fun _ _ _ => rfl⟩
  cases h2 : isN a0 3
  · simp only [ne_eq, Nat.not_lt_zero, Nat.zero_le, eq_self, not_true_eq_false, not_false_eq_true, decide_true, decide_false, Bool.not_true, Bool.not_false, Bool.true_and, Bool.false_and, Bool.and_true, Bool.and_false, Bool.or_true, Bool.true_or, Bool.false_or, Bool.or_false, Nat.beq_refl, bind_s, as_I, as_J, as_R, as_V, cnd_t, cnd_f, bz_ret, bzp_0, bzp_1, bzp_z0, bzp_z1, dec_bf, dec_bt, dec_nbf, dec_nbt, Bool.false_eq_true, Bool.true_eq_false, ret_0, ret_1, ret_z0, ret_z1, bad0]; exact ⟨mi, rfl, hx, fun _ _ _ => rfl⟩
  cases h3 : isN a1 3
  · simp only [ne_eq, Nat.not_lt_zero, Nat.zero_le, eq_self, not_true_eq_false, not_false_eq_true, decide_true, decide_false, Bool.not_true, Bool.not_false, Bool.true_and, Bool.false_and, Bool.and_true, Bool.and_false, Bool.or_true, Bool.true_or, Bool.false_or, Bool.or_false, Nat.beq_refl, bind_s, as_I, as_J, as_R, as_V, cnd_t, cnd_f, bz_ret, bzp_0, bzp_1, bzp_z0, bzp_z1, dec_bf, dec_bt, dec_nbf, dec_nbt, Bool.false_eq_true, Bool.true_eq_false, ret_0, ret_1, ret_z0, ret_z1, bad0]; exact ⟨mi, rfl, hx, fun _ _ _ => rfl⟩
  cases h4 : isN a2 3
  · simp only [ne_eq, Nat.not_lt_zero, Nat.zero_le, eq_self, not_true_eq_false, not_false_eq_true, decide_true, decide_false, Bool.not_true, Bool.not_false, Bool.true_and, Bool.false_and, Bool.and_true, Bool.and_false, Bool.or_true, Bool.true_or, Bool.false_or, Bool.or_false, Nat.beq_refl, bind_s, as_I, as_J, as_R, as_V, cnd_t, cnd_f, bz_ret, bzp_0, bzp_1, bzp_z0, bzp_z1, dec_bf, dec_bt, dec_nbf, dec_nbt, Bool.false_eq_true, Bool.true_eq_false, ret_0, ret_1, ret_z0, ret_z1, bad0]; exact ⟨mi, rfl, hx, fun _ _ _ => rfl⟩
  cases h5 : isN a3 3
  · simp only [ne_eq, Nat.not_lt_zero, Nat.zero_le, eq_self, not_true_eq_false, not_false_eq_true, decide_true, decide_false, Bool.not_true, Bool.not_false, Bool.true_and, Bool.false_and, Bool.and_true, Bool.and_false, Bool.or_true, Bool.true_or, Bool.false_or, Bool.or_false, Nat.beq_refl, bind_s, as_I, as_J, as_R, as_V, cnd_t, cnd_f, bz_ret, bzp_0, bzp_1, bzp_z0, bzp_z1, dec_bf, dec_bt, dec_nbf, dec_nbt, Bool.false_eq_true, Bool.true_eq_false, ret_0, ret_1, ret_z0, ret_z1, bad0]; exact ⟨mi, rfl, hx, fun _ _ _ => rfl⟩
  cases h6 : isN a4 3
  · simp only [ne_eq, Nat.not_lt_zero, Nat.zero_le, eq_self, not_true_eq_false, not_false_eq_true, decide_true, decide_false, Bool.not_true, Bool.not_false, Bool.true_and, Bool.false_and, Bool.and_true, Bool.and_false, Bool.or_true, Bool.true_or, Bool.false_or, Bool.or_false, Nat.beq_refl, bind_s, as_I, as_J, as_R, as_V, cnd_t, cnd_f, bz_ret, bzp_0, bzp_1, bzp_z0, bzp_z1, dec_bf, dec_bt, dec_nbf, dec_nbt, Bool.false_eq_true, Bool.true_eq_false, ret_0, ret_1, ret_z0, ret_z1, bad0]; exact ⟨mi, rfl, hx, fun _ _ _ => rfl⟩
  cases h0 : isN w 2
  · simp only [ne_eq, Nat.not_lt_zero, Nat.zero_le, eq_self, not_true_eq_false, not_false_eq_true, decide_true, decide_false, Bool.not_true, Bool.not_false, Bool.true_and, Bool.false_and, Bool.and_true, Bool.and_false, Bool.or_true, Bool.true_or, Bool.false_or, Bool.or_false, Nat.beq_refl, bind_s, as_I, as_J, as_R, as_V, cnd_t, cnd_f, bz_ret, bzp_0, bzp_1, bzp_z0, bzp_z1, dec_bf, dec_bt, dec_nbf, dec_nbt, Bool.false_eq_true, Bool.true_eq_false, ret_0, ret_1, ret_z0, ret_z1]
    refine ⟨mi, ?_, hx, fun _ _ _ => rfl⟩
    exact bad true _ (Or.inr h0)
  obtain ⟨w, hw, hw2, rfl⟩ := isN_t h0
  obtain ⟨c, hc, hc2, rfl⟩ := isN_t h1
  obtain ⟨a0, ha0, ha02, rfl⟩ := isN_t h2
  obtain ⟨a1, ha1, ha12, rfl⟩ := isN_t h3
  obtain ⟨a2, ha2, ha22, rfl⟩ := isN_t h4
  obtain ⟨a3, ha3, ha32, rfl⟩ := isN_t h5
  obtain ⟨a4, ha4, ha42, rfl⟩ := isN_t h6
  obtain ⟨mi', e, q1, q2⟩ := c12b hG hC (n := n) (ml := ml) hx (c := c) (a0 := a0) (a1 := a1) (a2 := a2) (a3 := a3) (a4 := a4) hw
  refine ⟨mi', ?_, ?_, q2⟩
  · simp only [ne_eq, Nat.not_lt_zero, Nat.zero_le, eq_self, not_true_eq_false, not_false_eq_true, decide_true, decide_false, Bool.not_true, Bool.not_false, Bool.true_and, Bool.false_and, Bool.and_true, Bool.and_false, Bool.or_true, Bool.true_or, Bool.false_or, Bool.or_false, Nat.beq_refl, bind_s, as_I, as_J, as_R, as_V, cnd_t, cnd_f, bz_ret, bzp_0, bzp_1, bzp_z0, bzp_z1, dec_bf, dec_bt, dec_nbf, dec_nbt, Bool.false_eq_true, Bool.true_eq_false, ret_0, ret_1, ret_z0, ret_z1]; exact e
  · simp (disch := omega) only [ne_eq, Nat.not_lt_zero, Nat.zero_le, eq_self, not_true_eq_false, not_false_eq_true, decide_true, decide_false, Bool.not_true, Bool.not_false, Bool.true_and, Bool.false_and, Bool.and_true, Bool.and_false, Bool.or_true, Bool.true_or, Bool.false_or, Bool.or_false, Nat.beq_refl, bind_s, as_I, as_J, as_R, as_V, cnd_t, cnd_f, bz_ret, bzp_0, bzp_1, bzp_z0, bzp_z1, dec_bf, dec_bt, dec_nbf, dec_nbt, Bool.false_eq_true, Bool.true_eq_false, ret_0, ret_1, ret_z0, ret_z1, zi_cl]; exact q1