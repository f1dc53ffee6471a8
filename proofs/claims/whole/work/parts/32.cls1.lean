/-! StepsAhead: what ops are asked -/
def clT (t : Nat × (Nat → Int32)) (mi : Nat → Nat → Int32) : Prop := t.1 ≤ 16 ∧ mi 8 41 = zi t.1 ∧ ∀ i, i < t.1 → mi 9 i = t.2 i
def clX (x : Nat → Nat) (mi : Nat → Nat → Int32) : Prop := ∀ q, q < 6 → mi 6 q = zi (x q) ∧ mi 7 q = zi (x (6 + q))
/-- the trace alone has changed -/
def CTr (mi mi' : Nat → Nat → Int32) : Prop := (∀ a, a ≠ 8 → a ≠ 9 → mi' a = mi a) ∧ (∀ f, f ≠ 41 → mi' 8 f = mi 8 f)
theorem CTr_trans {a b c} (h : CTr a b) (h' : CTr b c) : CTr a c := ⟨fun x h1 h2 => (h'.1 x h1 h2).trans (h.1 x h1 h2), fun x h1 => (h'.2 x h1).trans (h.2 x h1)⟩
theorem c45_t {G : AG} (hG : FIX G) {s : Nat → Nat × Nat} {mr : Nat → Nat → Nat} (hC : CS s mr) {n : Nat × Nat} {mi : Nat → Nat → Int32} {ml : Nat → Nat → Int64} {Q : Pg} {N r p : Nat} (hQ : CQ Q N s mi mr) (hW : WP Q) (hr : r < qc Q) (hp : p < qn Q r) : G 45 0 [some (.inr (.inr 4)), some (.inl (zi r)), some (.inl (zi p)), none] [] (s, n, mi, ml, mr) = some (some (.inr (.inr (mr (43 + 9 * r) p))), (s, n, mi, ml, mr)) := by
  have h8 := hW.1
  have h24 := hW.2.1 r
  have h23 := (hQ.2.1 r (by omega)).2.1
  rw [b45_0 hG]
  simp (disch := omega) only [b45_19 hG, kc4 hC, kc42 hC, kc8 hC, kc10 hC, kc11 hC, kc41 hC, nbeq_f, ne_eq, Nat.not_lt_zero, Nat.zero_le, eq_self, not_true_eq_false, not_false_eq_true, decide_true, decide_false, Bool.not_true, Bool.not_false, Bool.true_and, Bool.false_and, Bool.and_true, Bool.and_false, Bool.or_true, Bool.true_or, Bool.false_or, Bool.or_false, Nat.beq_refl, bind_s, as_I, as_J, as_R, as_V, cnd_t, cnd_f, bz_ret, bzp_0, bzp_1, bzp_z0, bzp_z1, dec_bf, dec_bt, dec_nbf, dec_nbt, Bool.false_eq_true, Bool.true_eq_false, ret_0, ret_1, ret_z0, ret_z1, c15_t hG hC hQ.1 h8 hr, c18_t hG hC (by omega : r < 8) h23 h24 hp]
theorem c45_f {G : AG} (hG : FIX G) {s : Nat → Nat × Nat} {mr : Nat → Nat → Nat} (hC : CS s mr) {n : Nat × Nat} {mi : Nat → Nat → Int32} {ml : Nat → Nat → Int64} {Q : Pg} {N : Nat} {x y : Int32} (hQ : CQ Q N s mi mr) (hW : WP Q) (h : opq Q x y = false) : ∃ z, G 45 0 [some (.inr (.inr 4)), some (.inl x), some (.inl y), none] [] (s, n, mi, ml, mr) = some (some (.inr (.inr 0)), z) ∧ z = (s, n, mi, ml, mr) := by
  have h8 := hW.1
  refine ⟨_, ?_, rfl⟩
  rw [b45_0 hG]
  unfold opq at h
  cases h1 : isN x (qc Q)
  · simp (disch := omega) only [b45_19 hG, kc4 hC, kc42 hC, kc8 hC, kc10 hC, kc11 hC, kc41 hC, nbeq_f, ne_eq, Nat.not_lt_zero, Nat.zero_le, eq_self, not_true_eq_false, not_false_eq_true, decide_true, decide_false, Bool.not_true, Bool.not_false, Bool.true_and, Bool.false_and, Bool.and_true, Bool.and_false, Bool.or_true, Bool.true_or, Bool.false_or, Bool.or_false, Nat.beq_refl, bind_s, as_I, as_J, as_R, as_V, cnd_t, cnd_f, bz_ret, bzp_0, bzp_1, bzp_z0, bzp_z1, dec_bf, dec_bt, dec_nbf, dec_nbt, Bool.false_eq_true, Bool.true_eq_false, ret_0, ret_1, ret_z0, ret_z1, c15_f hG hC hQ.1 h8 h1]
  · rw [h1, Bool.true_and] at h
    obtain ⟨r, hr, hr2, rfl⟩ := isN_t h1
    rw [zi_cl hr2] at h
    have h24 := hW.2.1 r
    have h23 := (hQ.2.1 r (by omega)).2.1
    simp (disch := omega) only [b45_19 hG, kc4 hC, kc42 hC, kc8 hC, kc10 hC, kc11 hC, kc41 hC, nbeq_f, ne_eq, Nat.not_lt_zero, Nat.zero_le, eq_self, not_true_eq_false, not_false_eq_true, decide_true, decide_false, Bool.not_true, Bool.not_false, Bool.true_and, Bool.false_and, Bool.and_true, Bool.and_false, Bool.or_true, Bool.true_or, Bool.false_or, Bool.or_false, Nat.beq_refl, bind_s, as_I, as_J, as_R, as_V, cnd_t, cnd_f, bz_ret, bzp_0, bzp_1, bzp_z0, bzp_z1, dec_bf, dec_bt, dec_nbf, dec_nbt, Bool.false_eq_true, Bool.true_eq_false, ret_0, ret_1, ret_z0, ret_z1, c15_t hG hC hQ.1 h8 hr, c18_f hG hC (by omega : r < 8) h23 h24 h]
theorem c44 {G : AG} (hG : FIX G) {s : Nat → Nat × Nat} {mr : Nat → Nat → Nat} (hC : CS s mr) {n : Nat × Nat} {mi : Nat → Nat → Int32} {ml : Nat → Nat → Int64} {Q : Pg} {N : Nat} (hQ : CQ Q N s mi mr) (hW : WP Q) (x y : Int32) : G 44 0 [some (.inr (.inr 4)), some (.inl x), some (.inl y), none] [] (s, n, mi, ml, mr) = some (some (.inl (rKind Q x y)), (s, n, mi, ml, mr)) := by
  have h8 := hW.1
  rw [b44_0 hG]
  unfold rKind
  cases h : opq Q x y
  · obtain ⟨z, e, rfl⟩ := c45_f hG hC (n := n) (ml := ml) hQ hW h
    simp (disch := omega) only [b44_20 hG, kc4 hC, kc42 hC, kc8 hC, kc10 hC, kc11 hC, kc41 hC, nbeq_f, ne_eq, Nat.not_lt_zero, Nat.zero_le, eq_self, not_true_eq_false, not_false_eq_true, decide_true, decide_false, Bool.not_true, Bool.not_false, Bool.true_and, Bool.false_and, Bool.and_true, Bool.and_false, Bool.or_true, Bool.true_or, Bool.false_or, Bool.or_false, Nat.beq_refl, bind_s, as_I, as_J, as_R, as_V, cnd_t, cnd_f, bz_ret, bzp_0, bzp_1, bzp_z0, bzp_z1, dec_bf, dec_bt, dec_nbf, dec_nbt, Bool.false_eq_true, Bool.true_eq_false, ret_0, ret_1, ret_z0, ret_z1, e]
  · unfold opq at h
    rw [Bool.and_eq_true] at h
    obtain ⟨r, hr, hr2, rfl⟩ := isN_t h.1
    have h2 := h.2
    rw [zi_cl hr2] at h2
    obtain ⟨p, hp, hp2, rfl⟩ := isN_t h2
    have hO := (hQ.2.1 r (by omega)).2.2.2.2.2.1 p hp
    have ho := hO.1
    simp (disch := omega) only [b44_20 hG, kc4 hC, kc42 hC, kc8 hC, kc10 hC, kc11 hC, kc41 hC, nbeq_f, ne_eq, Nat.not_lt_zero, Nat.zero_le, eq_self, not_true_eq_false, not_false_eq_true, decide_true, decide_false, Bool.not_true, Bool.not_false, Bool.true_and, Bool.false_and, Bool.and_true, Bool.and_false, Bool.or_true, Bool.true_or, Bool.false_or, Bool.or_false, Nat.beq_refl, bind_s, as_I, as_J, as_R, as_V, cnd_t, cnd_f, bz_ret, bzp_0, bzp_1, bzp_z0, bzp_z1, dec_bf, dec_bt, dec_nbf, dec_nbt, Bool.false_eq_true, Bool.true_eq_false, ret_0, ret_1, ret_z0, ret_z1, zi_cl, c45_t hG hC hQ hW hr hp, opF1 hO.2.2.1, hO.2.2.2.1]
theorem c48 {G : AG} (hG : FIX G) {s : Nat → Nat × Nat} {mr : Nat → Nat → Nat} {n : Nat × Nat} {mi : Nat → Nat → Int32} {ml : Nat → Nat → Int64} {o k : Nat} (hs : s o = osh k) (h1 : mi o 1 = zi k) (x : Int32) : G 48 0 [some (.inr (.inr o)), some (.inl x)] [] (s, n, mi, ml, mr) = some (some (.inl (bz (decide (x = 0) || decide (x = zi k)))), (s, n, mi, ml, mr)) := by
  rw [b48_0 hG]
  by_cases h0 : x = 0
  · simp only [ne_eq, Nat.not_lt_zero, Nat.zero_le, eq_self, not_true_eq_false, not_false_eq_true, decide_true, decide_false, Bool.not_true, Bool.not_false, Bool.true_and, Bool.false_and, Bool.and_true, Bool.and_false, Bool.or_true, Bool.true_or, Bool.false_or, Bool.or_false, Nat.beq_refl, bind_s, as_I, as_J, as_R, as_V, cnd_t, cnd_f, bz_ret, bzp_0, bzp_1, bzp_z0, bzp_z1, dec_bf, dec_bt, dec_nbf, dec_nbt, Bool.false_eq_true, Bool.true_eq_false, ret_0, ret_1, ret_z0, ret_z1, b48_12 hG, b48_17 hG, decide_eq_true h0]
  · by_cases h2 : x = zi k
    · simp only [ne_eq, Nat.not_lt_zero, Nat.zero_le, eq_self, not_true_eq_false, not_false_eq_true, decide_true, decide_false, Bool.not_true, Bool.not_false, Bool.true_and, Bool.false_and, Bool.and_true, Bool.and_false, Bool.or_true, Bool.true_or, Bool.false_or, Bool.or_false, Nat.beq_refl, bind_s, as_I, as_J, as_R, as_V, cnd_t, cnd_f, bz_ret, bzp_0, bzp_1, bzp_z0, bzp_z1, dec_bf, dec_bt, dec_nbf, dec_nbt, Bool.false_eq_true, Bool.true_eq_false, ret_0, ret_1, ret_z0, ret_z1, b48_12 hG, b48_17 hG, opF1 hs, h1, decide_eq_false h0, eq_true h2]
    · simp only [ne_eq, Nat.not_lt_zero, Nat.zero_le, eq_self, not_true_eq_false, not_false_eq_true, decide_true, decide_false, Bool.not_true, Bool.not_false, Bool.true_and, Bool.false_and, Bool.and_true, Bool.and_false, Bool.or_true, Bool.true_or, Bool.false_or, Bool.or_false, Nat.beq_refl, bind_s, as_I, as_J, as_R, as_V, cnd_t, cnd_f, bz_ret, bzp_0, bzp_1, bzp_z0, bzp_z1, dec_bf, dec_bt, dec_nbf, dec_nbt, Bool.false_eq_true, Bool.true_eq_false, ret_0, ret_1, ret_z0, ret_z1, b48_12 hG, b48_17 hG, opF1 hs, h1, decide_eq_false h0, eq_false h2]
theorem c47 {G : AG} (hG : FIX G) {s : Nat → Nat × Nat} {mr : Nat → Nat → Nat} {n : Nat × Nat} {mi : Nat → Nat → Int32} {ml : Nat → Nat → Int64} {o k : Nat} (hs : s o = osh k) (hk : k = 3 ∨ k = 4) (h1 : mi o 1 = zi k) (x : Int32) : G 47 0 [some (.inr (.inr o)), some (.inl x)] [] (s, n, mi, ml, mr) = some (some (.inl (bz (decide (x = 2) || (decide (x = 0) || decide (x = zi k))))), (s, n, mi, ml, mr)) := by
  rw [b47_0 hG]
  by_cases h0 : x = 2
  · simp only [ne_eq, Nat.not_lt_zero, Nat.zero_le, eq_self, not_true_eq_false, not_false_eq_true, decide_true, decide_false, Bool.not_true, Bool.not_false, Bool.true_and, Bool.false_and, Bool.and_true, Bool.and_false, Bool.or_true, Bool.true_or, Bool.false_or, Bool.or_false, Nat.beq_refl, bind_s, as_I, as_J, as_R, as_V, cnd_t, cnd_f, bz_ret, bzp_0, bzp_1, bzp_z0, bzp_z1, dec_bf, dec_bt, dec_nbf, dec_nbt, Bool.false_eq_true, Bool.true_eq_false, ret_0, ret_1, ret_z0, ret_z1, b47_13 hG, b47_18 hG, decide_eq_true h0]
  · have h48 := c48 hG (n := n) (ml := ml) (mr := mr) hs h1 x
    rcases hk with rfl | rfl
    · rw [osh_3] at hs
      simp only [ne_eq, Nat.not_lt_zero, Nat.zero_le, eq_self, not_true_eq_false, not_false_eq_true, decide_true, decide_false, Bool.not_true, Bool.not_false, Bool.true_and, Bool.false_and, Bool.and_true, Bool.and_false, Bool.or_true, Bool.true_or, Bool.false_or, Bool.or_false, Nat.beq_refl, bind_s, as_I, as_J, as_R, as_V, cnd_t, cnd_f, bz_ret, bzp_0, bzp_1, bzp_z0, bzp_z1, dec_bf, dec_bt, dec_nbf, dec_nbt, Bool.false_eq_true, Bool.true_eq_false, ret_0, ret_1, ret_z0, ret_z1, slk, padA, List.any_cons, List.any_nil, nbeq_f, if_true, if_false, Nat.reduceEqDiff, hs, h48, decide_eq_false h0]
      cases decide (x = 0) || decide (x = zi 3) <;> simp only [ne_eq, Nat.not_lt_zero, Nat.zero_le, eq_self, not_true_eq_false, not_false_eq_true, decide_true, decide_false, Bool.not_true, Bool.not_false, Bool.true_and, Bool.false_and, Bool.and_true, Bool.and_false, Bool.or_true, Bool.true_or, Bool.false_or, Bool.or_false, Nat.beq_refl, bind_s, as_I, as_J, as_R, as_V, cnd_t, cnd_f, bz_ret, bzp_0, bzp_1, bzp_z0, bzp_z1, dec_bf, dec_bt, dec_nbf, dec_nbt, Bool.false_eq_true, Bool.true_eq_false, ret_0, ret_1, ret_z0, ret_z1, b47_13 hG, b47_18 hG]
    · rw [osh_4] at hs
      simp only [ne_eq, Nat.not_lt_zero, Nat.zero_le, eq_self, not_true_eq_false, not_false_eq_true, decide_true, decide_false, Bool.not_true, Bool.not_false, Bool.true_and, Bool.false_and, Bool.and_true, Bool.and_false, Bool.or_true, Bool.true_or, Bool.false_or, Bool.or_false, Nat.beq_refl, bind_s, as_I, as_J, as_R, as_V, cnd_t, cnd_f, bz_ret, bzp_0, bzp_1, bzp_z0, bzp_z1, dec_bf, dec_bt, dec_nbf, dec_nbt, Bool.false_eq_true, Bool.true_eq_false, ret_0, ret_1, ret_z0, ret_z1, slk, padA, List.any_cons, List.any_nil, nbeq_f, if_true, if_false, Nat.reduceEqDiff, hs, h48, decide_eq_false h0]
      cases decide (x = 0) || decide (x = zi 4) <;> simp only [ne_eq, Nat.not_lt_zero, Nat.zero_le, eq_self, not_true_eq_false, not_false_eq_true, decide_true, decide_false, Bool.not_true, Bool.not_false, Bool.true_and, Bool.false_and, Bool.and_true, Bool.and_false, Bool.or_true, Bool.true_or, Bool.false_or, Bool.or_false, Nat.beq_refl, bind_s, as_I, as_J, as_R, as_V, cnd_t, cnd_f, bz_ret, bzp_0, bzp_1, bzp_z0, bzp_z1, dec_bf, dec_bt, dec_nbf, dec_nbt, Bool.false_eq_true, Bool.true_eq_false, ret_0, ret_1, ret_z0, ret_z1, b47_13 hG, b47_18 hG]
theorem c46 {G : AG} (hG : FIX G) {s : Nat → Nat × Nat} {mr : Nat → Nat → Nat} (hC : CS s mr) {n : Nat × Nat} {mi : Nat → Nat → Int32} {ml : Nat → Nat → Int64} {Q : Pg} {N : Nat} (hQ : CQ Q N s mi mr) (hW : WP Q) (x y k : Int32) : G 46 0 [some (.inr (.inr 4)), some (.inl x), some (.inl y), some (.inl k), none] [] (s, n, mi, ml, mr) = some (some (.inl (rIs Q x y k)), (s, n, mi, ml, mr)) := by
  have h8 := hW.1
  rw [b46_0 hG]
  unfold rIs
  cases h : opq Q x y
  · obtain ⟨z, e, rfl⟩ := c45_f hG hC (n := n) (ml := ml) hQ hW h
    simp (disch := omega) only [b46_23 hG, b46_40 hG, kc4 hC, kc42 hC, kc8 hC, kc10 hC, kc11 hC, kc41 hC, nbeq_f, ne_eq, Nat.not_lt_zero, Nat.zero_le, eq_self, not_true_eq_false, not_false_eq_true, decide_true, decide_false, Bool.not_true, Bool.not_false, Bool.true_and, Bool.false_and, Bool.and_true, Bool.and_false, Bool.or_true, Bool.true_or, Bool.false_or, Bool.or_false, Nat.beq_refl, bind_s, as_I, as_J, as_R, as_V, cnd_t, cnd_f, bz_ret, bzp_0, bzp_1, bzp_z0, bzp_z1, dec_bf, dec_bt, dec_nbf, dec_nbt, Bool.false_eq_true, Bool.true_eq_false, ret_0, ret_1, ret_z0, ret_z1, e]
  · unfold opq at h
    rw [Bool.and_eq_true] at h
    obtain ⟨r, hr, hr2, rfl⟩ := isN_t h.1
    have h2 := h.2
    rw [zi_cl hr2] at h2
    obtain ⟨p, hp, hp2, rfl⟩ := isN_t h2
    have hO := (hQ.2.1 r (by omega)).2.2.2.2.2.1 p hp
    have ho := hO.1
    have hs := hO.2.2.1
    have h1 := hO.2.2.2.1
    simp (disch := omega) only [b46_23 hG, b46_40 hG, kc4 hC, kc42 hC, kc8 hC, kc10 hC, kc11 hC, kc41 hC, nbeq_f, ne_eq, Nat.not_lt_zero, Nat.zero_le, eq_self, not_true_eq_false, not_false_eq_true, decide_true, decide_false, Bool.not_true, Bool.not_false, Bool.true_and, Bool.false_and, Bool.and_true, Bool.and_false, Bool.or_true, Bool.true_or, Bool.false_or, Bool.or_false, Nat.beq_refl, bind_s, as_I, as_J, as_R, as_V, cnd_t, cnd_f, bz_ret, bzp_0, bzp_1, bzp_z0, bzp_z1, dec_bf, dec_bt, dec_nbf, dec_nbt, Bool.false_eq_true, Bool.true_eq_false, ret_0, ret_1, ret_z0, ret_z1, zi_cl, c45_t hG hC hQ hW hr hp]
    cases h3 : isN k 9
    · by_cases h0 : k < 0
      · simp only [ne_eq, Nat.not_lt_zero, Nat.zero_le, eq_self, not_true_eq_false, not_false_eq_true, decide_true, decide_false, Bool.not_true, Bool.not_false, Bool.true_and, Bool.false_and, Bool.and_true, Bool.and_false, Bool.or_true, Bool.true_or, Bool.false_or, Bool.or_false, Nat.beq_refl, bind_s, as_I, as_J, as_R, as_V, cnd_t, cnd_f, bz_ret, bzp_0, bzp_1, bzp_z0, bzp_z1, dec_bf, dec_bt, dec_nbf, dec_nbt, Bool.false_eq_true, Bool.true_eq_false, ret_0, ret_1, ret_z0, ret_z1, decide_eq_true h0]
      · obtain ⟨j, hj, rfl⟩ := zi_of (Int32.not_lt.mp h0)
        rw [isN_zi hj] at h3
        have h9 : 9 ≤ j := by have := of_decide_eq_false h3; omega
        simp (disch := omega) only [ne_eq, Nat.not_lt_zero, Nat.zero_le, eq_self, not_true_eq_false, not_false_eq_true, decide_true, decide_false, Bool.not_true, Bool.not_false, Bool.true_and, Bool.false_and, Bool.and_true, Bool.and_false, Bool.or_true, Bool.true_or, Bool.false_or, Bool.or_false, Nat.beq_refl, bind_s, as_I, as_J, as_R, as_V, cnd_t, cnd_f, bz_ret, bzp_0, bzp_1, bzp_z0, bzp_z1, dec_bf, dec_bt, dec_nbf, dec_nbt, Bool.false_eq_true, Bool.true_eq_false, ret_0, ret_1, ret_z0, ret_z1, decide_eq_false h0, zi_lit, zi_add, zi_mul, zi_lt, zi_le, zi_eq, zi_sub, eq_false (by omega : ¬ j ≤ 8)]
    · obtain ⟨j, hj, hj2, rfl⟩ := isN_t h3
      have h0 : ¬ zi j < 0 := Int32.not_lt.mpr (zi_ge0 hj2)
      have hj8 : decide (zi j ≤ 8) = true := decide_eq_true (by show zi j ≤ zi 8; rw [zi_le hj2 (by decide)]; omega)
      simp only [ne_eq, Nat.not_lt_zero, Nat.zero_le, eq_self, not_true_eq_false, not_false_eq_true, decide_true, decide_false, Bool.not_true, Bool.not_false, Bool.true_and, Bool.false_and, Bool.and_true, Bool.and_false, Bool.or_true, Bool.true_or, Bool.false_or, Bool.or_false, Nat.beq_refl, bind_s, as_I, as_J, as_R, as_V, cnd_t, cnd_f, bz_ret, bzp_0, bzp_1, bzp_z0, bzp_z1, dec_bf, dec_bt, dec_nbf, dec_nbt, Bool.false_eq_true, Bool.true_eq_false, ret_0, ret_1, ret_z0, ret_z1, decide_eq_false h0, hj8]
      rcases kle (hW.2.2.2.1 r) hp with h | h | h | h | h | h | h
      case inr.inl =>
        rw [h] at hs h1
        have h47 := c47 hG (n := n) (ml := ml) (mr := mr) hs (Or.inl rfl) h1 (zi j)
        rw [osh_3] at hs
        simp only [ne_eq, Nat.not_lt_zero, Nat.zero_le, eq_self, not_true_eq_false, not_false_eq_true, decide_true, decide_false, Bool.not_true, Bool.not_false, Bool.true_and, Bool.false_and, Bool.and_true, Bool.and_false, Bool.or_true, Bool.true_or, Bool.false_or, Bool.or_false, Nat.beq_refl, bind_s, as_I, as_J, as_R, as_V, cnd_t, cnd_f, bz_ret, bzp_0, bzp_1, bzp_z0, bzp_z1, dec_bf, dec_bt, dec_nbf, dec_nbt, Bool.false_eq_true, Bool.true_eq_false, ret_0, ret_1, ret_z0, ret_z1, slk, padA, List.any_cons, List.any_nil, nbeq_f, if_true, if_false, Nat.reduceEqDiff, hs, h47, h]
        rw [show decide (zi 3 = zi j) = decide (zi j = zi 3) from decide_eq_decide.mpr eq_comm]
        cases decide (zi j = 2) <;> cases decide (zi j = 0) <;> cases decide (zi j = zi 3) <;> simp only [ne_eq, Nat.not_lt_zero, Nat.zero_le, eq_self, not_true_eq_false, not_false_eq_true, decide_true, decide_false, Bool.not_true, Bool.not_false, Bool.true_and, Bool.false_and, Bool.and_true, Bool.and_false, Bool.or_true, Bool.true_or, Bool.false_or, Bool.or_false, Nat.beq_refl, bind_s, as_I, as_J, as_R, as_V, cnd_t, cnd_f, bz_ret, bzp_0, bzp_1, bzp_z0, bzp_z1, dec_bf, dec_bt, dec_nbf, dec_nbt, Bool.false_eq_true, Bool.true_eq_false, ret_0, ret_1, ret_z0, ret_z1, b46_23 hG, b46_40 hG]
      case inr.inr.inl =>
        rw [h] at hs h1
        have h47 := c47 hG (n := n) (ml := ml) (mr := mr) hs (Or.inr rfl) h1 (zi j)
        rw [osh_4] at hs
        simp only [ne_eq, Nat.not_lt_zero, Nat.zero_le, eq_self, not_true_eq_false, not_false_eq_true, decide_true, decide_false, Bool.not_true, Bool.not_false, Bool.true_and, Bool.false_and, Bool.and_true, Bool.and_false, Bool.or_true, Bool.true_or, Bool.false_or, Bool.or_false, Nat.beq_refl, bind_s, as_I, as_J, as_R, as_V, cnd_t, cnd_f, bz_ret, bzp_0, bzp_1, bzp_z0, bzp_z1, dec_bf, dec_bt, dec_nbf, dec_nbt, Bool.false_eq_true, Bool.true_eq_false, ret_0, ret_1, ret_z0, ret_z1, slk, padA, List.any_cons, List.any_nil, nbeq_f, if_true, if_false, Nat.reduceEqDiff, hs, h47, h]
        rw [show decide (zi 4 = zi j) = decide (zi j = zi 4) from decide_eq_decide.mpr eq_comm]
        cases decide (zi j = 2) <;> cases decide (zi j = 0) <;> cases decide (zi j = zi 4) <;> simp only [ne_eq, Nat.not_lt_zero, Nat.zero_le, eq_self, not_true_eq_false, not_false_eq_true, decide_true, decide_false, Bool.not_true, Bool.not_false, Bool.true_and, Bool.false_and, Bool.and_true, Bool.and_false, Bool.or_true, Bool.true_or, Bool.false_or, Bool.or_false, Nat.beq_refl, bind_s, as_I, as_J, as_R, as_V, cnd_t, cnd_f, bz_ret, bzp_0, bzp_1, bzp_z0, bzp_z1, dec_bf, dec_bt, dec_nbf, dec_nbt, Bool.false_eq_true, Bool.true_eq_false, ret_0, ret_1, ret_z0, ret_z1, b46_23 hG, b46_40 hG]
      all_goals
        rw [h] at hs h1
        have h48 := c48 hG (n := n) (ml := ml) (mr := mr) hs h1 (zi j)
        simp only [osh_1, osh_5, osh_6 (Nat.le_refl 6), osh_6 (by decide : 6 ≤ 7), osh_6 (by decide : 6 ≤ 8)] at hs
        simp only [ne_eq, Nat.not_lt_zero, Nat.zero_le, eq_self, not_true_eq_false, not_false_eq_true, decide_true, decide_false, Bool.not_true, Bool.not_false, Bool.true_and, Bool.false_and, Bool.and_true, Bool.and_false, Bool.or_true, Bool.true_or, Bool.false_or, Bool.or_false, Nat.beq_refl, bind_s, as_I, as_J, as_R, as_V, cnd_t, cnd_f, bz_ret, bzp_0, bzp_1, bzp_z0, bzp_z1, dec_bf, dec_bt, dec_nbf, dec_nbt, Bool.false_eq_true, Bool.true_eq_false, ret_0, ret_1, ret_z0, ret_z1, slk, padA, List.any_cons, List.any_nil, nbeq_f, if_true, if_false, Nat.reduceEqDiff, hs, h48, h]
        rw [decide_eq_decide.mpr (eq_comm (a := zi _) (b := zi j))]
        cases decide (zi j = 0) <;> cases decide (zi j = zi _) <;> simp only [ne_eq, Nat.not_lt_zero, Nat.zero_le, eq_self, not_true_eq_false, not_false_eq_true, decide_true, decide_false, Bool.not_true, Bool.not_false, Bool.true_and, Bool.false_and, Bool.and_true, Bool.and_false, Bool.or_true, Bool.true_or, Bool.false_or, Bool.or_false, Nat.beq_refl, bind_s, as_I, as_J, as_R, as_V, cnd_t, cnd_f, bz_ret, bzp_0, bzp_1, bzp_z0, bzp_z1, dec_bf, dec_bt, dec_nbf, dec_nbt, Bool.false_eq_true, Bool.true_eq_false, ret_0, ret_1, ret_z0, ret_z1, b46_23 hG, b46_40 hG]
theorem c49 {G : AG} (hG : FIX G) {s : Nat → Nat × Nat} {mr : Nat → Nat → Nat} (hC : CS s mr) {n : Nat × Nat} {mi : Nat → Nat → Int32} {ml : Nat → Nat → Int64} {Q : Pg} {N : Nat} (hQ : CQ Q N s mi mr) (hW : WP Q) (x y w : Int32) : G 49 0 [some (.inr (.inr 4)), some (.inl x), some (.inl y), some (.inl w), none, none] [] (s, n, mi, ml, mr) = some (some (.inl (rTold Q x y w)), (s, n, mi, ml, mr)) := by
  have h8 := hW.1
  rw [b49_0 hG]
  unfold rTold
  cases h : opq Q x y
  · obtain ⟨z, e, rfl⟩ := c45_f hG hC (n := n) (ml := ml) hQ hW h
    simp (disch := omega) only [b49_23 hG, b49_53 hG, kc4 hC, kc42 hC, kc8 hC, kc10 hC, kc11 hC, kc41 hC, nbeq_f, ne_eq, Nat.not_lt_zero, Nat.zero_le, eq_self, not_true_eq_false, not_false_eq_true, decide_true, decide_false, Bool.not_true, Bool.not_false, Bool.true_and, Bool.false_and, Bool.and_true, Bool.and_false, Bool.or_true, Bool.true_or, Bool.false_or, Bool.or_false, Nat.beq_refl, bind_s, as_I, as_J, as_R, as_V, cnd_t, cnd_f, bz_ret, bzp_0, bzp_1, bzp_z0, bzp_z1, dec_bf, dec_bt, dec_nbf, dec_nbt, Bool.false_eq_true, Bool.true_eq_false, ret_0, ret_1, ret_z0, ret_z1, e]
  · unfold opq at h
    rw [Bool.and_eq_true] at h
    obtain ⟨r, hr, hr2, rfl⟩ := isN_t h.1
    have h2 := h.2
    rw [zi_cl hr2] at h2
    obtain ⟨p, hp, hp2, rfl⟩ := isN_t h2
    have hO := (hQ.2.1 r (by omega)).2.2.2.2.2.1 p hp
    have ho := hO.1
    have hs := hO.2.2.1
    have hE := hO.2.2.2.2.2.2.2.2.1
    simp (disch := omega) only [b49_23 hG, b49_53 hG, kc4 hC, kc42 hC, kc8 hC, kc10 hC, kc11 hC, kc41 hC, nbeq_f, ne_eq, Nat.not_lt_zero, Nat.zero_le, eq_self, not_true_eq_false, not_false_eq_true, decide_true, decide_false, Bool.not_true, Bool.not_false, Bool.true_and, Bool.false_and, Bool.and_true, Bool.and_false, Bool.or_true, Bool.true_or, Bool.false_or, Bool.or_false, Nat.beq_refl, bind_s, as_I, as_J, as_R, as_V, cnd_t, cnd_f, bz_ret, bzp_0, bzp_1, bzp_z0, bzp_z1, dec_bf, dec_bt, dec_nbf, dec_nbt, Bool.false_eq_true, Bool.true_eq_false, ret_0, ret_1, ret_z0, ret_z1, zi_cl, c45_t hG hC hQ hW hr hp]
    cases h3 : isN w 6
    · by_cases h0 : w < 0
      · simp only [ne_eq, Nat.not_lt_zero, Nat.zero_le, eq_self, not_true_eq_false, not_false_eq_true, decide_true, decide_false, Bool.not_true, Bool.not_false, Bool.true_and, Bool.false_and, Bool.and_true, Bool.and_false, Bool.or_true, Bool.true_or, Bool.false_or, Bool.or_false, Nat.beq_refl, bind_s, as_I, as_J, as_R, as_V, cnd_t, cnd_f, bz_ret, bzp_0, bzp_1, bzp_z0, bzp_z1, dec_bf, dec_bt, dec_nbf, dec_nbt, Bool.false_eq_true, Bool.true_eq_false, ret_0, ret_1, ret_z0, ret_z1, decide_eq_true h0]
      · obtain ⟨j, hj, rfl⟩ := zi_of (Int32.not_lt.mp h0)
        rw [isN_zi hj] at h3
        have h9 : 6 ≤ j := by have := of_decide_eq_false h3; omega
        simp (disch := omega) only [ne_eq, Nat.not_lt_zero, Nat.zero_le, eq_self, not_true_eq_false, not_false_eq_true, decide_true, decide_false, Bool.not_true, Bool.not_false, Bool.true_and, Bool.false_and, Bool.and_true, Bool.and_false, Bool.or_true, Bool.true_or, Bool.false_or, Bool.or_false, Nat.beq_refl, bind_s, as_I, as_J, as_R, as_V, cnd_t, cnd_f, bz_ret, bzp_0, bzp_1, bzp_z0, bzp_z1, dec_bf, dec_bt, dec_nbf, dec_nbt, Bool.false_eq_true, Bool.true_eq_false, ret_0, ret_1, ret_z0, ret_z1, decide_eq_false h0, zi_lit, zi_add, zi_mul, zi_lt, zi_le, zi_eq, zi_sub, eq_false (by omega : ¬ j < 6)]
    · obtain ⟨j, hj, hj2, rfl⟩ := isN_t h3
      have h0 : ¬ zi j < 0 := Int32.not_lt.mpr (zi_ge0 hj2)
      have hj8 : decide (zi j < 6) = true := decide_eq_true (by show zi j < zi 6; rw [zi_lt hj2 (by decide)]; omega)
      simp only [ne_eq, Nat.not_lt_zero, Nat.zero_le, eq_self, not_true_eq_false, not_false_eq_true, decide_true, decide_false, Bool.not_true, Bool.not_false, Bool.true_and, Bool.false_and, Bool.and_true, Bool.and_false, Bool.or_true, Bool.true_or, Bool.false_or, Bool.or_false, Nat.beq_refl, bind_s, as_I, as_J, as_R, as_V, cnd_t, cnd_f, bz_ret, bzp_0, bzp_1, bzp_z0, bzp_z1, dec_bf, dec_bt, dec_nbf, dec_nbt, Bool.false_eq_true, Bool.true_eq_false, ret_0, ret_1, ret_z0, ret_z1, decide_eq_false h0, hj8]
      rcases kle (hW.2.2.2.1 r) hp with h | h | h | h | h | h | h
      case inr.inl =>
        obtain ⟨e1, e2, e3, e4⟩ := hE (Or.inl h)
        rw [h, osh_3] at hs
        simp (disch := omega) only [ne_eq, Nat.not_lt_zero, Nat.zero_le, eq_self, not_true_eq_false, not_false_eq_true, decide_true, decide_false, Bool.not_true, Bool.not_false, Bool.true_and, Bool.false_and, Bool.and_true, Bool.and_false, Bool.or_true, Bool.true_or, Bool.false_or, Bool.or_false, Nat.beq_refl, bind_s, as_I, as_J, as_R, as_V, cnd_t, cnd_f, bz_ret, bzp_0, bzp_1, bzp_z0, bzp_z1, dec_bf, dec_bt, dec_nbf, dec_nbt, Bool.false_eq_true, Bool.true_eq_false, ret_0, ret_1, ret_z0, ret_z1, slk, padA, List.any_cons, List.any_nil, nbeq_f, if_true, if_false, Nat.reduceEqDiff, b49_23 hG, b49_53 hG, hs, h, zi_lit, zi_eq, rgR hs hF3_0, raI e3 hj (by decide), e4 j hj, zi_cl]
      case inr.inr.inl =>
        obtain ⟨e1, e2, e3, e4⟩ := hE (Or.inr h)
        rw [h, osh_4] at hs
        simp (disch := omega) only [ne_eq, Nat.not_lt_zero, Nat.zero_le, eq_self, not_true_eq_false, not_false_eq_true, decide_true, decide_false, Bool.not_true, Bool.not_false, Bool.true_and, Bool.false_and, Bool.and_true, Bool.and_false, Bool.or_true, Bool.true_or, Bool.false_or, Bool.or_false, Nat.beq_refl, bind_s, as_I, as_J, as_R, as_V, cnd_t, cnd_f, bz_ret, bzp_0, bzp_1, bzp_z0, bzp_z1, dec_bf, dec_bt, dec_nbf, dec_nbt, Bool.false_eq_true, Bool.true_eq_false, ret_0, ret_1, ret_z0, ret_z1, slk, padA, List.any_cons, List.any_nil, nbeq_f, if_true, if_false, Nat.reduceEqDiff, b49_23 hG, b49_53 hG, hs, h, zi_lit, zi_eq, rgR hs hF1_0, raI e3 hj (by decide), e4 j hj, zi_cl]
      all_goals
        rw [h] at hs
        simp only [osh_1, osh_5, osh_6 (Nat.le_refl 6), osh_6 (by decide : 6 ≤ 7), osh_6 (by decide : 6 ≤ 8)] at hs
        simp (disch := omega) only [ne_eq, Nat.not_lt_zero, Nat.zero_le, eq_self, not_true_eq_false, not_false_eq_true, decide_true, decide_false, Bool.not_true, Bool.not_false, Bool.true_and, Bool.false_and, Bool.and_true, Bool.and_false, Bool.or_true, Bool.true_or, Bool.false_or, Bool.or_false, Nat.beq_refl, bind_s, as_I, as_J, as_R, as_V, cnd_t, cnd_f, bz_ret, bzp_0, bzp_1, bzp_z0, bzp_z1, dec_bf, dec_bt, dec_nbf, dec_nbt, Bool.false_eq_true, Bool.true_eq_false, ret_0, ret_1, ret_z0, ret_z1, slk, padA, List.any_cons, List.any_nil, nbeq_f, if_true, if_false, Nat.reduceEqDiff, b49_23 hG, b49_53 hG, hs, h, zi_lit, zi_eq]