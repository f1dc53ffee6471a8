/-! the model's small methods -/
def isB (x : Int32) (a b : Nat) : Bool := decide ((a : Int) ≤ x.toInt) && decide (x.toInt ≤ b)
theorem in_zl (x : Int32) {a b : Nat} (ha : a < 9223372036854775808) (hb : b < 9223372036854775808) : (decide (zl a ≤ x.toInt64) && decide (x.toInt64 ≤ zl b)) = isB x a b := by
  unfold isB
  congr 1
  · exact decide_eq_decide.mpr (by rw [le64, zl_ti ha])
  · exact decide_eq_decide.mpr (by rw [ge64, zl_ti hb])
theorem zi_pred {c : Nat} (h : c < 2147483648) : (zi c - zi 1).toInt = (c : Int) - 1 := by
  rw [Int32.toInt_sub, zi_ti h, zi_ti (by omega)]
  exact Int.bmod_eq_of_le (by omega) (by omega)
theorem in_pred (x : Int32) {c : Nat} (h : c < 2147483648) : (decide (zl 0 ≤ x.toInt64) && decide (x.toInt64 ≤ (zi c - zi 1).toInt64)) = isN x c := by
  unfold isN
  congr 1
  · exact decide_eq_decide.mpr (by rw [le64, zl_ti (by omega)]; rfl)
  · exact decide_eq_decide.mpr (by rw [ge64, Int32.toInt_toInt64, zi_pred h]; omega)
theorem isB_0 (x : Int32) (n : Nat) : isB x 0 n = isN x (n + 1) := by
  unfold isB isN
  congr 1
  exact decide_eq_decide.mpr (by omega)
theorem m130 {G : AG} (hG : FIX G) (a b c : Int64) (H : Hp) : G 130 0 [some (.inr (.inl a)), none, some (.inr (.inl b)), none, some (.inr (.inl c)), none] [] H = some (some (.inl (bz (decide (b ≤ a) && decide (a ≤ c)))), H) := by
  rw [b130_0 hG, b130_17 hG, b130_18 hG, b130_18 hG, cmp_lt0, cmp_0lt]
  by_cases h1 : a < b
  · rw [decide_eq_true h1, decide_eq_false (Int64.not_le.mpr h1)]; rfl
  · rw [decide_eq_false h1, decide_eq_true (Int64.not_lt.mp h1)]
    by_cases h3 : c < a
    · rw [decide_eq_true h3, decide_eq_false (Int64.not_le.mpr h3)]; rfl
    · rw [decide_eq_false h3, decide_eq_true (Int64.not_lt.mp h3)]; rfl
theorem m132 {G : AG} (hG : FIX G) {s : Nat → Nat × Nat} {mr : Nat → Nat → Nat} (hM : MS s mr) {n : Nat × Nat} {mi : Nat → Nat → Int32} {ml : Nat → Nat → Int64} {Q : Pg} (hQ : mdQ Q mi) (hW : WP Q) (x : Int32) : G 132 0 [some (.inr (.inr 114)), some (.inl x)] [] (s, n, mi, ml, mr) = some (some (.inl (bz (isN x (qc Q)))), (s, n, mi, ml, mr)) := by
  have h8 : qc Q ≤ 8 := hW.1
  rw [b132_0 hG]
  simp (disch := omega) only [gm50 hM, ne_eq, Nat.not_lt_zero, Nat.zero_le, eq_self, not_true_eq_false, not_false_eq_true, decide_true, decide_false, Bool.not_true, Bool.not_false, Bool.true_and, Bool.false_and, Bool.and_true, Bool.and_false, Bool.or_true, Bool.true_or, Bool.false_or, Bool.or_false, Nat.beq_refl, bind_s, as_I, as_J, as_R, as_V, cnd_t, cnd_f, bz_ret, bzp_0, bzp_1, bzp_z0, bzp_z1, dec_bf, dec_bt, dec_nbf, dec_nbt, Bool.false_eq_true, Bool.true_eq_false, ret_0, ret_1, ret_z0, ret_z1, zi_lit, zl_lit, m130 hG, hQ.1, in_pred]
theorem m141 {G : AG} (hG : FIX G) {s : Nat → Nat × Nat} {mr : Nat → Nat → Nat} (hM : MS s mr) {n : Nat × Nat} {mi : Nat → Nat → Int32} {ml : Nat → Nat → Int64} {Q : Pg} (hQ : mdQ Q mi) (hW : WP Q) (x y : Int32) : G 141 0 [some (.inr (.inr 114)), some (.inl x), some (.inl y)] [] (s, n, mi, ml, mr) = some (some (.inl (bz (isN x (qc Q) && isN y (qn Q x.toNatClampNeg)))), (s, n, mi, ml, mr)) := by
  have h8 : qc Q ≤ 8 := hW.1
  rw [b141_0 hG]
  simp (disch := omega) only [b141_30 hG, b141_31 hG, gm51 hM, am115 hM, wm115 hM, km hM, ne_eq, Nat.not_lt_zero, Nat.zero_le, eq_self, not_true_eq_false, not_false_eq_true, decide_true, decide_false, Bool.not_true, Bool.not_false, Bool.true_and, Bool.false_and, Bool.and_true, Bool.and_false, Bool.or_true, Bool.true_or, Bool.false_or, Bool.or_false, Nat.beq_refl, bind_s, as_I, as_J, as_R, as_V, cnd_t, cnd_f, bz_ret, bzp_0, bzp_1, bzp_z0, bzp_z1, dec_bf, dec_bt, dec_nbf, dec_nbt, Bool.false_eq_true, Bool.true_eq_false, ret_0, ret_1, ret_z0, ret_z1, zi_lit, zl_lit, m130 hG, m132 hG hM hQ hW]
  cases h : isN x (qc Q)
  · simp only [ne_eq, Nat.not_lt_zero, Nat.zero_le, eq_self, not_true_eq_false, not_false_eq_true, decide_true, decide_false, Bool.not_true, Bool.not_false, Bool.true_and, Bool.false_and, Bool.and_true, Bool.and_false, Bool.or_true, Bool.true_or, Bool.false_or, Bool.or_false, Nat.beq_refl, bind_s, as_I, as_J, as_R, as_V, cnd_t, cnd_f, bz_ret, bzp_0, bzp_1, bzp_z0, bzp_z1, dec_bf, dec_bt, dec_nbf, dec_nbt, Bool.false_eq_true, Bool.true_eq_false, ret_0, ret_1, ret_z0, ret_z1]
  · obtain ⟨r, hr, -, rfl⟩ := isN_t h
    have h24 : qn Q r ≤ 24 := hW.2.1 r
    simp (disch := omega) only [b141_30 hG, b141_31 hG, gm51 hM, am115 hM, wm115 hM, km hM, ne_eq, Nat.not_lt_zero, Nat.zero_le, eq_self, not_true_eq_false, not_false_eq_true, decide_true, decide_false, Bool.not_true, Bool.not_false, Bool.true_and, Bool.false_and, Bool.and_true, Bool.and_false, Bool.or_true, Bool.true_or, Bool.false_or, Bool.or_false, Nat.beq_refl, bind_s, as_I, as_J, as_R, as_V, cnd_t, cnd_f, bz_ret, bzp_0, bzp_1, bzp_z0, bzp_z1, dec_bf, dec_bt, dec_nbf, dec_nbt, Bool.false_eq_true, Bool.true_eq_false, ret_0, ret_1, ret_z0, ret_z1, zi_lit, zl_lit, zi_cl, m130 hG, hQ.2.1 r (by omega), in_pred]
    cases isN y (qn Q r) <;> rfl
/-- the body that begins is written down -/
def trN (tn : Nat) : Nat := if tn < 16 then tn + 1 else tn
def trF (tn : Nat) (tr : Nat → Int32) (b : Int32) : Nat → Int32 := if tn < 16 then up1 tr tn b else tr
def MT (tn : Nat) (tr : Nat → Int32) (mi : Nat → Nat → Int32) : Prop := tn ≤ 16 ∧ mi 114 59 = zi tn ∧ ∀ i, i < tn → mi 121 i = tr i
/-- of the kept numbers the trace alone has changed -/
def MTr (mi mi' : Nat → Nat → Int32) : Prop := (∀ a, a ≠ 114 → a ≠ 121 → mi' a = mi a) ∧ (∀ f, f ≠ 59 → mi' 114 f = mi 114 f)
theorem m147 {G : AG} (hG : FIX G) {s : Nat → Nat × Nat} {mr : Nat → Nat → Nat} (hM : MS s mr) {n : Nat × Nat} {mi : Nat → Nat → Int32} {ml : Nat → Nat → Int64} {tn : Nat} {tr : Nat → Int32} (hT : MT tn tr mi) (b : Int32) : ∃ mi', G 147 0 [some (.inr (.inr 114)), some (.inl b)] [] (s, n, mi, ml, mr) = some (none, (s, n, mi', ml, mr)) ∧ MT (trN tn) (trF tn tr b) mi' ∧ MTr mi mi' := by
  obtain ⟨h16, h59, hi⟩ := hT
  by_cases h : tn < 16
  · refine ⟨up2 (up2 mi 121 tn b) 114 59 (zi (tn + 1)), ?_, ⟨?_, ?_, ?_⟩, ?_, ?_⟩
    · rw [b147_0 hG]
      simp (disch := omega) only [b147_29 hG, gm59 hM, gm58 hM, am121 hM, wm121 hM, pm59 hM, ne_eq, Nat.not_lt_zero, Nat.zero_le, eq_self, not_true_eq_false, not_false_eq_true, decide_true, decide_false, Bool.not_true, Bool.not_false, Bool.true_and, Bool.false_and, Bool.and_true, Bool.and_false, Bool.or_true, Bool.true_or, Bool.false_or, Bool.or_false, Nat.beq_refl, bind_s, as_I, as_J, as_R, as_V, cnd_t, cnd_f, bz_ret, bzp_0, bzp_1, bzp_z0, bzp_z1, dec_bf, dec_bt, dec_nbf, dec_nbt, Bool.false_eq_true, Bool.true_eq_false, ret_0, ret_1, ret_z0, ret_z1, zi_lit, zi_add, zi_mul, zi_lt, zi_le, zi_eq, zi_sub, h59, up2_s, up2_n, eq_false (by omega : ¬ 16 ≤ tn)]
    · unfold trN; split <;> omega
    · unfold trN; rw [if_pos h, up2_s, up1_s]
    · intro i hi'
      unfold trN at hi'; rw [if_pos h] at hi'
      unfold trF; rw [if_pos h, up2_n _ _ (by decide), up2_s]
      by_cases e : i = tn
      · rw [e, up1_s, up1_s]
      · rw [up1_n _ _ e, up1_n _ _ e]; exact hi i (by omega)
    · intro a h1 h2; rw [up2_n _ _ h1, up2_n _ _ h2]
    · intro f hf; rw [up2_s, up1_n _ _ hf, up2_n _ _ (by decide)]
  · refine ⟨mi, ?_, ⟨?_, ?_, ?_⟩, fun _ _ _ => rfl, fun _ _ => rfl⟩
    · rw [b147_0 hG]
      simp (disch := omega) only [b147_29 hG, gm59 hM, gm58 hM, am121 hM, wm121 hM, pm59 hM, ne_eq, Nat.not_lt_zero, Nat.zero_le, eq_self, not_true_eq_false, not_false_eq_true, decide_true, decide_false, Bool.not_true, Bool.not_false, Bool.true_and, Bool.false_and, Bool.and_true, Bool.and_false, Bool.or_true, Bool.true_or, Bool.false_or, Bool.or_false, Nat.beq_refl, bind_s, as_I, as_J, as_R, as_V, cnd_t, cnd_f, bz_ret, bzp_0, bzp_1, bzp_z0, bzp_z1, dec_bf, dec_bt, dec_nbf, dec_nbt, Bool.false_eq_true, Bool.true_eq_false, ret_0, ret_1, ret_z0, ret_z1, zi_lit, zi_add, zi_mul, zi_lt, zi_le, zi_eq, zi_sub, h59, eq_true (by omega : 16 ≤ tn)]
    · unfold trN; split <;> omega
    · unfold trN; rw [if_neg h]; exact h59
    · unfold trN trF; rw [if_neg h, if_neg h]; exact hi