/-! the model: sumUp's other loops -/
def aln (t : Nat → Nat) : Nat → Bool
  | 0 => true
  | v + 1 => aln t v && decide (t (1 + v) = 0)
def dv6 (P : Po) : Nat → Bool
  | 0 => true
  | k + 1 => dv6 P k && decide (P (cd k) - P (cd k) / 60 * 60 = 0)
theorem dv6_mono {P : Po} {a : Nat} (h : dv6 P a = false) : ∀ {b : Nat}, a ≤ b → dv6 P b = false
  | 0, hb => by
    have : a = 0 := by omega
    subst this
    exact h
  | b + 1, hb => by
    by_cases e : a = b + 1
    · rw [← e]; exact h
    · unfold dv6
      rw [dv6_mono h (by omega), Bool.false_and]
theorem m158A {G : AG} (hG : FIX G) {s : Nat → Nat × Nat} {mr : Nat → Nat → Nat} (hM : MS s mr) {n : Nat × Nat} {mi : Nat → Nat → Int32} {y1 y4 y5 : Int32} {op d : Nat} {t : Nat → Nat} {ml : Nat → Nat → Int64} (ho : op < 192) (hd : d ≤ 3) (ht : ∀ q, q < 6 → mi 119 (12 * op + q) = zi (t q)) (hb : ∀ q, t q ≤ 2) : ∀ (f k : Nat), k + f = 2 + d →
    G 158 18 [some (.inr (.inr 114)), some (.inl y1), some (.inl (zi op)), some (.inl (zi d)), some (.inl y4), some (.inl y5), some (.inl (bz (aln t k))), some (.inl (zi k)), none, none, none, none, none, none, none, none, none, none] [] (s, n, mi, ml, mr) = G 158 64 [some (.inr (.inr 114)), some (.inl y1), some (.inl (zi op)), some (.inl (zi d)), some (.inl y4), some (.inl y5), some (.inl (bz (aln t (2 + d)))), some (.inl (zi 0)), none, none, none, none, none, none, none, none, none, none] [] (s, n, mi, ml, mr)
  | 0, k, hk => by
    have e : k = 2 + d := by omega
    subst e
    rw [b158_18 hG]
    simp (disch := omega) only [zi_lit, zi_add, zi_le, Nat.le_refl, decide_true, cnd_t]
  | f + 1, k, hk => by
    have ih := m158A hG hM (s := s) (mr := mr) (n := n) (mi := mi) (y1 := y1) (y4 := y4) (y5 := y5) (ml := ml) ho hd ht hb f (k + 1) (by omega)
    have htk : mi 119 (12 * op + 1 + k) = zi (t (1 + k)) := by rw [← ht (1 + k) (by omega)]; exact congrArg _ (by omega)
    have hbk := hb (1 + k)
    rw [show aln t (k + 1) = (aln t k && decide (t (1 + k) = 0)) from rfl] at ih
    rw [b158_18 hG]
    cases ha : aln t k
    · rw [ha, Bool.false_and] at ih
      simp (disch := omega) only [ne_eq, Nat.not_lt_zero, Nat.zero_le, eq_self, not_true_eq_false, not_false_eq_true, decide_true, decide_false, Bool.not_true, Bool.not_false, Bool.true_and, Bool.false_and, Bool.and_true, Bool.and_false, Bool.or_true, Bool.true_or, Bool.false_or, Bool.or_false, Nat.beq_refl, bind_s, as_I, as_J, as_R, as_V, cnd_t, cnd_f, bz_ret, bzp_0, bzp_1, bzp_z0, bzp_z1, dec_bf, dec_bt, dec_nbf, dec_nbt, Bool.false_eq_true, Bool.true_eq_false, ret_0, ret_1, ret_z0, ret_z1, zi_lit, zi_add, zi_le, eq_false (by omega : ¬ 2 + d ≤ k)]
      rw [b158_52 hG, b158_53 hG]
      simp only [zi_lit, zi_add]
      exact ih
    · rw [ha, Bool.true_and] at ih
      by_cases h0 : t (1 + k) = 0
      · rw [decide_eq_true h0] at ih
        simp (disch := omega) only [ne_eq, Nat.not_lt_zero, Nat.zero_le, eq_self, not_true_eq_false, not_false_eq_true, decide_true, decide_false, Bool.not_true, Bool.not_false, Bool.true_and, Bool.false_and, Bool.and_true, Bool.and_false, Bool.or_true, Bool.true_or, Bool.false_or, Bool.or_false, Nat.beq_refl, bind_s, as_I, as_J, as_R, as_V, cnd_t, cnd_f, bz_ret, bzp_0, bzp_1, bzp_z0, bzp_z1, dec_bf, dec_bt, dec_nbf, dec_nbt, Bool.false_eq_true, Bool.true_eq_false, ret_0, ret_1, ret_z0, ret_z1, zi_lit, zi_add, zi_mul, zi_le, zi_eq, gm55 hM, am119 hM, htk, eq_true h0, eq_false (by omega : ¬ 2 + d ≤ k)]
        rw [b158_53 hG]
        simp only [zi_lit, zi_add]
        exact ih
      · rw [decide_eq_false h0] at ih
        simp (disch := omega) only [ne_eq, Nat.not_lt_zero, Nat.zero_le, eq_self, not_true_eq_false, not_false_eq_true, decide_true, decide_false, Bool.not_true, Bool.not_false, Bool.true_and, Bool.false_and, Bool.and_true, Bool.and_false, Bool.or_true, Bool.true_or, Bool.false_or, Bool.or_false, Nat.beq_refl, bind_s, as_I, as_J, as_R, as_V, cnd_t, cnd_f, bz_ret, bzp_0, bzp_1, bzp_z0, bzp_z1, dec_bf, dec_bt, dec_nbf, dec_nbt, Bool.false_eq_true, Bool.true_eq_false, ret_0, ret_1, ret_z0, ret_z1, zi_lit, zi_add, zi_mul, zi_le, zi_eq, gm55 hM, am119 hM, htk, eq_false h0, eq_false (by omega : ¬ 2 + d ≤ k)]
        rw [b158_52 hG, b158_53 hG]
        simp only [zi_lit, zi_add]
        exact ih
theorem m158C {G : AG} (hG : FIX G) {s : Nat → Nat × Nat} {mr : Nat → Nat → Nat} (hM : MS s mr) {n : Nat × Nat} {mi : Nat → Nat → Int32} {y1 y2 y3 y4 y5 y6 : Int32} : ∀ (f k : Nat) (ml : Nat → Nat → Int64), k + f = 252 → (∀ x, x < k → ml 130 x = 0) → ∃ ml', G 158 64 [some (.inr (.inr 114)), some (.inl y1), some (.inl y2), some (.inl y3), some (.inl y4), some (.inl y5), some (.inl y6), some (.inl (zi k)), none, none, none, none, none, none, none, none, none, none] [] (s, n, mi, ml, mr) = G 158 64 [some (.inr (.inr 114)), some (.inl y1), some (.inl y2), some (.inl y3), some (.inl y4), some (.inl y5), some (.inl y6), some (.inl (zi 252)), none, none, none, none, none, none, none, none, none, none] [] (s, n, mi, ml', mr) ∧ (∀ x, x < 252 → ml' 130 x = 0) ∧ MD ml ml'
  | 0, k, ml, hk, hz => by
    have e : k = 252 := by omega
    subst e
    exact ⟨ml, rfl, hz, fun _ _ => rfl⟩
  | f + 1, k, ml, hk, hz => by
    obtain ⟨ml', e', r1, r2⟩ := m158C hG hM (s := s) (mr := mr) (n := n) (mi := mi) f (k + 1) (up2 ml 130 k 0) (by omega) (fun x hx => by
      rw [up2_s]
      by_cases e : x = k
      · rw [e, up1_s]
      · rw [up1_n _ _ e]; exact hz x (by omega))
    refine ⟨ml', ?_, r1, MD_trans MD_up r2⟩
    refine Eq.trans ?_ e'
    refine (b158_64 hG ..).trans ?_
    have hc : decide ((252 : Int32) ≤ zi k) = false := decide_eq_false (by show ¬ zi 252 ≤ zi k; rw [zi_le (by omega) (by omega)]; omega)
    rw [hc, cnd_f]
    simp (disch := omega) only [bind_s, gm71 hM, wm130 hM, zi_lit, zi_add]
theorem m158E {G : AG} (hG : FIX G) {s : Nat → Nat × Nat} {mr : Nat → Nat → Nat} (hM : MS s mr) {n : Nat × Nat} {mi : Nat → Nat → Int32} {y2 y3 y4 y5 y6 : Int32} {o8 o10 o11 o12 o13 o15 o16 : Option AV} {i : Nat} {P : Po} (hi : i < 58) : ∀ (f k : Nat) (ml : Nat → Nat → Int64), k + f = 252 → (∀ x, x < 252 → ml 130 x = P (cd x)) → (∀ x, x < k → ml 126 (252 * i + x) = P (cd x)) → ∃ ml', G 158 477 [some (.inr (.inr 114)), some (.inl (zi i)), some (.inl y2), some (.inl y3), some (.inl y4), some (.inl y5), some (.inl y6), some (.inl (zi k)), o8, none, o10, o11, o12, o13, none, o15, o16, none] [] (s, n, mi, ml, mr) = some (some (.inl (bz true)), (s, n, mi, ml', mr)) ∧ MPo i P ml' ∧ RF i (i + 1) ml ml'
  | 0, k, ml, hk, h1, h2 => by
    have e : k = 252 := by omega
    subst e
    refine ⟨ml, ?_, h2, RF_refl _ _ _⟩
    rw [b158_477 hG]
    simp (disch := omega) only [zi_lit, zi_le, Nat.le_refl, decide_true, cnd_t, ret_z1]
  | f + 1, k, ml, hk, h1, h2 => by
    obtain ⟨ml', e', r1, r2⟩ := m158E hG hM (s := s) (mr := mr) (n := n) (mi := mi) hi f (k + 1) (up2 ml 126 (252 * i + k) (P (cd k))) (by omega) (fun x hx => by rw [up2_n _ _ (by decide)]; exact h1 x hx) (fun x hx => by
      rw [up2_s]
      by_cases e : x = k
      · rw [e, up1_s]
      · rw [up1_n _ _ (by omega)]; exact h2 x (by omega))
    refine ⟨ml', ?_, r1, RF_trans (RF_up (by omega) (by omega)) r2⟩
    rw [b158_477 hG]
    simp (disch := omega) only [zi_lit, zi_le, zi_add, zi_mul, bind_s, gm67 hM, gm71 hM, am130 hM, wm126 hM, h1 k (by omega), eq_false (by omega : ¬ 252 ≤ k), decide_false, cnd_f]
    exact e'