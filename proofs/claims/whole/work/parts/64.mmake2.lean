/-! the model: make: the greater or the lesser of two rows -/
def mmx (sd : Nat) (a b : Int64) : Int64 := if decide (b < a) = decide (sd = 1) then a else b
theorem cmpz_le (x y : Int64) : (lg_cmp x y ≤ zi 0) = (x ≤ y) := propext (decide_eq_decide.mp (cmp_le0 x y))
theorem m154M {G : AG} (hG : FIX G) {s : Nat → Nat × Nat} {mr : Nat → Nat → Nat} (hM : MS s mr) {n : Nat × Nat} {mi : Nat → Nat → Int32} {y1 y3 y4 y6 y7 y8 : Int32} {q sd : Nat} {A B : Po} (hq1 : 1 ≤ q) (hq : q < 70) (hs : sd < 2) : ∀ (f k : Nat) (o10 o12 : Option AV) (ml : Nat → Nat → Int64), k + f = 252 → MPo (q - 1) A ml → (∀ x, x < 252 → ml 126 (252 * q + x) = if x < k then mmx sd (A (cd x)) (B (cd x)) else B (cd x)) →
    ∃ ml' p10 p12, G 154 276 [some (.inr (.inr 114)), some (.inl y1), some (.inl (zi sd)), some (.inl y3), some (.inl y4), some (.inl (zi q)), some (.inl y6), some (.inl y7), some (.inl y8), some (.inl (zi k)), o10, none, o12, none] [] (s, n, mi, ml, mr) = G 154 276 [some (.inr (.inr 114)), some (.inl y1), some (.inl (zi sd)), some (.inl y3), some (.inl y4), some (.inl (zi q)), some (.inl y6), some (.inl y7), some (.inl y8), some (.inl (zi 252)), p10, none, p12, none] [] (s, n, mi, ml', mr) ∧ MPo q (fun c => mmx sd (A c) (B c)) ml' ∧ RF q (q + 1) ml ml'
  | 0, k, o10, o12, ml, hk, h1, h2 => by
    have e : k = 252 := by omega
    subst e
    exact ⟨ml, o10, o12, rfl, fun x hx => by rw [h2 x hx, if_pos hx], RF_refl _ _ _⟩
  | f + 1, k, o10, o12, ml, hk, h1, h2 => by
    have hA := h1 k (by omega)
    have hB := h2 k (by omega)
    rw [if_neg (Nat.lt_irrefl k)] at hB
    obtain ⟨ml', p10, p12, e', r1, r2⟩ := m154M hG hM (s := s) (mr := mr) (n := n) (mi := mi) hq1 hq hs f (k + 1) (some (.inr (.inl (A (cd k))))) (some (.inr (.inl (B (cd k))))) (up2 ml 126 (252 * q + k) (mmx sd (A (cd k)) (B (cd k)))) (by omega) (fun x hx => by rw [up2_s, up1_n _ _ (by omega)]; exact h1 x hx) (fun x hx => by
      rw [up2_s]
      by_cases e : x = k
      · rw [e, up1_s, if_pos (Nat.lt_succ_self k)]
      · rw [up1_n _ _ (by omega), h2 x hx]
        by_cases h : x < k
        · rw [if_pos h, if_pos (by omega)]
        · rw [if_neg h, if_neg (by omega)])
    refine ⟨ml', p10, p12, ?_, r1, RF_trans (RF_up (by omega) (by omega)) r2⟩
    refine Eq.trans ?_ e'
    have hidx : zi 252 * (zi q - zi 1) + zi k = zi (252 * (q - 1) + k) := by rw [zi_sub hq1, zi_mul, zi_add]
    refine (b154_276 hG ..).trans ?_
    have hc : decide ((252 : Int32) ≤ zi k) = false := decide_eq_false (by show ¬ zi 252 ≤ zi k; rw [zi_le (by omega) (by omega)]; omega)
    rw [hc, cnd_f]
    have h01 : sd = 0 ∨ sd = 1 := by omega
    by_cases hl : A (cd k) ≤ B (cd k)
    · have hn : decide (B (cd k) < A (cd k)) = false := decide_eq_false (Int64.not_lt.mpr hl)
      simp (disch := omega) only [bind_s, gm67 hM, am126 hM, zi_lit, hidx, hA, hB, zi_mul, zi_add, cmpz_le, eq_true hl, decide_true, cnd_t]
      unfold mmx
      rw [hn]
      rcases h01 with rfl | rfl
      · simp (disch := omega) only [b154_344 hG, b154_354 hG, b154_364 hG, ne_eq, zi_lit, zi_eq, eq_self, Nat.reduceEqDiff, not_true_eq_false, not_false_eq_true, decide_true, decide_false, cnd_t, cnd_f, wm126 hM, bind_s, zi_add, if_true]
      · simp (disch := omega) only [b154_344 hG, b154_354 hG, b154_364 hG, ne_eq, zi_lit, zi_eq, eq_self, Nat.reduceEqDiff, not_true_eq_false, not_false_eq_true, decide_true, decide_false, cnd_t, cnd_f, wm126 hM, bind_s, zi_add, if_false, Bool.false_eq_true]
    · have hn : decide (B (cd k) < A (cd k)) = true := decide_eq_true (Int64.not_le.mp hl)
      simp (disch := omega) only [bind_s, gm67 hM, am126 hM, zi_lit, hidx, hA, hB, zi_mul, zi_add, cmpz_le, eq_false hl, decide_false, cnd_f]
      unfold mmx
      rw [hn]
      rcases h01 with rfl | rfl
      · simp (disch := omega) only [b154_344 hG, b154_354 hG, b154_364 hG, ne_eq, zi_lit, zi_eq, eq_self, Nat.reduceEqDiff, not_true_eq_false, not_false_eq_true, decide_true, decide_false, cnd_t, cnd_f, wm126 hM, bind_s, zi_add, if_false, Bool.true_eq_false]
      · simp (disch := omega) only [b154_344 hG, b154_354 hG, b154_364 hG, ne_eq, zi_lit, zi_eq, eq_self, Nat.reduceEqDiff, not_true_eq_false, not_false_eq_true, decide_true, decide_false, cnd_t, cnd_f, wm126 hM, bind_s, zi_add, if_true]