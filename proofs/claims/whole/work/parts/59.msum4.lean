/-! the model: sumUp's division by 60 -/
theorem if60 {α : Type} (a b : α) : (if (60 : Int64) = 0 then a else b) = b := if_neg (by decide)
theorem m158D {G : AG} (hG : FIX G) {s : Nat → Nat × Nat} {mr : Nat → Nat → Nat} (hM : MS s mr) {n : Nat × Nat} {mi : Nat → Nat → Int32} {y1 y2 y3 y4 y5 y6 : Int32} {o8 o10 o11 o12 o13 o15 o16 : Option AV} {P : Po} : ∀ (f k : Nat) (ml : Nat → Nat → Int64), k + f = 252 → dv6 P k = true → (∀ x, x < 252 → ml 130 x = if x < k then P (cd x) / 60 else P (cd x)) →
    ∃ ml', MD ml ml' ∧ ((dv6 P 252 = false ∧ G 158 429 [some (.inr (.inr 114)), some (.inl y1), some (.inl y2), some (.inl y3), some (.inl y4), some (.inl y5), some (.inl y6), some (.inl (zi k)), o8, none, o10, o11, o12, o13, none, o15, o16, none] [] (s, n, mi, ml, mr) = some (some (.inl (bz false)), (s, n, mi, ml', mr))) ∨ (dv6 P 252 = true ∧ G 158 429 [some (.inr (.inr 114)), some (.inl y1), some (.inl y2), some (.inl y3), some (.inl y4), some (.inl y5), some (.inl y6), some (.inl (zi k)), o8, none, o10, o11, o12, o13, none, o15, o16, none] [] (s, n, mi, ml, mr) = G 158 477 [some (.inr (.inr 114)), some (.inl y1), some (.inl y2), some (.inl y3), some (.inl y4), some (.inl y5), some (.inl y6), some (.inl (zi 0)), o8, none, o10, o11, o12, o13, none, o15, o16, none] [] (s, n, mi, ml', mr) ∧ ∀ x, x < 252 → ml' 130 x = P (cd x) / 60))
  | 0, k, ml, hk, hd, hP => by
    have e : k = 252 := by omega
    subst e
    refine ⟨ml, fun _ _ => rfl, Or.inr ⟨hd, ?_, fun x hx => by rw [hP x hx, if_pos hx]⟩⟩
    rw [b158_429 hG]
    simp (disch := omega) only [zi_lit, zi_le, Nat.le_refl, decide_true, cnd_t]
    rw [b158_474 hG]
    rfl
  | f + 1, k, ml, hk, hd, hP => by
    have hPk := hP k (by omega)
    rw [if_neg (Nat.lt_irrefl k)] at hPk
    have hS : dv6 P (k + 1) = decide (P (cd k) - P (cd k) / 60 * 60 = 0) := by
      show (dv6 P k && _) = _
      rw [hd, Bool.true_and]
    by_cases h0 : P (cd k) - P (cd k) / 60 * 60 = 0
    · obtain ⟨ml', r1, r2⟩ := m158D hG hM (s := s) (mr := mr) (n := n) (mi := mi) f (k + 1) (up2 ml 130 k (P (cd k) / 60)) (by omega) (by rw [hS, decide_eq_true h0]) (fun x hx => by
        rw [up2_s]
        by_cases e : x = k
        · rw [e, up1_s, if_pos (Nat.lt_succ_self k)]
        · rw [up1_n _ _ e, hP x hx]
          by_cases h : x < k
          · rw [if_pos h, if_pos (by omega)]
          · rw [if_neg h, if_neg (by omega)])
      have est : G 158 429 [some (.inr (.inr 114)), some (.inl y1), some (.inl y2), some (.inl y3), some (.inl y4), some (.inl y5), some (.inl y6), some (.inl (zi k)), o8, none, o10, o11, o12, o13, none, o15, o16, none] [] (s, n, mi, ml, mr) = G 158 429 [some (.inr (.inr 114)), some (.inl y1), some (.inl y2), some (.inl y3), some (.inl y4), some (.inl y5), some (.inl y6), some (.inl (zi (k + 1))), o8, none, o10, o11, o12, o13, none, o15, o16, none] [] (s, n, mi, up2 ml 130 k (P (cd k) / 60), mr) := by
        refine (b158_429 hG ..).trans ?_
        have hc : decide ((252 : Int32) ≤ zi k) = false := decide_eq_false (by show ¬ zi 252 ≤ zi k; rw [zi_le (by omega) (by omega)]; omega)
        rw [hc, cnd_f]
        simp (disch := omega) only [if60, bind_s, gm71 hM, am130 hM, wm130 hM, hPk, zi_lit, zi_add, cmpz, eq_true h0, decide_true, cnd_t]
      rw [est]
      exact ⟨ml', MD_trans MD_up r1, r2⟩
    · refine ⟨ml, fun _ _ => rfl, Or.inl ⟨dv6_mono (a := k + 1) (by rw [hS, decide_eq_false h0]) (by omega), ?_⟩⟩
      refine (b158_429 hG ..).trans ?_
      have hc : decide ((252 : Int32) ≤ zi k) = false := decide_eq_false (by show ¬ zi 252 ≤ zi k; rw [zi_le (by omega) (by omega)]; omega)
      rw [hc, cnd_f]
      simp (disch := omega) only [if60, bind_s, gm71 hM, am130 hM, hPk, zi_lit, cmpz, eq_false h0, decide_false, cnd_f, ret_z0]