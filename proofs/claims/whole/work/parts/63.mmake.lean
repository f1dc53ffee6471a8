/-! the model: make: the last loop -/
theorem m154E {G : AG} (hG : FIX G) {s : Nat → Nat × Nat} {mr : Nat → Nat → Nat} (hM : MS s mr) {n : Nat × Nat} {mi : Nat → Nat → Int32} {y3 y4 y5 : Int32} {o7 o8 o9 o10 o12 : Option AV} {r sd : Nat} {P : Po} (hr : r < 8) (hs : sd < 2) : ∀ (f k : Nat) (ml : Nat → Nat → Int64), k + f = 252 → MPo 16 P ml → (∀ x, x < k → ml 126 (252 * (2 * r + sd) + x) = P (cd x)) → ∃ ml', G 154 487 [some (.inr (.inr 114)), some (.inl (zi r)), some (.inl (zi sd)), some (.inl y3), some (.inl y4), some (.inl y5), some (.inl (zi k)), o7, o8, o9, o10, none, o12, none] [] (s, n, mi, ml, mr) = some (some (.inl (bz true)), (s, n, mi, ml', mr)) ∧ MPo (2 * r + sd) P ml' ∧ RF (2 * r + sd) (2 * r + sd + 1) ml ml'
  | 0, k, ml, hk, h1, h2 => by
    have e : k = 252 := by omega
    subst e
    refine ⟨ml, ?_, h2, RF_refl _ _ _⟩
    rw [b154_487 hG]
    simp (disch := omega) only [zi_lit, zi_le, Nat.le_refl, decide_true, cnd_t, ret_z1]
  | f + 1, k, ml, hk, h1, h2 => by
    have h1k : ml 126 (4032 + k) = P (cd k) := h1 k (by omega)
    obtain ⟨ml', e', r1, r2⟩ := m154E hG hM (s := s) (mr := mr) (n := n) (mi := mi) hr hs f (k + 1) (up2 ml 126 (252 * (2 * r + sd) + k) (P (cd k))) (by omega) (fun x hx => by rw [up2_s, up1_n _ _ (by omega)]; exact h1 x hx) (fun x hx => by
      rw [up2_s]
      by_cases e : x = k
      · rw [e, up1_s]
      · rw [up1_n _ _ (by omega)]; exact h2 x (by omega))
    refine ⟨ml', ?_, r1, RF_trans (RF_up (by omega) (by omega)) r2⟩
    rw [b154_487 hG]
    simp (disch := omega) only [zi_lit, zi_le, zi_add, zi_mul, bind_s, gm67 hM, am126 hM, wm126 hM, h1k, eq_false (by omega : ¬ 252 ≤ k), decide_false, cnd_f]
    exact e'