/-! the model: sumUp of a loop whose number is fixed: its inner loops -/
def ipw (x : Int64) : Nat → Int64
  | 0 => 1
  | p + 1 => ipw x p * x
theorem m158P {G : AG} (hG : FIX G) {s : Nat → Nat × Nat} {mr : Nat → Nat → Nat} (hM : MS s mr) {n : Nat × Nat} {mi : Nat → Nat → Int32} {y1 y2 y3 y4 y5 y6 y7 : Int32} {w : Int64} {p to_ i : Nat} {ml : Nat → Nat → Int64} (hp : p < 6) (hto : to_ < 252) (hi : i < 100) : ∀ (f j : Nat), j + f = p →
    G 158 173 [some (.inr (.inr 114)), some (.inl y1), some (.inl y2), some (.inl y3), some (.inl y4), some (.inl y5), some (.inl y6), some (.inl y7), some (.inr (.inl w)), none, some (.inl (zi p)), some (.inl (zi to_)), some (.inl (zi i)), some (.inr (.inl (ipw (zl i) j))), none, some (.inl (zi j)), none, none] [] (s, n, mi, ml, mr) = G 158 153 [some (.inr (.inr 114)), some (.inl y1), some (.inl y2), some (.inl y3), some (.inl y4), some (.inl y5), some (.inl y6), some (.inl y7), some (.inr (.inl w)), none, some (.inl (zi p)), some (.inl (zi to_)), some (.inl (zi (i + 1))), some (.inr (.inl (ipw (zl i) p))), none, some (.inl (zi p)), none, none] [] (s, n, mi, up2 ml 130 to_ (ml 130 to_ + w * ipw (zl i) p), mr)
  | 0, j, hj => by
    have e : j = p := by omega
    subst e
    rw [b158_173 hG]
    simp (disch := omega) only [zi_le, Nat.le_refl, decide_true, cnd_t, bind_s, gm71 hM, am130 hM, wm130 hM, zi_lit, zi_add]
  | f + 1, j, hj => by
    have ih := m158P hG hM (s := s) (mr := mr) (n := n) (mi := mi) (y1 := y1) (y2 := y2) (y3 := y3) (y4 := y4) (y5 := y5) (y6 := y6) (y7 := y7) (w := w) (ml := ml) hp hto hi f (j + 1) (by omega)
    refine (b158_173 hG ..).trans ?_
    have hc : decide (zi p ≤ zi j) = false := decide_eq_false (by rw [zi_le (by omega) (by omega)]; omega)
    rw [hc, cnd_f]
    simp (disch := omega) only [zi_lit, zi_add, zi_64]
    exact ih
theorem m158S {G : AG} (hG : FIX G) {s : Nat → Nat × Nat} {mr : Nat → Nat → Nat} (hM : MS s mr) {n : Nat × Nat} {mi : Nat → Nat → Int32} {y1 y3 y4 y5 y6 : Int32} {op K : Nat} {w b0 : Int64} {p to_ t0 : Nat} (ho : op < 192) (hK : K < 252) (hp : p < 6) (hto : to_ < 252) (ht0 : mi 119 (12 * op) = zi t0) (ht2 : t0 ≤ 2) : ∀ (f i : Nat) (o13 o15 : Option AV) (ml : Nat → Nat → Int64), i + f = t0 → ml 130 to_ = b0 + sm i (fun x => w * ipw (zl (x + 1)) p) →
    ∃ ml' p10 p11 p12 p13 p15, G 158 153 [some (.inr (.inr 114)), some (.inl y1), some (.inl (zi op)), some (.inl y3), some (.inl y4), some (.inl y5), some (.inl y6), some (.inl (zi K)), some (.inr (.inl w)), none, some (.inl (zi p)), some (.inl (zi to_)), some (.inl (zi (i + 1))), o13, none, o15, none, none] [] (s, n, mi, ml, mr) = G 158 94 [some (.inr (.inr 114)), some (.inl y1), some (.inl (zi op)), some (.inl y3), some (.inl y4), some (.inl y5), some (.inl y6), some (.inl (zi (K + 1))), some (.inr (.inl w)), none, p10, p11, p12, p13, none, p15, none, none] [] (s, n, mi, ml', mr) ∧ ml' 130 to_ = b0 + sm t0 (fun x => w * ipw (zl (x + 1)) p) ∧ (∀ x, x ≠ to_ → ml' 130 x = ml 130 x) ∧ MD ml ml'
  | 0, i, o13, o15, ml, hi, hB => by
    have e : i = t0 := by omega
    subst e
    refine ⟨ml, some (.inl (zi p)), some (.inl (zi to_)), some (.inl (zi (i + 1))), o13, o15, ?_, hB, fun _ _ => rfl, fun _ _ => rfl⟩
    rw [b158_153 hG]
    simp (disch := omega) only [bind_s, gm55 hM, am119 hM, zi_lit, zi_mul, zi_add, zi_lt, ht0, eq_true (by omega : i < i + 1), decide_true, cnd_t]
  | f + 1, i, o13, o15, ml, hi, hB => by
    have hP := m158P hG hM (n := n) (mi := mi) (y1 := y1) (y2 := zi op) (y3 := y3) (y4 := y4) (y5 := y5) (y6 := y6) (y7 := zi K) (w := w) (ml := ml) hp hto (by omega : i + 1 < 100) p 0 (by omega)
    obtain ⟨ml', p10, p11, p12, p13, p15, e', r1, r2, r3⟩ := m158S hG hM (s := s) (mr := mr) (n := n) (mi := mi) ho hK hp hto ht0 ht2 f (i + 1) (some (.inr (.inl (ipw (zl (i + 1)) p)))) (some (.inl (zi p))) (up2 ml 130 to_ (ml 130 to_ + w * ipw (zl (i + 1)) p)) (by omega) (by
      rw [up2_s, up1_s, hB, Int64.add_assoc]; rfl)
    refine ⟨ml', p10, p11, p12, p13, p15, ?_, r1, fun x hx => by rw [r2 x hx, up2_s, up1_n _ _ hx], MD_trans MD_up r3⟩
    refine (b158_153 hG ..).trans ?_
    simp (disch := omega) only [bind_s, gm55 hM, am119 hM, zi_lit, zi_mul, zi_lt, ht0, eq_false (by omega : ¬ t0 < i + 1), decide_false, cnd_f]
    exact hP.trans e'