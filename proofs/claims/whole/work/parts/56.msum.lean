/-! the model: sums over a loop that has an expression -/
def smI (p j : Nat) : Int32 := smT.getD (6 * p + j) 0
def smL (p j : Nat) : Int64 := (smI p j).toInt64
/-- the power of the counter; the rest -/
def dgv (c v : Nat) : Nat := c / 6 ^ v % 6
def rst (c v : Nat) : Nat := c - dgv c v * 6 ^ v
theorem rst_ok {c v : Nat} (hc : vc c) (hv : v < 5) : dgv c v * 6 ^ v ≤ c ∧ vc (rst c v) ∧ degc (rst c v) + dgv c v = degc c ∧ dgv c v * 6 ^ v < 7776 := by
  have h' : v = 0 ∨ v = 1 ∨ v = 2 ∨ v = 3 ∨ v = 4 := by omega
  obtain ⟨a0, a1, a2, a3, a4, h0, h1, h2, h3, h4, e⟩ := dgs hc.1
  obtain ⟨A0, A1, A2, A3, A4⟩ := mk6_dg h0 h1 h2 h3 h4
  have key : ∀ q, q ≤ 6 → ∀ b0 b1 b2 b3 b4, b0 ≤ a0 → b1 ≤ a1 → b2 ≤ a2 → b3 ≤ a3 → b4 ≤ a4 → q = b0 + b1 + b2 + b3 + b4 → mk6 b0 b1 b2 b3 b4 ≤ c ∧ vc (c - mk6 b0 b1 b2 b3 b4) ∧ degc (c - mk6 b0 b1 b2 b3 b4) + q = degc c ∧ mk6 b0 b1 b2 b3 b4 < 7776 := by
    intro q hq b0 b1 b2 b3 b4 l0 l1 l2 l3 l4 eq
    have k0 := Nat.lt_of_le_of_lt l0 h0
    have k1 := Nat.lt_of_le_of_lt l1 h1
    have k2 := Nat.lt_of_le_of_lt l2 h2
    have k3 := Nat.lt_of_le_of_lt l3 h3
    have k4 := Nat.lt_of_le_of_lt l4 h4
    obtain ⟨B0, B1, B2, B3, B4⟩ := mk6_dg k0 k1 k2 k3 k4
    have hlt := mk6_lt k0 k1 k2 k3 k4
    have hs : sb (mk6 b0 b1 b2 b3 b4) c := by
      rw [sb_iff, e, A0, A1, A2, A3, A4, B0, B1, B2, B3, B4]
      exact ⟨l0, l1, l2, l3, l4⟩
    have hdg : degc (mk6 b0 b1 b2 b3 b4) = q := by
      show _ % 6 + _ / 6 % 6 + _ / 36 % 6 + _ / 216 % 6 + _ / 1296 % 6 = _
      rw [B0, B1, B2, B3, B4, eq]
    have hd := degc_sub hlt hc.1 hs
    rw [hdg] at hd
    exact ⟨(sbq_dg hlt hc.1 hs).1, vc_sub hlt hc hs, hd, hlt⟩
  unfold rst dgv
  rcases h' with rfl | rfl | rfl | rfl | rfl
  · have d : c / 6 ^ 0 % 6 = a0 := by rw [Nat.pow_zero, Nat.div_one, e]; exact A0
    rw [d, Nat.pow_zero, Nat.mul_one]
    have := key a0 (by omega) a0 0 0 0 0 (Nat.le_refl _) (Nat.zero_le _) (Nat.zero_le _) (Nat.zero_le _) (Nat.zero_le _) rfl
    have e2 : mk6 a0 0 0 0 0 = a0 := rfl
    rw [e2] at this; exact this
  · have d : c / 6 ^ 1 % 6 = a1 := by rw [e]; exact A1
    rw [d]
    have := key a1 (by omega) 0 a1 0 0 0 (Nat.zero_le _) (Nat.le_refl _) (Nat.zero_le _) (Nat.zero_le _) (Nat.zero_le _) (by omega)
    have e2 : mk6 0 a1 0 0 0 = a1 * 6 ^ 1 := by unfold mk6; omega
    rw [e2] at this; exact this
  · have d : c / 6 ^ 2 % 6 = a2 := by rw [e]; exact A2
    rw [d]
    have := key a2 (by omega) 0 0 a2 0 0 (Nat.zero_le _) (Nat.zero_le _) (Nat.le_refl _) (Nat.zero_le _) (Nat.zero_le _) (by omega)
    have e2 : mk6 0 0 a2 0 0 = a2 * 6 ^ 2 := by unfold mk6; omega
    rw [e2] at this; exact this
  · have d : c / 6 ^ 3 % 6 = a3 := by rw [e]; exact A3
    rw [d]
    have := key a3 (by omega) 0 0 0 a3 0 (Nat.zero_le _) (Nat.zero_le _) (Nat.zero_le _) (Nat.le_refl _) (Nat.zero_le _) (by omega)
    have e2 : mk6 0 0 0 a3 0 = a3 * 6 ^ 3 := by unfold mk6; omega
    rw [e2] at this; exact this
  · have d : c / 6 ^ 4 % 6 = a4 := by rw [e]; exact A4
    rw [d]
    have := key a4 (by omega) 0 0 0 0 a4 (Nat.zero_le _) (Nat.zero_le _) (Nat.zero_le _) (Nat.zero_le _) (Nat.le_refl _) (by omega)
    have e2 : mk6 0 0 0 0 a4 = a4 * 6 ^ 4 := by unfold mk6; omega
    rw [e2] at this; exact this
theorem m158J {G : AG} (hG : FIX G) {s : Nat → Nat × Nat} {mr : Nat → Nat → Nat} (hM : MS s mr) {n : Nat × Nat} {mi : Nat → Nat → Int32} (hT : MTab mi) {y1 y2 y3 y4 y5 y6 y7 : Int32} {r j : Nat} {R : Po} {y10 : Int32} {w by_ : Int64} {B : Po} (hr : vc r) (hj : j ≤ 5) (hdj : degc r + j ≤ 5) (hR : dle j R) (hb0 : by_ ≠ 0) : ∀ (f J : Nat) (o16 : Option AV) (ml : Nat → Nat → Int64), J + f = 252 → MPo (58 + j) R ml → (∀ k, k < 252 → ml 130 k = B (cd k) + (if sb r (cd k) ∧ rk (cd k - r) < J then by_ * R (cd k - r) else 0)) →
    ∃ ml' p15 p16, G 158 340 [some (.inr (.inr 114)), some (.inl y1), some (.inl y2), some (.inl y3), some (.inl y4), some (.inl y5), some (.inl y6), some (.inl y7), some (.inr (.inl w)), none, some (.inl y10), some (.inl (zi r)), some (.inl (zi j)), some (.inr (.inl by_)), none, some (.inl (zi J)), o16, none] [] (s, n, mi, ml, mr) = G 158 309 [some (.inr (.inr 114)), some (.inl y1), some (.inl y2), some (.inl y3), some (.inl y4), some (.inl y5), some (.inl y6), some (.inl y7), some (.inr (.inl w)), none, some (.inl y10), some (.inl (zi r)), some (.inl (zi (j + 1))), some (.inr (.inl by_)), none, p15, p16, none] [] (s, n, mi, ml', mr) ∧
      (∀ k, k < 252 → ml' 130 k = B (cd k) + by_ * Sh r R (cd k)) ∧ MD ml ml'
  | 0, J, o16, ml, hJ, hP, hB => by
    have e : J = 252 := by omega
    subst e
    refine ⟨ml, some (.inl (zi 252)), o16, ?_, fun k hk => ?_, fun _ _ => rfl⟩
    · rw [b158_340 hG]
      simp (disch := omega) only [zi_lit, zi_le, Nat.le_refl, decide_true, cnd_t]
      rw [b158_414 hG]
      simp only [zi_lit, zi_add]
    · rw [hB k hk]
      unfold Sh
      by_cases h : sb r (cd k)
      · rw [if_pos h, if_pos ⟨h, (cd_rk (vc_sub hr.1 (rk_cd hk).1 h)).2⟩]
      · rw [if_neg h, if_neg (fun h' => h h'.1), Int64.mul_zero]
  | f + 1, J, o16, ml, hJ, hP, hB => by
    have hJ2 : J < 252 := by omega
    have hPJ := hP J hJ2
    obtain ⟨vJ, rJ⟩ := rk_cd hJ2
    obtain ⟨ci, hi⟩ := cd_rk hr
    have cond : ∀ k, k < 252 → (sb r (cd k) ∧ rk (cd k - r) = J) → R (cd k - r) = R (cd J) := by
      intro k hk h
      have h3 := (cd_rk (vc_sub hr.1 (rk_cd hk).1 h.1)).1
      rw [h.2] at h3
      rw [h3]
    by_cases h0 : R (cd J) = 0
    · obtain ⟨ml', p15, p16, e', r1, r2⟩ := m158J hG hM hT (s := s) (mr := mr) (n := n) (mi := mi) (y1 := y1) (y2 := y2) (y3 := y3) (y4 := y4) (y5 := y5) (y6 := y6) (y7 := y7) hr hj hdj hR hb0 f (J + 1) (some (.inr (.inl (R (cd J))))) ml (by omega) hP (fun k hk => by
        rw [hB k hk]
        by_cases h1 : sb r (cd k) ∧ rk (cd k - r) < J
        · rw [if_pos h1, if_pos ⟨h1.1, by omega⟩]
        · rw [if_neg h1]
          by_cases h2 : sb r (cd k) ∧ rk (cd k - r) < J + 1
          · have h3 : rk (cd k - r) = J := by
              have : ¬ rk (cd k - r) < J := fun h => h1 ⟨h2.1, h⟩
              omega
            rw [if_pos h2, cond k hk ⟨h2.1, h3⟩, h0, Int64.mul_zero]
          · rw [if_neg h2])
      refine ⟨ml', p15, p16, ?_, r1, r2⟩
      rw [b158_340 hG]
      simp (disch := omega) only [zi_lit, zi_le, zi_add, zi_mul, bind_s, gm67 hM, am126 hM, hPJ, cmpz, eq_false hb0, eq_true h0, eq_false (by omega : ¬ 252 ≤ J), decide_true, decide_false, cnd_t, cnd_f]
      rw [b158_408 hG]
      simp only [zi_lit, zi_add]
      exact e'
    · have hdJ : degc (cd J) ≤ j := by
        rcases Nat.lt_or_ge j (degc (cd J)) with h | h
        · exact absurd (hR _ vJ h) h0
        · exact h
      have hsum : degc (cd (rk r)) + degc (cd J) < 6 := by rw [ci]; omega
      have row := fun {k : Nat} (hk : k < 252) => add_row hi hJ2 hk hsum
      rw [ci] at hsum row
      obtain ⟨vs, hs, -⟩ := sb_add hr.1 vJ.1 hsum
      obtain ⟨c1, c2⟩ := cd_rk vs
      have hrow : mi 123 (r + cd J) = zi (rk (r + cd J)) := by rw [hT.2.1 _ vs.1, if_pos vs.2]
      obtain ⟨ml', p15, p16, e', r1, r2⟩ := m158J hG hM hT (s := s) (mr := mr) (n := n) (mi := mi) (y1 := y1) (y2 := y2) (y3 := y3) (y4 := y4) (y5 := y5) (y6 := y6) (y7 := y7) hr hj hdj hR hb0 f (J + 1) (some (.inr (.inl (R (cd J))))) (up2 ml 130 (rk (r + cd J)) (ml 130 (rk (r + cd J)) + by_ * R (cd J))) (by omega) (MPo_MD hP MD_up) (fun k hk => by
        rw [up2_s]
        by_cases e : k = rk (r + cd J)
        · have h1 := (row hk).mpr e
          rw [← e, up1_s, hB k hk, if_neg (fun h => by have := h.2; omega), Int64.add_zero, if_pos ⟨h1.1, by omega⟩, cond k hk h1]
        · rw [up1_n _ _ e, hB k hk]
          by_cases h1 : sb r (cd k) ∧ rk (cd k - r) < J
          · rw [if_pos h1, if_pos ⟨h1.1, by omega⟩]
          · rw [if_neg h1, if_neg]
            intro h2
            have h3 : rk (cd k - r) = J := by
              have : ¬ rk (cd k - r) < J := fun h => h1 ⟨h2.1, h⟩
              omega
            exact e ((row hk).mp ⟨h2.1, h3⟩))
      refine ⟨ml', p15, p16, ?_, r1, MD_trans MD_up r2⟩
      have e160 := fun {k : Nat} (hk : k < 252) => m160 hG hM (n := n) (mi := mi) (ml := ml) hT hk
      have hlt := vs.1
      rw [b158_340 hG]
      simp (disch := omega) only [km hM, Nat.beq_refl, zi_lit, zi_le, zi_add, zi_mul, bind_s, as_I, gm67 hM, gm71 hM, gm62 hM, am126 hM, hPJ, cmpz, eq_false hb0, eq_false h0, eq_false (by omega : ¬ 252 ≤ J), decide_true, decide_false, cnd_t, cnd_f, e160 hJ2, am123 hM, hrow, am130 hM, wm130 hM]
      rw [b158_408 hG]
      simp only [zi_lit, zi_add]
      exact e'
theorem m158I {G : AG} (hG : FIX G) {s : Nat → Nat × Nat} {mr : Nat → Nat → Nat} (hM : MS s mr) {n : Nat × Nat} {mi : Nat → Nat → Int32} (hT : MTab mi) {y1 y2 y3 y4 y5 y6 y7 : Int32} {r p : Nat} {e : Nat → Int64} {d : Nat} {w : Int64} {B : Po} (hr : vc r) (hp : p ≤ 4) (hd : d ≤ 3) (hdp : degc r + p ≤ 4) : ∀ (f j : Nat) (o13 o15 o16 : Option AV) (ml : Nat → Nat → Int64), j + f = p + 1 → (∀ i, i < 6 → MPo (58 + i) (pwE e d i (del 0)) ml) → (∀ k, k < 252 → ml 130 k = B (cd k) + sm j (fun x => w * smL p (x + 1) * Sh r (pwE e d (x + 1) (del 0)) (cd k))) →
    ∃ ml' p10 p11 p12 p13 p15 p16, G 158 309 [some (.inr (.inr 114)), some (.inl y1), some (.inl y2), some (.inl y3), some (.inl y4), some (.inl y5), some (.inl y6), some (.inl y7), some (.inr (.inl w)), none, some (.inl (zi p)), some (.inl (zi r)), some (.inl (zi (j + 1))), o13, none, o15, o16, none] [] (s, n, mi, ml, mr) = G 158 236 [some (.inr (.inr 114)), some (.inl y1), some (.inl y2), some (.inl y3), some (.inl y4), some (.inl y5), some (.inl y6), some (.inl (y7 + 1)), some (.inr (.inl w)), none, p10, p11, p12, p13, none, p15, p16, none] [] (s, n, mi, ml', mr) ∧
      (∀ k, k < 252 → ml' 130 k = B (cd k) + sm (p + 1) (fun x => w * smL p (x + 1) * Sh r (pwE e d (x + 1) (del 0)) (cd k))) ∧ MD ml ml'
  | 0, j, o13, o15, o16, ml, hj, hP, hB => by
    have e : j = p + 1 := by omega
    subst e
    refine ⟨ml, some (.inl (zi p)), some (.inl (zi r)), some (.inl (zi (p + 1 + 1))), o13, o15, o16, ?_, hB, fun _ _ => rfl⟩
    rw [b158_309 hG]
    simp (disch := omega) only [zi_lit, zi_add, zi_lt, eq_true (by omega : p + 1 < p + 1 + 1), decide_true, cnd_t]
    rw [b158_420 hG]
    rfl
  | f + 1, j, o13, o15, o16, ml, hj, hP, hB => by
    have hsm : mi 132 (6 * p + (j + 1)) = smI p (j + 1) := hT.2.2 _ (by omega)
    have hsL : (smI p (j + 1)).toInt64 = smL p (j + 1) := rfl
    by_cases h0 : w * smL p (j + 1) = 0
    · obtain ⟨ml', p10, p11, p12, p13, p15, p16, e', r1, r2⟩ := m158I hG hM hT (s := s) (mr := mr) (n := n) (mi := mi) (y1 := y1) (y2 := y2) (y3 := y3) (y4 := y4) (y5 := y5) (y6 := y6) (y7 := y7) hr hp hd hdp f (j + 1) (some (.inr (.inl (w * smL p (j + 1))))) (some (.inl (zi 0))) o16 ml (by omega) hP (fun k hk => by
        rw [hB k hk]
        show _ = _ + (sm j (fun x => w * smL p (x + 1) * Sh r (pwE e d (x + 1) (del 0)) (cd k)) + w * smL p (j + 1) * Sh r (pwE e d (j + 1) (del 0)) (cd k))
        rw [h0, Int64.zero_mul, Int64.add_zero])
      refine ⟨ml', p10, p11, p12, p13, p15, p16, ?_, r1, r2⟩
      rw [b158_309 hG]
      simp (disch := omega) only [zi_lit, zi_add, zi_mul, zi_lt, bind_s, gm73 hM, am132 hM, hsm, hsL, eq_false (by omega : ¬ p + 1 < j + 1), decide_false, cnd_f]
      rw [b158_340 hG]
      simp (disch := omega) only [zi_lit, zi_le, cmpz, eq_true h0, decide_true, decide_false, cnd_t, cnd_f, Nat.reduceLeDiff]
      rw [b158_414 hG]
      simp only [zi_lit, zi_add]
      exact e'
    · obtain ⟨m1, p15, p16, e1, r1, r2⟩ := m158J hG hM hT (n := n) (y1 := y1) (y2 := y2) (y3 := y3) (y4 := y4) (y5 := y5) (y6 := y6) (y7 := y7) (y10 := zi p) (w := w) (by_ := w * smL p (j + 1)) (B := fun c => B c + sm j (fun x => w * smL p (x + 1) * Sh r (pwE e d (x + 1) (del 0)) c)) hr (by omega : j + 1 ≤ 5) (by omega) (dle_pwE (e := e) (d := d) hd (j + 1)) h0 252 0 o16 ml (by omega) (hP (j + 1) (by omega)) (fun k hk => by
        rw [hB k hk, if_neg (fun h => Nat.not_lt_zero _ h.2), Int64.add_zero])
      obtain ⟨ml', p10, p11, p12, p13, q15, q16, e', s1, s2⟩ := m158I hG hM hT (s := s) (mr := mr) (n := n) (mi := mi) (y1 := y1) (y2 := y2) (y3 := y3) (y4 := y4) (y5 := y5) (y6 := y6) (y7 := y7) hr hp hd hdp f (j + 1) (some (.inr (.inl (w * smL p (j + 1))))) p15 p16 m1 (by omega) (fun i hi => MPo_MD (hP i hi) r2) (fun k hk => by
        rw [r1 k hk]
        show B (cd k) + sm j (fun x => w * smL p (x + 1) * Sh r (pwE e d (x + 1) (del 0)) (cd k)) + w * smL p (j + 1) * Sh r (pwE e d (j + 1) (del 0)) (cd k) = B (cd k) + (sm j (fun x => w * smL p (x + 1) * Sh r (pwE e d (x + 1) (del 0)) (cd k)) + w * smL p (j + 1) * Sh r (pwE e d (j + 1) (del 0)) (cd k))
        rw [Int64.add_assoc])
      refine ⟨ml', p10, p11, p12, p13, q15, q16, ?_, s1, MD_trans r2 s2⟩
      rw [b158_309 hG]
      simp (disch := omega) only [zi_lit, zi_add, zi_mul, zi_lt, bind_s, gm73 hM, am132 hM, hsm, hsL, eq_false (by omega : ¬ p + 1 < j + 1), decide_false, cnd_f]
      exact e1.trans e'