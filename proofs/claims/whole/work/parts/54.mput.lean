/-! the model: expressions put in -/
/-- only row 'made' has changed -/
def MD (ml ml' : Nat → Nat → Int64) : Prop := ∀ a, a ≠ 130 → ml' a = ml a
theorem MD_up {ml : Nat → Nat → Int64} {k : Nat} {v : Int64} : MD ml (up2 ml 130 k v) := fun a ha => up2_n _ _ ha
theorem MD_trans {a b c} (h : MD a b) (h' : MD b c) : MD a c := fun x hx => (h' x hx).trans (h x hx)
theorem MPo_MD {u : Nat} {P : Po} {a b} (h : MPo u P a) (hf : MD a b) : MPo u P b := fun k hk => by rw [hf 126 (by decide)]; exact h k hk
theorem add_row {i J k : Nat} (hi : i < 252) (hJ : J < 252) (hk : k < 252) (hd : degc (cd i) + degc (cd J) < 6) : (sb (cd i) (cd k) ∧ rk (cd k - cd i) = J) ↔ k = rk (cd i + cd J) := by
  obtain ⟨vi, ri⟩ := rk_cd hi
  obtain ⟨vJ, rJ⟩ := rk_cd hJ
  obtain ⟨vk, rkk⟩ := rk_cd hk
  obtain ⟨vs, hs, -⟩ := sb_add vi.1 vJ.1 hd
  constructor
  · rintro ⟨h1, h2⟩
    have h3 := (cd_rk (vc_sub vi.1 vk h1)).1
    rw [h2] at h3
    have h5 := (sbq_dg vi.1 vk.1 h1).1
    rw [h3, Nat.add_comm, Nat.sub_add_cancel h5, rkk]
  · intro h
    have h3 := (cd_rk vs).1
    rw [← h] at h3
    rw [h3, Nat.add_comm, Nat.add_sub_cancel, rJ]
    rw [Nat.add_comm] at hs
    exact ⟨hs, rfl⟩
theorem m163J {G : AG} (hG : FIX G) {s : Nat → Nat × Nat} {mr : Nat → Nat → Nat} (hM : MS s mr) {n : Nat × Nat} {mi : Nat → Nat → Int32} (hT : MTab mi) {y1 y2 y3 y4 y5 : Int32} {a b : Nat} {F R : Po} (hab : a + b ≤ 5) (hF : dle a F) (hR : dle b R) {i : Nat} {y6 y9 : Int32} {w : Int64} {B : Po} (hi : i < 252) (hf0 : F (cd i) ≠ 0) : ∀ (f J : Nat) (o15 : Option AV) (ml : Nat → Nat → Int64), J + f = 252 → MPo (64 + b) R ml → (∀ k, k < 252 → ml 130 k = B (cd k) + (if sb (cd i) (cd k) ∧ rk (cd k - cd i) < J then w * F (cd i) * R (cd k - cd i) else 0)) →
    ∃ ml' p14 p15, G 163 151 [some (.inr (.inr 114)), some (.inl y1), some (.inl y2), some (.inl y3), some (.inl y4), some (.inl y5), some (.inl y6), some (.inr (.inl w)), none, some (.inl y9), some (.inl (zi (64 + b))), some (.inl (zi i)), some (.inr (.inl (F (cd i)))), none, some (.inl (zi J)), o15, none] [] (s, n, mi, ml, mr) = G 163 124 [some (.inr (.inr 114)), some (.inl y1), some (.inl y2), some (.inl y3), some (.inl y4), some (.inl y5), some (.inl y6), some (.inr (.inl w)), none, some (.inl y9), some (.inl (zi (64 + b))), some (.inl (zi (i + 1))), some (.inr (.inl (F (cd i)))), none, p14, p15, none] [] (s, n, mi, ml', mr) ∧
      (∀ k, k < 252 → ml' 130 k = B (cd k) + w * F (cd i) * Sh (cd i) R (cd k)) ∧ MD ml ml'
  | 0, J, o15, ml, hJ, hP, hB => by
    have e : J = 252 := by omega
    subst e
    refine ⟨ml, some (.inl (zi 252)), o15, ?_, fun k hk => ?_, fun _ _ => rfl⟩
    · rw [b163_151 hG]
      simp (disch := omega) only [zi_lit, zi_le, Nat.le_refl, decide_true, cnd_t]
      rw [b163_229 hG]
      simp only [zi_lit, zi_add]
    · rw [hB k hk]
      unfold Sh
      by_cases h : sb (cd i) (cd k)
      · rw [if_pos h, if_pos ⟨h, (cd_rk (vc_sub (rk_cd hi).1.1 (rk_cd hk).1 h)).2⟩]
      · rw [if_neg h, if_neg (fun h' => h h'.1), Int64.mul_zero]
  | f + 1, J, o15, ml, hJ, hP, hB => by
    have hJ2 : J < 252 := by omega
    have hPJ := hP J hJ2
    obtain ⟨vi, ri⟩ := rk_cd hi
    obtain ⟨vJ, rJ⟩ := rk_cd hJ2
    have cond : ∀ k, k < 252 → (sb (cd i) (cd k) ∧ rk (cd k - cd i) = J) → R (cd k - cd i) = R (cd J) := by
      intro k hk h
      have h3 := (cd_rk (vc_sub vi.1 (rk_cd hk).1 h.1)).1
      rw [h.2] at h3
      rw [h3]
    by_cases h0 : R (cd J) = 0
    · obtain ⟨ml', p14, p15, e', r1, r2⟩ := m163J hG hM hT hab hF hR (s := s) (mr := mr) (n := n) (mi := mi) (y1 := y1) (a := a) (F := F) hi hf0 f (J + 1) (some (.inr (.inl (R (cd J))))) ml (by omega) hP (fun k hk => by
        rw [hB k hk]
        by_cases h1 : sb (cd i) (cd k) ∧ rk (cd k - cd i) < J
        · rw [if_pos h1, if_pos ⟨h1.1, by omega⟩]
        · rw [if_neg h1]
          by_cases h2 : sb (cd i) (cd k) ∧ rk (cd k - cd i) < J + 1
          · have h3 : rk (cd k - cd i) = J := by
              have : ¬ rk (cd k - cd i) < J := fun h => h1 ⟨h2.1, h⟩
              omega
            rw [if_pos h2, cond k hk ⟨h2.1, h3⟩, h0, Int64.mul_zero]
          · rw [if_neg h2])
      refine ⟨ml', p14, p15, ?_, r1, r2⟩
      rw [b163_151 hG]
      simp (disch := omega) only [zi_lit, zi_le, zi_add, zi_mul, bind_s, gm67 hM, am126 hM, hPJ, cmpz, eq_false hf0, eq_true h0, eq_false (by omega : ¬ 252 ≤ J), decide_true, decide_false, cnd_t, cnd_f]
      rw [b163_223 hG]
      simp only [zi_lit, zi_add]
      exact e'
    · have hdi : degc (cd i) ≤ a := by
        rcases Nat.lt_or_ge a (degc (cd i)) with h | h
        · exact absurd (hF _ vi h) hf0
        · exact h
      have hdJ : degc (cd J) ≤ b := by
        rcases Nat.lt_or_ge b (degc (cd J)) with h | h
        · exact absurd (hR _ vJ h) h0
        · exact h
      have hsum : degc (cd i) + degc (cd J) < 6 := by omega
      obtain ⟨vs, hs, -⟩ := sb_add vi.1 vJ.1 hsum
      obtain ⟨c1, c2⟩ := cd_rk vs
      have hrow : mi 123 (cd i + cd J) = zi (rk (cd i + cd J)) := by rw [hT.2.1 _ vs.1, if_pos vs.2]
      have hBk := hB _ c2
      obtain ⟨ml', p14, p15, e', r1, r2⟩ := m163J hG hM hT hab hF hR (s := s) (mr := mr) (n := n) (mi := mi) (y1 := y1) (a := a) (F := F) hi hf0 f (J + 1) (some (.inr (.inl (R (cd J))))) (up2 ml 130 (rk (cd i + cd J)) (ml 130 (rk (cd i + cd J)) + w * F (cd i) * R (cd J))) (by omega) (MPo_MD hP MD_up) (fun k hk => by
        rw [up2_s]
        by_cases e : k = rk (cd i + cd J)
        · have h1 := (add_row hi hJ2 hk hsum).mpr e
          rw [← e, up1_s, hB k hk, if_neg (fun h => by have := h.2; omega), Int64.add_zero, if_pos ⟨h1.1, by omega⟩, cond k hk h1]
        · rw [up1_n _ _ e, hB k hk]
          by_cases h1 : sb (cd i) (cd k) ∧ rk (cd k - cd i) < J
          · rw [if_pos h1, if_pos ⟨h1.1, by omega⟩]
          · rw [if_neg h1, if_neg]
            intro h2
            have h3 : rk (cd k - cd i) = J := by
              have : ¬ rk (cd k - cd i) < J := fun h => h1 ⟨h2.1, h⟩
              omega
            exact e ((add_row hi hJ2 hk hsum).mp ⟨h2.1, h3⟩))
      refine ⟨ml', p14, p15, ?_, r1, MD_trans MD_up r2⟩
      have e160 := fun {k : Nat} (hk : k < 252) => m160 hG hM (n := n) (mi := mi) (ml := ml) hT hk
      have hlt := vs.1
      rw [b163_151 hG]
      simp (disch := omega) only [km hM, Nat.beq_refl, zi_lit, zi_le, zi_add, zi_mul, bind_s, as_I, gm67 hM, gm71 hM, gm62 hM, am126 hM, hPJ, cmpz, eq_false hf0, eq_false h0, eq_false (by omega : ¬ 252 ≤ J), decide_true, decide_false, cnd_t, cnd_f, e160 hi, e160 hJ2, am123 hM, hrow, am130 hM, wm130 hM]
      rw [b163_223 hG]
      simp only [zi_lit, zi_add]
      exact e'
theorem m163I {G : AG} (hG : FIX G) {s : Nat → Nat × Nat} {mr : Nat → Nat → Nat} (hM : MS s mr) {n : Nat × Nat} {mi : Nat → Nat → Int32} (hT : MTab mi) {y1 y2 y3 y4 y5 : Int32} {a b : Nat} {F R : Po} (hab : a + b ≤ 5) (hF : dle a F) (hR : dle b R) {y6 : Int32} {w : Int64} {B : Po} : ∀ (f i : Nat) (o12 o14 o15 : Option AV) (ml : Nat → Nat → Int64), i + f = 252 → MPo (58 + a) F ml → MPo (64 + b) R ml → (∀ k, k < 252 → ml 130 k = B (cd k) + sm i (fun x => w * F (cd x) * Sh (cd x) R (cd k))) →
    ∃ ml' p9 p10 p11 p12 p14 p15, G 163 124 [some (.inr (.inr 114)), some (.inl y1), some (.inl y2), some (.inl y3), some (.inl y4), some (.inl y5), some (.inl y6), some (.inr (.inl w)), none, some (.inl (zi (58 + a))), some (.inl (zi (64 + b))), some (.inl (zi i)), o12, none, o14, o15, none] [] (s, n, mi, ml, mr) = G 163 60 [some (.inr (.inr 114)), some (.inl y1), some (.inl y2), some (.inl y3), some (.inl y4), some (.inl y5), some (.inl (y6 + 1)), some (.inr (.inl w)), none, p9, p10, p11, p12, none, p14, p15, none] [] (s, n, mi, ml', mr) ∧
      (∀ k, k < 252 → ml' 130 k = B (cd k) + sm 252 (fun x => w * F (cd x) * Sh (cd x) R (cd k))) ∧ MD ml ml'
  | 0, i, o12, o14, o15, ml, hi, hP, hP2, hB => by
    have e : i = 252 := by omega
    subst e
    refine ⟨ml, some (.inl (zi (58 + a))), some (.inl (zi (64 + b))), some (.inl (zi 252)), o12, o14, o15, ?_, hB, fun _ _ => rfl⟩
    rw [b163_124 hG]
    simp (disch := omega) only [zi_lit, zi_le, Nat.le_refl, decide_true, cnd_t]
    rw [b163_235 hG]
    rfl
  | f + 1, i, o12, o14, o15, ml, hi, hP, hP2, hB => by
    have hi2 : i < 252 := by omega
    have hPi := hP i hi2
    by_cases h0 : F (cd i) = 0
    · obtain ⟨ml', p9, p10, p11, p12, p14, p15, e', r1, r2⟩ := m163I hG hM hT hab hF hR (s := s) (mr := mr) (n := n) (mi := mi) (y1 := y1) (a := a) (F := F) f (i + 1) (some (.inr (.inl (F (cd i))))) (some (.inl (zi 0))) o15 ml (by omega) hP hP2 (fun k hk => by
        rw [hB k hk]
        show _ = _ + (sm i (fun x => w * F (cd x) * Sh (cd x) R (cd k)) + w * F (cd i) * Sh (cd i) R (cd k))
        rw [h0, Int64.mul_zero, Int64.zero_mul, Int64.add_zero])
      refine ⟨ml', p9, p10, p11, p12, p14, p15, ?_, r1, r2⟩
      rw [b163_124 hG]
      simp (disch := omega) only [zi_lit, zi_le, zi_add, zi_mul, bind_s, gm67 hM, am126 hM, hPi, eq_false (by omega : ¬ 252 ≤ i), decide_false, cnd_f]
      rw [b163_151 hG]
      simp (disch := omega) only [zi_lit, zi_le, cmpz, eq_true h0, decide_true, decide_false, cnd_t, cnd_f, Nat.reduceLeDiff]
      rw [b163_229 hG]
      simp only [zi_lit, zi_add]
      exact e'
    · obtain ⟨m1, p14, p15, e1, r1, r2⟩ := m163J hG hM hT hab hF hR (n := n) (y1 := y1) (y2 := y2) (y3 := y3) (y4 := y4) (y5 := y5) (y6 := y6) (y9 := zi (58 + a)) (w := w) (B := fun c => B c + sm i (fun x => w * F (cd x) * Sh (cd x) R c)) hi2 h0 252 0 o15 ml (by omega) hP2 (fun k hk => by
        rw [hB k hk, if_neg (fun h => Nat.not_lt_zero _ h.2), Int64.add_zero])
      obtain ⟨ml', p9, p10, p11, p12, q14, q15, e', s1, s2⟩ := m163I hG hM hT hab hF hR (s := s) (mr := mr) (n := n) (mi := mi) (y1 := y1) (a := a) (F := F) f (i + 1) (some (.inr (.inl (F (cd i))))) p14 p15 m1 (by omega) (MPo_MD hP r2) (MPo_MD hP2 r2) (fun k hk => by
        rw [r1 k hk]
        show B (cd k) + sm i (fun x => w * F (cd x) * Sh (cd x) R (cd k)) + w * F (cd i) * Sh (cd i) R (cd k) = B (cd k) + (sm i (fun x => w * F (cd x) * Sh (cd x) R (cd k)) + w * F (cd i) * Sh (cd i) R (cd k))
        rw [Int64.add_assoc])
      refine ⟨ml', p9, p10, p11, p12, q14, q15, ?_, s1, MD_trans r2 s2⟩
      rw [b163_124 hG]
      simp (disch := omega) only [zi_lit, zi_le, zi_add, zi_mul, bind_s, gm67 hM, am126 hM, hPi, eq_false (by omega : ¬ 252 ≤ i), decide_false, cnd_f]
      exact e1.trans e'