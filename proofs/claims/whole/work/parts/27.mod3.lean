/-! the model: ops come and go -/
/-- the program has changed, and what is known of it is gone -/
def MC (mi mi' : Nat → Nat → Int32) : Prop := (∀ a, a < 114 → mi' a = mi a) ∧ (∀ a, 142 ≤ a → mi' a = mi a) ∧ (∀ a, 120 ≤ a → a ≤ 123 → mi' a = mi a) ∧ (∀ a, 126 ≤ a → a ≤ 132 → mi' a = mi a) ∧ (∀ f, f < 63 → f ≠ 50 → f ≠ 60 → mi' 114 f = mi 114 f) ∧ mi' 114 60 = bz false
theorem MC_MK {a b c} (h : MK a b) (h' : MC b c) : MC a c :=
  ⟨fun x hx => (h'.1 x hx).trans (h.1 x hx), fun x hx => (h'.2.1 x hx).trans (h.2.1 x hx), fun x h1 h2 => (h'.2.2.1 x h1 h2).trans (h.2.2.1 x (by omega) h2), fun x h1 h2 => (h'.2.2.2.1 x h1 h2).trans (h.2.2.2.1 x h1 h2), fun f h1 h2 h3 => (h'.2.2.2.2.1 f h1 h2 h3).trans (h.2.2.2.2 f h1), h'.2.2.2.2.2⟩
def MX (x : Nat → Nat) (mi : Nat → Nat → Int32) : Prop := ∀ q, q < 12 → mi 120 q = zi (x q)
theorem MX_up {x mi} (h : MX x mi) (k v : Nat) : MX (up1 x k v) (up2 mi 120 k (zi v)) := by
  intro q hq
  rw [up2_s]
  by_cases e : q = k
  · rw [e, up1_s, up1_s]
  · rw [up1_n _ _ e, up1_n _ _ e]; exact h q hq
/-- an op comes: the answer and the program behind it -/
def cm (Q : Pg) (r k w d : Nat) (t : Nat → Nat) : Int32 × Pg := if qn Q r = 24 then (-1000003, Q) else (zi (qn Q r), psh Q r k w d t)
theorem m133L {G : AG} (hG : FIX G) {s : Nat → Nat × Nat} {mr : Nat → Nat → Nat} (hM : MS s mr) {n : Nat × Nat} {ml : Nat → Nat → Int64} {r c at_ : Nat} {x : Nat → Nat} {v2 v3 v4 : Int32} (hr : r < 8) (hc : c < 24) (ha : at_ < 192) : ∀ (d k : Nat) (mi : Nat → Nat → Int32), k + d = 12 → MX x mi → mi 115 r = zi c →
    ∃ mi', G 133 55 [some (.inr (.inr 114)), some (.inl (zi r)), some (.inl v2), some (.inl v3), some (.inl v4), some (.inl (zi at_)), some (.inl (zi k))] [] (s, n, mi, ml, mr) = some (some (.inl (zi c)), (s, n, mi', ml, mr)) ∧
      (∀ q, k ≤ q → q < 12 → mi' 119 (12 * at_ + q) = zi (x q)) ∧ (∀ j, j < 12 * at_ + k ∨ 12 * at_ + 12 ≤ j → mi' 119 j = mi 119 j) ∧ mi' 115 r = zi (c + 1) ∧ (∀ r', r' ≠ r → mi' 115 r' = mi 115 r') ∧ mi' 114 60 = bz false ∧ (∀ f, f ≠ 60 → mi' 114 f = mi 114 f) ∧ (∀ a, a ≠ 114 → a ≠ 115 → a ≠ 119 → mi' a = mi a)
  | 0, k, mi, hk, hx, h115 => by
    have e : k = 12 := by omega
    subst e
    refine ⟨up2 (up2 mi 115 r (zi (c + 1))) 114 60 (bz false), ?_, fun q h1 h2 => by omega, fun j hj => ?_, ?_, fun r' h => ?_, ?_, fun f hf => ?_, fun a h1 h2 h3 => ?_⟩
    · rw [b133_55 hG]
      simp (disch := omega) only [gm51 hM, am115 hM, wm115 hM, gm52 hM, am116 hM, wm116 hM, gm53 hM, am117 hM, wm117 hM, gm54 hM, am118 hM, wm118 hM, pm60 hM, pm60o hM, pm60l hM, gm55 hM, am119 hM, wm119 hM, gm56 hM, am120 hM, wm120 hM, ne_eq, Nat.not_lt_zero, Nat.zero_le, eq_self, not_true_eq_false, not_false_eq_true, decide_true, decide_false, Bool.not_true, Bool.not_false, Bool.true_and, Bool.false_and, Bool.and_true, Bool.and_false, Bool.or_true, Bool.true_or, Bool.false_or, Bool.or_false, Nat.beq_refl, bind_s, as_I, as_J, as_R, as_V, cnd_t, cnd_f, bz_ret, bzp_0, bzp_1, bzp_z0, bzp_z1, dec_bf, dec_bt, dec_nbf, dec_nbt, Bool.false_eq_true, Bool.true_eq_false, ret_0, ret_1, ret_z0, ret_z1, zi_lit, zi_add, zi_mul, zi_lt, zi_le, zi_eq, zi_sub, Nat.le_refl, h115, up2_s, up2_n, up1_s, Nat.add_sub_cancel]
    · simp (disch := omega) only [up2_n]
    · simp (disch := omega) only [up2_s, up2_n, up1_s]
    · simp (disch := omega) only [up2_s, up2_n, up1_n _ _ h]
    · simp (disch := omega) only [up2_s, up1_s]
    · simp (disch := omega) only [up2_s, up2_n, up1_n]
    · simp (disch := omega) only [up2_n]
  | d + 1, k, mi, hk, hx, h115 => by
    obtain ⟨mi', e', r1, r2, r3, r4, r5, r6, r7⟩ := m133L hG hM (s := s) (mr := mr) (n := n) (ml := ml) hr hc ha d (k + 1) (up2 mi 119 (12 * at_ + k) (zi (x k))) (by omega) (fun q hq => by rw [up2_n _ _ (by decide)]; exact hx q hq) (by rw [up2_n _ _ (by decide)]; exact h115)
    refine ⟨mi', ?_, fun q h1 h2 => ?_, fun j hj => ?_, r3, fun r' h => ?_, r5, fun f hf => ?_, fun a h1 h2 h3 => ?_⟩
    · rw [b133_55 hG]
      simp (disch := omega) only [gm51 hM, am115 hM, wm115 hM, gm52 hM, am116 hM, wm116 hM, gm53 hM, am117 hM, wm117 hM, gm54 hM, am118 hM, wm118 hM, pm60 hM, pm60o hM, pm60l hM, gm55 hM, am119 hM, wm119 hM, gm56 hM, am120 hM, wm120 hM, ne_eq, Nat.not_lt_zero, Nat.zero_le, eq_self, not_true_eq_false, not_false_eq_true, decide_true, decide_false, Bool.not_true, Bool.not_false, Bool.true_and, Bool.false_and, Bool.and_true, Bool.and_false, Bool.or_true, Bool.true_or, Bool.false_or, Bool.or_false, Nat.beq_refl, bind_s, as_I, as_J, as_R, as_V, cnd_t, cnd_f, bz_ret, bzp_0, bzp_1, bzp_z0, bzp_z1, dec_bf, dec_bt, dec_nbf, dec_nbt, Bool.false_eq_true, Bool.true_eq_false, ret_0, ret_1, ret_z0, ret_z1, zi_lit, zi_add, zi_mul, zi_lt, zi_le, zi_eq, zi_sub, hx k (by omega), eq_false (by omega : ¬ 12 ≤ k)]
      exact e'
    · by_cases e : q = k
      · rw [r2 _ (by omega), e, up2_s, up1_s]
      · exact r1 q (by omega) h2
    · rw [r2 j (by omega), up2_s, up1_n _ _ (by omega)]
    · rw [r4 r' h, up2_n _ _ (by decide)]
    · rw [r6 f hf, up2_n _ _ (by decide)]
    · rw [r7 a h1 h2 h3, up2_n _ _ h3]
theorem m133_f {G : AG} (hG : FIX G) {s : Nat → Nat × Nat} {mr : Nat → Nat → Nat} (hM : MS s mr) {n : Nat × Nat} {ml : Nat → Nat → Int64} {r k : Nat} {v2 v3 v4 : Int32} (hr : r < 8) {mi : Nat → Nat → Int32} (h115 : mi 115 r = zi 24) : G 133 0 [some (.inr (.inr 114)), some (.inl (zi r)), some (.inl v2), some (.inl v3), some (.inl v4), none, none] [] (s, n, mi, ml, mr) = some (some (.inl (-1000003)), (s, n, mi, ml, mr)) := by
  rw [b133_0 hG]
  simp (disch := omega) only [gm51 hM, am115 hM, wm115 hM, gm52 hM, am116 hM, wm116 hM, gm53 hM, am117 hM, wm117 hM, gm54 hM, am118 hM, wm118 hM, pm60 hM, pm60o hM, pm60l hM, gm55 hM, am119 hM, wm119 hM, gm56 hM, am120 hM, wm120 hM, ne_eq, Nat.not_lt_zero, Nat.zero_le, eq_self, not_true_eq_false, not_false_eq_true, decide_true, decide_false, Bool.not_true, Bool.not_false, Bool.true_and, Bool.false_and, Bool.and_true, Bool.and_false, Bool.or_true, Bool.true_or, Bool.false_or, Bool.or_false, Nat.beq_refl, bind_s, as_I, as_J, as_R, as_V, cnd_t, cnd_f, bz_ret, bzp_0, bzp_1, bzp_z0, bzp_z1, dec_bf, dec_bt, dec_nbf, dec_nbt, Bool.false_eq_true, Bool.true_eq_false, ret_0, ret_1, ret_z0, ret_z1, zi_lit, h115]
theorem m133 {G : AG} (hG : FIX G) {s : Nat → Nat × Nat} {mr : Nat → Nat → Nat} (hM : MS s mr) {n : Nat × Nat} {ml : Nat → Nat → Int64} {Q : Pg} {x : Nat → Nat} {mi : Nat → Nat → Int32} (hQ : mdQ Q mi) (hW : WP Q) (hx : MX x mi) {r : Nat} (k w d : Nat) (v3 v4 : Int32) (hr : r < 8) (h3 : k = 1 → v3 = zi w) (h4 : k = 4 → v4 = zi d) :
    ∃ mi', G 133 0 [some (.inr (.inr 114)), some (.inl (zi r)), some (.inl (zi k)), some (.inl v3), some (.inl v4), none, none] [] (s, n, mi, ml, mr) = some (some (.inl (cm Q r k w d x).1), (s, n, mi', ml, mr)) ∧ mdQ (cm Q r k w d x).2 mi' ∧ (MC mi mi' ∨ (mi' = mi ∧ (cm Q r k w d x).2 = Q)) := by
  have h24 := hW.2.1 r
  obtain ⟨hQ1, hQ2, hQ3⟩ := hQ
  unfold cm
  by_cases hn : qn Q r = 24
  · rw [if_pos hn]
    exact ⟨mi, m133_f hG hM hr (k := k) (by rw [hQ2 r hr, hn]), ⟨hQ1, hQ2, hQ3⟩, Or.inr ⟨rfl, rfl⟩⟩
  · rw [if_neg hn]
    have hlt : qn Q r < 24 := by omega
    obtain ⟨mi', e', r1, r2, r3, r4, r5, r6, r7⟩ := m133L hG hM (n := n) (ml := ml) (x := x) (v2 := zi k) (v3 := v3) (v4 := v4) hr hlt (at_ := 24 * r + qn Q r) (by omega) 12 0 (up2 (up2 (up2 mi 116 (24 * r + qn Q r) (zi k)) 117 (24 * r + qn Q r) v3) 118 (24 * r + qn Q r) v4) (by omega)
      (fun q hq => by simp (disch := omega) only [up2_n]; exact hx q hq) (by simp (disch := omega) only [up2_n]; exact hQ2 r hr)
    refine ⟨mi', ?_, ⟨?_, fun a ha => ?_, fun a p ha hp => ?_⟩, Or.inl ⟨fun a h => ?_, fun a h => ?_, fun a h h' => ?_, fun a h h' => ?_, fun f h h1 h2 => ?_, r5⟩⟩
    · rw [b133_0 hG]
      simp (disch := omega) only [gm51 hM, am115 hM, wm115 hM, gm52 hM, am116 hM, wm116 hM, gm53 hM, am117 hM, wm117 hM, gm54 hM, am118 hM, wm118 hM, pm60 hM, pm60o hM, pm60l hM, gm55 hM, am119 hM, wm119 hM, gm56 hM, am120 hM, wm120 hM, ne_eq, Nat.not_lt_zero, Nat.zero_le, eq_self, not_true_eq_false, not_false_eq_true, decide_true, decide_false, Bool.not_true, Bool.not_false, Bool.true_and, Bool.false_and, Bool.and_true, Bool.and_false, Bool.or_true, Bool.true_or, Bool.false_or, Bool.or_false, Nat.beq_refl, bind_s, as_I, as_J, as_R, as_V, cnd_t, cnd_f, bz_ret, bzp_0, bzp_1, bzp_z0, bzp_z1, dec_bf, dec_bt, dec_nbf, dec_nbt, Bool.false_eq_true, Bool.true_eq_false, ret_0, ret_1, ret_z0, ret_z1, zi_lit, zi_add, zi_mul, zi_lt, zi_le, zi_eq, zi_sub, hQ2 r hr, eq_false hn]
      exact e'
    · rw [r6 50 (by decide)]; simp (disch := omega) only [up2_n]; exact hQ1
    · show mi' 115 a = zi (up1 (qn Q) r (qn Q r + 1) a)
      by_cases e : a = r
      · rw [e, up1_s]; exact r3
      · rw [r4 a e, up1_n _ _ e]; simp (disch := omega) only [up2_n]; exact hQ2 a ha
    · have hp' : p < up1 (qn Q) r (qn Q r + 1) a := hp
      show mi' 116 (24 * a + p) = zi (up2 (qk Q) r (qn Q r) k a p) ∧ (up2 (qk Q) r (qn Q r) k a p = 1 → mi' 117 (24 * a + p) = zi (up2 (qw Q) r (qn Q r) w a p)) ∧ (up2 (qk Q) r (qn Q r) k a p = 4 → mi' 118 (24 * a + p) = zi (up2 (qd Q) r (qn Q r) d a p)) ∧ ∀ q, q < 12 → mi' 119 (12 * (24 * a + p) + q) = zi (up2 (qt Q) r (qn Q r) x a p q)
      rw [r7 116 (by decide) (by decide) (by decide), r7 117 (by decide) (by decide) (by decide), r7 118 (by decide) (by decide) (by decide)]
      have hka := hW.2.1 a
      by_cases e : a = r ∧ p = qn Q r
      · obtain ⟨rfl, rfl⟩ := e
        simp (disch := omega) only [up2_s, up2_n, up1_s]
        exact ⟨trivial, fun h => h3 h, fun h => h4 h, fun q hq => r1 q (by omega) hq⟩
      · have hpa : p < qn Q a := by
          by_cases e2 : a = r
          · rw [e2, up1_s] at hp'; rw [e2]; have : p ≠ qn Q r := fun h => e ⟨e2, h⟩
            omega
          · rw [up1_n _ _ e2] at hp'; exact hp'
        have hi : 24 * a + p ≠ 24 * r + qn Q r := by
          intro h
          by_cases e2 : a = r
          · exact e ⟨e2, by rw [e2] at h; omega⟩
          · omega
        have e3 : ∀ {α : Type} (f : Nat → Nat → α) (v : α), up2 f r (qn Q r) v a p = f a p := by
          intro α f v
          rw [up2_ap]
          by_cases e2 : a = r
          · rw [if_pos e2, if_neg (fun h => e ⟨e2, h⟩), e2]
          · rw [if_neg e2]
        rw [e3, e3, e3, e3]
        simp (disch := omega) only [up2_s, up2_n, up1_n _ _ hi]
        refine ⟨(hQ3 a p ha hpa).1, (hQ3 a p ha hpa).2.1, (hQ3 a p ha hpa).2.2.1, fun q hq => ?_⟩
        rw [r2 _ (by omega)]
        simp (disch := omega) only [up2_n]
        exact (hQ3 a p ha hpa).2.2.2 q hq
    · rw [r7 a (by omega) (by omega) (by omega)]; simp (disch := omega) only [up2_n]
    · rw [r7 a (by omega) (by omega) (by omega)]; simp (disch := omega) only [up2_n]
    · rw [r7 a (by omega) (by omega) (by omega)]; simp (disch := omega) only [up2_n]
    · rw [r7 a (by omega) (by omega) (by omega)]; simp (disch := omega) only [up2_n]
    · rw [r6 f h2]; simp (disch := omega) only [up2_n]