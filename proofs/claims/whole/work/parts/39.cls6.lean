/-! StepsAhead: an op is put behind the others -/
theorem opk_osh {k : Nat} (h : k = 1 ∨ k = 3 ∨ k = 4 ∨ k = 5 ∨ k = 6 ∨ k = 7 ∨ k = 8) : opk (osh k).1 = true := by
  rcases h with rfl | rfl | rfl | rfl | rfl | rfl | rfl <;> rfl
theorem CS_op {s : Nat → Nat × Nat} {mr : Nat → Nat → Nat} (hC : CS s mr) {r : Nat} (p o : Nat) (hr : r < 8) : CS s (up2 mr (43 + 9 * r) p o) := by
  refine CS_ext hC (fun _ _ => rfl) fun a f h => ?_
  rw [up2_n _ _ ?_]
  rcases h with h | ⟨r', h1, h2, h3⟩ | ⟨r', h1, h2⟩ <;> omega
theorem wc43 {s : Nat → Nat × Nat} {mr : Nat → Nat → Nat} (hC : CS s mr) {n : Nat × Nat} {ml : Nat → Nat → Int64} {mi : Nat → Nat → Int32} {r i o : Nat} (hr : r < 8) (hi : i < 24) (ho : o = 0 ∨ opk (s o).1 = true) : hSR ((s, n, mi, ml, mr) : Hp) (43 + 9 * r) (zi i) o = some (s, n, mi, ml, up2 mr (43 + 9 * r) i o) := by
  unfold hSR
  rw [show (s, n, mi, ml, mr).1 (43 + 9 * r) = (23, 24) from cs43 hC r hr, inb_zi hi (by omega), zi_cl (by omega)]
  have e : (Nat.beq o 0 || opk (s o).1) = true := by
    rcases ho with rfl | h
    · rfl
    · rw [h, Bool.or_true]
  show (bif true && ((true && (Nat.beq o 0 || opk (s o).1)) || _) then _ else _) = _
  rw [e]; rfl
theorem c24 {G : AG} (hG : FIX G) {s : Nat → Nat × Nat} {mr : Nat → Nat → Nat} (hC : CS s mr) {n : Nat × Nat} {ml : Nat → Nat → Int64} {mi : Nat → Nat → Int32} {r L p : Nat} (hr : r < 8) (hL : L < 24) (h25 : mi (42 + 9 * r) 25 = zi L) : G 24 0 [some (.inr (.inr (42 + 9 * r))), some (.inl (zi p))] [] (s, n, mi, ml, mr) = some (none, (s, n, up2 (up2 mi (44 + 9 * r) L (zi p)) (42 + 9 * r) 25 (zi (L + 1)), ml, mr)) := by
  rw [b24_0 hG]
  simp (disch := omega) only [b24_36 hG, gc25 hC, gc24 hC, ac44 hC, wc44 hC, pc25 hC, ne_eq, Nat.not_lt_zero, Nat.zero_le, eq_self, not_true_eq_false, not_false_eq_true, decide_true, decide_false, Bool.not_true, Bool.not_false, Bool.true_and, Bool.false_and, Bool.and_true, Bool.and_false, Bool.or_true, Bool.true_or, Bool.false_or, Bool.or_false, Nat.beq_refl, bind_s, as_I, as_J, as_R, as_V, cnd_t, cnd_f, bz_ret, bzp_0, bzp_1, bzp_z0, bzp_z1, dec_bf, dec_bt, dec_nbf, dec_nbt, Bool.false_eq_true, Bool.true_eq_false, ret_0, ret_1, ret_z0, ret_z1, zi_lit, zi_add, zi_mul, zi_lt, zi_le, zi_eq, zi_sub, h25, up2_n, Nat.not_lt_zero, eq_false (by omega : ¬ 24 ≤ L)]
theorem c23 {G : AG} (hG : FIX G) {s : Nat → Nat × Nat} {mr : Nat → Nat → Nat} (hC : CS s mr) {n : Nat × Nat} {ml : Nat → Nat → Int64} {mi : Nat → Nat → Int32} {K D : Nat → Nat} {r c : Nat} (hr : r < 8) (hc : c ≤ 24) (h23 : mi (42 + 9 * r) 23 = zi c) (hS : ∀ p, p < c → s (mr (43 + 9 * r) p) = osh (K p) ∧ 142 ≤ mr (43 + 9 * r) p ∧ (K p = 4 → mr (mr (43 + 9 * r) p) 6 = 42 + 9 * D p ∧ D p < 8) ∧ (K p = 1 ∨ K p = 3 ∨ K p = 4 ∨ K p = 5 ∨ 6 ≤ K p)) (h21 : ∀ r, r < 8 → mi (42 + 9 * r) 21 = zi r) :
    ∃ m', G 23 0 [some (.inr (.inr (42 + 9 * r))), none, none, none] [] (s, n, mi, ml, mr) = some (none, (s, n, m', ml, mr)) ∧ (∀ a, a ≠ 42 + 9 * r → m' a = mi a) ∧ (∀ f, f ≠ 26 → m' (42 + 9 * r) f = mi (42 + 9 * r) f) ∧ m' (42 + 9 * r) 26 = zi (cbs K D c) := by
  obtain ⟨m', e', r1, r2, r3⟩ := c23L hG hC (n := n) (ml := ml) hr hc h23 hS h21 c 0 none none (up2 mi (42 + 9 * r) 26 (zi 0)) (by omega) (Or.inl rfl) (fun a ha => up2_n _ _ ha) (fun f hf => by rw [up2_s, up1_n _ _ hf]) (by rw [up2_s, up1_s]; rfl)
  refine ⟨m', ?_, r1, r2, r3⟩
  rw [b23_0 hG]
  simp (disch := omega) only [b23_51 hG, pc26 hC, gc23 hC, gc26 hC, gc21 hC, kc4 hC, kc42 hC, kc8 hC, kc10 hC, kc11 hC, kc41 hC, nbeq_f, ne_eq, Nat.not_lt_zero, Nat.zero_le, eq_self, not_true_eq_false, not_false_eq_true, decide_true, decide_false, Bool.not_true, Bool.not_false, Bool.true_and, Bool.false_and, Bool.and_true, Bool.and_false, Bool.or_true, Bool.true_or, Bool.false_or, Bool.or_false, Nat.beq_refl, bind_s, as_I, as_J, as_R, as_V, cnd_t, cnd_f, bz_ret, bzp_0, bzp_1, bzp_z0, bzp_z1, dec_bf, dec_bt, dec_nbf, dec_nbt, Bool.false_eq_true, Bool.true_eq_false, ret_0, ret_1, ret_z0, ret_z1, zi_lit]
  exact e'
theorem c29 {G : AG} (hG : FIX G) {s : Nat → Nat × Nat} {mr : Nat → Nat → Nat} (hC : CS s mr) {n : Nat × Nat} {ml : Nat → Nat → Int64} {mi : Nat → Nat → Int32} {r : Nat} (hr : r < 8) : G 29 0 [some (.inr (.inr (42 + 9 * r)))] [] (s, n, mi, ml, mr) = some (none, (s, n, up2 (up2 mi (48 + 9 * r) 0 (zi 0)) (48 + 9 * r) 1 (zi 0), ml, mr)) := by
  rw [b29_0 hG]
  simp (disch := omega) only [gc28 hC, ac48 hC, wc48 hC, ne_eq, Nat.not_lt_zero, Nat.zero_le, eq_self, not_true_eq_false, not_false_eq_true, decide_true, decide_false, Bool.not_true, Bool.not_false, Bool.true_and, Bool.false_and, Bool.and_true, Bool.and_false, Bool.or_true, Bool.true_or, Bool.false_or, Bool.or_false, Nat.beq_refl, bind_s, as_I, as_J, as_R, as_V, cnd_t, cnd_f, bz_ret, bzp_0, bzp_1, bzp_z0, bzp_z1, dec_bf, dec_bt, dec_nbf, dec_nbt, Bool.false_eq_true, Bool.true_eq_false, ret_0, ret_1, ret_z0, ret_z1, zi_lit]
/-- the formulas from a routine on are forgotten -/
theorem c28L {G : AG} (hG : FIX G) {s : Nat → Nat × Nat} {mr : Nat → Nat → Nat} (hC : CS s mr) {n : Nat × Nat} {ml : Nat → Nat → Int64} {x1 : Int32} : ∀ (d r : Nat) (mi : Nat → Nat → Int32), r + d = 8 → ∃ m', G 28 2 [some (.inr (.inr 4)), some (.inl x1), some (.inl (zi r))] [] (s, n, mi, ml, mr) = some (none, (s, n, m', ml, mr)) ∧ (∀ a, (∀ r', r ≤ r' → r' < 8 → a ≠ 48 + 9 * r') → m' a = mi a) ∧ (∀ r', r ≤ r' → r' < 8 → m' (48 + 9 * r') 0 = zi 0 ∧ m' (48 + 9 * r') 1 = zi 0)
  | 0, r, mi, h => by
    have e : r = 8 := by omega
    subst e
    refine ⟨mi, ?_, fun _ _ => rfl, fun r' h1 h2 => by omega⟩
    rw [b28_2 hG]
    simp (disch := omega) only [ne_eq, Nat.not_lt_zero, Nat.zero_le, eq_self, not_true_eq_false, not_false_eq_true, decide_true, decide_false, Bool.not_true, Bool.not_false, Bool.true_and, Bool.false_and, Bool.and_true, Bool.and_false, Bool.or_true, Bool.true_or, Bool.false_or, Bool.or_false, Nat.beq_refl, bind_s, as_I, as_J, as_R, as_V, cnd_t, cnd_f, bz_ret, bzp_0, bzp_1, bzp_z0, bzp_z1, dec_bf, dec_bt, dec_nbf, dec_nbt, Bool.false_eq_true, Bool.true_eq_false, ret_0, ret_1, ret_z0, ret_z1, zi_lit, zi_add, zi_mul, zi_lt, zi_le, zi_eq, zi_sub, Nat.le_refl]
  | d + 1, r, mi, h => by
    obtain ⟨m', e', r1, r2⟩ := c28L hG hC (s := s) (mr := mr) (n := n) (ml := ml) d (r + 1) (up2 (up2 mi (48 + 9 * r) 0 (zi 0)) (48 + 9 * r) 1 (zi 0)) (by omega)
    refine ⟨m', ?_, fun a ha => ?_, fun r' h1 h2 => ?_⟩
    · rw [b28_2 hG]
      simp (disch := omega) only [gc43 hC, ac5 hC, kc4 hC, kc42 hC, kc8 hC, kc10 hC, kc11 hC, kc41 hC, nbeq_f, ne_eq, Nat.not_lt_zero, Nat.zero_le, eq_self, not_true_eq_false, not_false_eq_true, decide_true, decide_false, Bool.not_true, Bool.not_false, Bool.true_and, Bool.false_and, Bool.and_true, Bool.and_false, Bool.or_true, Bool.true_or, Bool.false_or, Bool.or_false, Nat.beq_refl, bind_s, as_I, as_J, as_R, as_V, cnd_t, cnd_f, bz_ret, bzp_0, bzp_1, bzp_z0, bzp_z1, dec_bf, dec_bt, dec_nbf, dec_nbt, Bool.false_eq_true, Bool.true_eq_false, ret_0, ret_1, ret_z0, ret_z1, zi_lit, zi_add, zi_mul, zi_lt, zi_le, zi_eq, zi_sub, c29 hG hC, eq_false (by omega : ¬ 8 ≤ r)]
      exact e'
    · rw [r1 a (fun r' h1 h2 => ha r' (by omega) h2)]
      have := ha r (Nat.le_refl _) (by omega)
      rw [up2_n _ _ this, up2_n _ _ this]
    · by_cases e : r' = r
      · subst e
        rw [r1 _ (fun b h3 h4 => by omega)]
        simp (disch := omega) only [up2_s, up1_s, up1_n]
        exact ⟨trivial, trivial⟩
      · exact r2 r' (by omega) h2
theorem c28 {G : AG} (hG : FIX G) {s : Nat → Nat × Nat} {mr : Nat → Nat → Nat} (hC : CS s mr) {n : Nat × Nat} {ml : Nat → Nat → Int64} {mi : Nat → Nat → Int32} {r : Nat} (hr : r < 8) : ∃ m', G 28 0 [some (.inr (.inr 4)), some (.inl (zi r)), none] [] (s, n, mi, ml, mr) = some (none, (s, n, m', ml, mr)) ∧ (∀ a, (∀ r', r ≤ r' → r' < 8 → a ≠ 48 + 9 * r') → m' a = mi a) ∧ (∀ r', r ≤ r' → r' < 8 → m' (48 + 9 * r') 0 = zi 0 ∧ m' (48 + 9 * r') 1 = zi 0) := by
  obtain ⟨m', e', h⟩ := c28L hG hC (n := n) (ml := ml) (x1 := zi r) (8 - r) r mi (by omega)
  exact ⟨m', by rw [b28_0 hG]; exact e', h⟩
/-- the opener is told which op closes it -/
theorem cCl {G : AG} (hG : FIX G) {s : Nat → Nat × Nat} {mr : Nat → Nat → Nat} (hC : CS s mr) {n : Nat × Nat} {ml : Nat → Nat → Int64} {mi : Nat → Nat → Int32} {oq k : Nat} (ho : 142 ≤ oq) (hk : (k = 6 ∧ s oq = (3, 6)) ∨ ((k = 7 ∨ k = 8) ∧ s oq = (2, 8))) (b : Int32) : ∃ w : Nat × Nat, slk [(1, 27, 3), (2, 25, 3), (3, 26, 3), (4, 27, 3), (10, 27, 3)] (s oq).1 = some w ∧ G w.1 0 (padA w.2 [some (.inr (.inr oq)), some (.inl (zi k)), some (.inl b)]) [] (s, n, mi, ml, mr) = some (none, (s, n, up2 mi oq (cfl k) b, ml, mr)) := by
  rcases hk with ⟨rfl, hs⟩ | ⟨rfl | rfl, hs⟩
  · refine ⟨(26, 3), by rw [hs]; rfl, ?_⟩
    refine (b26_0 hG oq (zi 6) b _).trans ?_
    simp only [ne_eq, Nat.not_lt_zero, Nat.zero_le, eq_self, not_true_eq_false, not_false_eq_true, decide_true, decide_false, Bool.not_true, Bool.not_false, Bool.true_and, Bool.false_and, Bool.and_true, Bool.and_false, Bool.or_true, Bool.true_or, Bool.false_or, Bool.or_false, Nat.beq_refl, bind_s, as_I, as_J, as_R, as_V, cnd_t, cnd_f, bz_ret, bzp_0, bzp_1, bzp_z0, bzp_z1, dec_bf, dec_bt, dec_nbf, dec_nbt, Bool.false_eq_true, Bool.true_eq_false, ret_0, ret_1, ret_z0, ret_z1, rpI hs hF3_11 (by omega : 4 ≤ oq)]
    rfl
  · refine ⟨(25, 3), by rw [hs]; rfl, ?_⟩
    refine (b25_0 hG oq (zi 7) b _).trans ?_
    simp (disch := omega) only [ne_eq, Nat.not_lt_zero, Nat.zero_le, eq_self, not_true_eq_false, not_false_eq_true, decide_true, decide_false, Bool.not_true, Bool.not_false, Bool.true_and, Bool.false_and, Bool.and_true, Bool.and_false, Bool.or_true, Bool.true_or, Bool.false_or, Bool.or_false, Nat.beq_refl, bind_s, as_I, as_J, as_R, as_V, cnd_t, cnd_f, bz_ret, bzp_0, bzp_1, bzp_z0, bzp_z1, dec_bf, dec_bt, dec_nbf, dec_nbt, Bool.false_eq_true, Bool.true_eq_false, ret_0, ret_1, ret_z0, ret_z1, zi_lit, zi_add, zi_mul, zi_lt, zi_le, zi_eq, zi_sub, b25_19 hG, rpI hs hF2_7 (by omega : 4 ≤ oq)]
    rfl
  · refine ⟨(25, 3), by rw [hs]; rfl, ?_⟩
    refine (b25_0 hG oq (zi 8) b _).trans ?_
    simp (disch := omega) only [ne_eq, Nat.not_lt_zero, Nat.zero_le, eq_self, not_true_eq_false, not_false_eq_true, decide_true, decide_false, Bool.not_true, Bool.not_false, Bool.true_and, Bool.false_and, Bool.and_true, Bool.and_false, Bool.or_true, Bool.true_or, Bool.false_or, Bool.or_false, Nat.beq_refl, bind_s, as_I, as_J, as_R, as_V, cnd_t, cnd_f, bz_ret, bzp_0, bzp_1, bzp_z0, bzp_z1, dec_bf, dec_bt, dec_nbf, dec_nbt, Bool.false_eq_true, Bool.true_eq_false, ret_0, ret_1, ret_z0, ret_z1, zi_lit, zi_add, zi_mul, zi_lt, zi_le, zi_eq, zi_sub, b25_19 hG, Nat.reduceEqDiff, rpI hs hF2_8 (by omega : 4 ≤ oq)]
    rfl
theorem c22 {G : AG} (hG : FIX G) {s : Nat → Nat × Nat} {mr : Nat → Nat → Nat} (hC : CS s mr) {n : Nat × Nat} {ml : Nat → Nat → Int64} {mi : Nat → Nat → Int32} {Q : Pg} {N r k w d o : Nat} {t : Nat → Nat} (hQ : CQ Q N s mi mr) (hW : WP Q) (hr : r < 8) (hm : qn Q r < 24) (hk : okc k (stk (qk Q r) (qn Q r))) (hd : k = 4 → d < 8) (hN : NO Q N s mi mr r k w d t o) :
    ∃ m', G 22 0 [some (.inr (.inr (42 + 9 * r))), some (.inr (.inr o)), none] [] (s, n, mi, ml, mr) = some (none, (s, n, m', ml, up2 mr (43 + 9 * r) (qn Q r) o)) ∧ CQ (psh Q r k w d t) N s m' (up2 mr (43 + 9 * r) (qn Q r) o) ∧ (∀ a, a < 142 → a ≠ 42 + 9 * r → a ≠ 44 + 9 * r → m' a = mi a) ∧ (∀ f, f ≠ 23 → f ≠ 25 → f ≠ 26 → m' (42 + 9 * r) f = mi (42 + 9 * r) f) ∧ m' o 2 = mi o 2 := by
  have hN0 := hN
  have hQ0 := hQ
  obtain ⟨g1, g2, g3⟩ := hQ
  obtain ⟨o1, o2, o3, o4, o5, o6, o7, o8, o9, o10, o11, o12⟩ := hN
  obtain ⟨a1, a2, a3, a4, a5, a6, a7⟩ := g2 r hr
  have hC1 := CS_op hC (qn Q r) o hr
  have hWr := hW.2.2.2.1 r
  have hL := stk_len (qk Q r) (qn Q r)
  have hkk := okc_k hk
  -- the calls are noted
  obtain ⟨m2, e2, f1, f2, f3⟩ := c23 hG hC1 (n := n) (ml := ml) (mi := up2 mi (42 + 9 * r) 23 (zi (qn Q r + 1))) (K := up1 (qk Q r) (qn Q r) k) (D := up1 (qd Q r) (qn Q r) d) hr (c := qn Q r + 1) (by omega) (by rw [up2_s, up1_s]) (fun p hp => by
      rw [up2_s]
      by_cases e : p = qn Q r
      · subst e
        simp only [up1_s]
        refine ⟨o3, o1, fun h4 => ?_, by omega⟩
        rw [up2_n _ _ (by omega)]; exact ⟨(o10 h4).2, hd h4⟩
      · have hp' : p < qn Q r := by omega
        obtain ⟨b1, b2, b3, b4, b5, b6, b7, b8, b9, b10, -⟩ := a6 p hp'
        simp only [up1_n _ _ e]
        refine ⟨b3, b1, fun h4 => ?_, ?_⟩
        · rw [up2_n _ _ (by omega)]; exact ⟨(b10 h4).2, by have := hW.2.2.2.2.2.1 r p hp' h4; omega⟩
        · have := kle hWr hp'; omega) (fun a ha => by
      by_cases e : a = r
      · rw [e, up2_s, up1_n _ _ (by decide)]; exact a1
      · rw [up2_n _ _ (by omega)]; exact (g2 a ha).1)
  have n2 : ∀ a, a ≠ 42 + 9 * r → m2 a = mi a := fun a ha => (f1 a ha).trans (up2_n _ _ ha)
  have n3 : ∀ f, f ≠ 23 → f ≠ 26 → m2 (42 + 9 * r) f = mi (42 + 9 * r) f := fun f h1 h2 => by rw [f2 f h2, up2_s, up1_n _ _ h1]
  have n23 : m2 (42 + 9 * r) 23 = zi (qn Q r + 1) := by rw [f2 23 (by decide), up2_s, up1_s]
  have n25 : m2 (42 + 9 * r) 25 = zi (stk (qk Q r) (qn Q r)).length := (n3 25 (by decide) (by decide)).trans a3
  have no : ∀ f, m2 o f = mi o f := fun f => by rw [n2 o (by omega)]
  have e16 := c16 hG hC (n := n) (ml := ml) hr a2 (by omega)
  have ek : decide (24 ≤ qn Q r) = false := decide_eq_false (by omega)
  rw [b22_0 hG]
  simp (disch := omega) only [ne_eq, Nat.not_lt_zero, Nat.zero_le, eq_self, not_true_eq_false, not_false_eq_true, decide_true, decide_false, Bool.not_true, Bool.not_false, Bool.true_and, Bool.false_and, Bool.and_true, Bool.and_false, Bool.or_true, Bool.true_or, Bool.false_or, Bool.or_false, Nat.beq_refl, bind_s, as_I, as_J, as_R, as_V, cnd_t, cnd_f, bz_ret, bzp_0, bzp_1, bzp_z0, bzp_z1, dec_bf, dec_bt, dec_nbf, dec_nbt, Bool.false_eq_true, Bool.true_eq_false, ret_0, ret_1, ret_z0, ret_z1, kc42 hC, gc22 hC, gc23 hC, pc23 hC1, gc23 hC1, kc42 hC1, e16, ek, a2, wc43 hC hr hm (Or.inr (by rw [o3]; exact opk_osh hkk)), zi_lit, zi_add, e2, opF1 o3, no, o4]
  rcases stq_ok (p := qn Q r) hk with ⟨hk', e⟩ | ⟨hk', e⟩ | ⟨hk', e⟩ | ⟨q, T, hS, hk', e⟩ | ⟨q, T, hS, hk', e⟩ | ⟨q, T, hS, hk', e⟩
  · refine ⟨m2, ?_, CQ_psh hQ0 hW hr hk hN0 (fun a _ h2 _ => n2 a h2) (fun f h1 _ h3 => n3 f h1 h3) n23 f3 (by rw [e]; exact n25) (by rw [e, n2 (44 + 9 * r) (by omega)]; exact a4) (fun a ha _ => n2 a (by omega)) (fun h6 => by omega), fun a _ h2 _ => n2 a h2, fun f h1 _ h3 => n3 f h1 h3, no 2⟩
    have h4 : mi o 4 = -1 := by rw [o7, if_neg (by omega)]
    have e18 := c18_f hG hC1 (n := n) (ml := ml) (mi := m2) (x := -1) hr n23 (by omega) (by unfold isN; rfl)
    have z3 : ¬ k = 3 := by omega
    have z5 : ¬ k = 5 := by omega
    simp (disch := omega) only [ne_eq, Nat.not_lt_zero, Nat.zero_le, eq_self, not_true_eq_false, not_false_eq_true, decide_true, decide_false, Bool.not_true, Bool.not_false, Bool.true_and, Bool.false_and, Bool.and_true, Bool.and_false, Bool.or_true, Bool.true_or, Bool.false_or, Bool.or_false, Nat.beq_refl, bind_s, as_I, as_J, as_R, as_V, cnd_t, cnd_f, bz_ret, bzp_0, bzp_1, bzp_z0, bzp_z1, dec_bf, dec_bt, dec_nbf, dec_nbt, Bool.false_eq_true, Bool.true_eq_false, ret_0, ret_1, ret_z0, ret_z1, zi_eq, eq_false z3, eq_false z5, opF4 o3, no, h4, e18, b22_48 hG, b22_101 hG, Nat.beq_refl]
  · have e24 := c24 hG hC1 (n := n) (ml := ml) (mi := m2) (p := qn Q r) hr (by omega) n25
    refine ⟨_, ?_, CQ_psh hQ0 hW hr hk hN0 (mi' := up2 (up2 m2 (44 + 9 * r) (stk (qk Q r) (qn Q r)).length (zi (qn Q r))) (42 + 9 * r) 25 (zi ((stk (qk Q r) (qn Q r)).length + 1))) (fun a _ h2 h3 => by rw [up2_n _ _ h2, up2_n _ _ h3, n2 a h2]) (fun f h1 h2 h3 => by rw [up2_s, up1_n _ _ h2, up2_n _ _ (by omega), n3 f h1 h3]) (by rw [up2_s, up1_n _ _ (by decide), up2_n _ _ (by omega)]; exact n23) (by rw [up2_s, up1_n _ _ (by decide), up2_n _ _ (by omega)]; exact f3) (by rw [e, up2_s, up1_s]; rfl)
      (by
        rw [e, up2_n _ _ (by omega), up2_s, n2 (44 + 9 * r) (by omega)]
        exact ⟨up1_s _ _ _, OB_congr (fun i hi => up1_n _ _ (by omega)) a4⟩) (fun a ha _ => by rw [up2_n _ _ (by omega), up2_n _ _ (by omega), n2 a (by omega)]) (fun h6 => by omega), fun a _ h2 h3 => by rw [up2_n _ _ h2, up2_n _ _ h3, n2 a h2], fun f h1 h2 h3 => by rw [up2_s, up1_n _ _ h2, up2_n _ _ (by omega), n3 f h1 h3], by rw [up2_n _ _ (by omega), up2_n _ _ (by omega), no 2]⟩
    subst hk'
    simp (disch := omega) only [ne_eq, Nat.not_lt_zero, Nat.zero_le, eq_self, not_true_eq_false, not_false_eq_true, decide_true, decide_false, Bool.not_true, Bool.not_false, Bool.true_and, Bool.false_and, Bool.and_true, Bool.and_false, Bool.or_true, Bool.true_or, Bool.false_or, Bool.or_false, Nat.beq_refl, bind_s, as_I, as_J, as_R, as_V, cnd_t, cnd_f, bz_ret, bzp_0, bzp_1, bzp_z0, bzp_z1, dec_bf, dec_bt, dec_nbf, dec_nbt, Bool.false_eq_true, Bool.true_eq_false, ret_0, ret_1, ret_z0, ret_z1, b22_48 hG, b22_101 hG, opF2 o3, no, o5, kc42 hC1, e24]
  · have e24 := c24 hG hC1 (n := n) (ml := ml) (mi := m2) (p := qn Q r) hr (by omega) n25
    refine ⟨_, ?_, CQ_psh hQ0 hW hr hk hN0 (mi' := up2 (up2 m2 (44 + 9 * r) (stk (qk Q r) (qn Q r)).length (zi (qn Q r))) (42 + 9 * r) 25 (zi ((stk (qk Q r) (qn Q r)).length + 1))) (fun a _ h2 h3 => by rw [up2_n _ _ h2, up2_n _ _ h3, n2 a h2]) (fun f h1 h2 h3 => by rw [up2_s, up1_n _ _ h2, up2_n _ _ (by omega), n3 f h1 h3]) (by rw [up2_s, up1_n _ _ (by decide), up2_n _ _ (by omega)]; exact n23) (by rw [up2_s, up1_n _ _ (by decide), up2_n _ _ (by omega)]; exact f3) (by rw [e, up2_s, up1_s]; rfl)
      (by
        rw [e, up2_n _ _ (by omega), up2_s, n2 (44 + 9 * r) (by omega)]
        exact ⟨up1_s _ _ _, OB_congr (fun i hi => up1_n _ _ (by omega)) a4⟩) (fun a ha _ => by rw [up2_n _ _ (by omega), up2_n _ _ (by omega), n2 a (by omega)]) (fun h6 => by omega), fun a _ h2 h3 => by rw [up2_n _ _ h2, up2_n _ _ h3, n2 a h2], fun f h1 h2 h3 => by rw [up2_s, up1_n _ _ h2, up2_n _ _ (by omega), n3 f h1 h3], by rw [up2_n _ _ (by omega), up2_n _ _ (by omega), no 2]⟩
    subst hk'
    simp (disch := omega) only [ne_eq, Nat.not_lt_zero, Nat.zero_le, eq_self, not_true_eq_false, not_false_eq_true, decide_true, decide_false, Bool.not_true, Bool.not_false, Bool.true_and, Bool.false_and, Bool.and_true, Bool.and_false, Bool.or_true, Bool.true_or, Bool.false_or, Bool.or_false, Nat.beq_refl, bind_s, as_I, as_J, as_R, as_V, cnd_t, cnd_f, bz_ret, bzp_0, bzp_1, bzp_z0, bzp_z1, dec_bf, dec_bt, dec_nbf, dec_nbt, Bool.false_eq_true, Bool.true_eq_false, ret_0, ret_1, ret_z0, ret_z1, b22_48 hG, b22_101 hG, zi_lit, zi_add, zi_mul, zi_lt, zi_le, zi_eq, zi_sub, Nat.reduceEqDiff, opF2 o3, no, o4, o5, kc42 hC1, e24]
  all_goals
    have hent := (stk_inv hWr).2.1 _ (by rw [hS]; exact List.mem_cons_self ..)
    have hql := hent.1
    simp only at hql
    have hoq := (a6 q hql).1
    have hsq := (a6 q hql).2.2.1
    have hne : mr (43 + 9 * r) q ≠ o := o12 r q hr hql
    have hup : up2 mr (43 + 9 * r) (qn Q r) o (43 + 9 * r) q = mr (43 + 9 * r) q := by rw [up2_s, up1_n _ _ (by omega)]
    have e18 := c18_t hG hC1 (n := n) (ml := ml) (mi := m2) (p := q) hr n23 (by omega) (by omega)
    rw [hup] at e18
    have h4 : mi o 4 = zi q := by rw [o7, if_pos (by omega), hS]; rfl
    have hh : hdp (stk (qk Q r) (qn Q r)) = q := by rw [hS]; rfl
    rw [hS] at a3 a4 hL n25
    rw [List.length_cons] at n25 hL
  · have hkq : qk Q r q = 3 := by
      rcases hent.2 with h | ⟨h, -⟩ | ⟨h, -⟩
      · exact h.2
      · exact absurd h (by show (0 : Nat) ≠ 1; decide)
      · exact absurd h (by show (0 : Nat) ≠ 2; decide)
    rw [hkq, osh_3] at hsq
    obtain ⟨v, ev, ec⟩ := cCl hG hC1 (n := n) (ml := ml) (mi := m2) hoq (Or.inl ⟨rfl, hsq⟩) (zi (qn Q r))
    have ec' : ∀ f, up2 m2 (mr (43 + 9 * r) q) (cfl 6) (zi (qn Q r)) (42 + 9 * r) f = m2 (42 + 9 * r) f := fun f => by rw [up2_n _ _ (by omega)]
    have no' : ∀ f, up2 m2 (mr (43 + 9 * r) q) (cfl 6) (zi (qn Q r)) o f = mi o f := fun f => by rw [up2_n _ _ (Ne.symm hne), no f]
    have B1 : ∀ a, a < 142 → a ≠ 42 + 9 * r → a ≠ 44 + 9 * r → up2 (up2 m2 (mr (43 + 9 * r) q) (cfl 6) (zi (qn Q r))) (42 + 9 * r) 25 (zi T.length) a = mi a := fun a h1 h2 h3 => by rw [up2_n _ _ h2, up2_n _ _ (by omega), n2 a h2]
    have B2 : ∀ f, f ≠ 23 → f ≠ 25 → f ≠ 26 → up2 (up2 m2 (mr (43 + 9 * r) q) (cfl 6) (zi (qn Q r))) (42 + 9 * r) 25 (zi T.length) (42 + 9 * r) f = mi (42 + 9 * r) f := fun f h1 h2 h3 => by rw [up2_s, up1_n _ _ h2, ec', n3 f h1 h3]
    subst hk'
    refine ⟨_, ?_, CQ_psh hQ0 hW hr hk hN0 B1 B2 (by rw [up2_s, up1_n _ _ (by decide), ec']; exact n23) (by rw [up2_s, up1_n _ _ (by decide), ec']; exact f3) (by rw [e, up2_s, up1_s])
      (by rw [e, up2_n _ _ (by omega), up2_n _ _ (by omega), n2 (44 + 9 * r) (by omega)]; exact a4.2) (fun a ha hn => by rw [up2_n _ _ (by omega), up2_n _ _ (by have := hn (by decide); rw [hh] at this; exact this), n2 a (by omega)]) (fun _ => ⟨fun f hf => by rw [hh, up2_n _ _ (by omega), up2_s, up1_n _ _ hf, n2 _ (by omega)], by rw [hh, up2_n _ _ (by omega), up2_s, up1_s]⟩), B1, B2, by rw [up2_n _ _ (by omega), no' 2]⟩
    simp (disch := omega) only [ne_eq, Nat.not_lt_zero, Nat.zero_le, eq_self, not_true_eq_false, not_false_eq_true, decide_true, decide_false, Bool.not_true, Bool.not_false, Bool.true_and, Bool.false_and, Bool.and_true, Bool.and_false, Bool.or_true, Bool.true_or, Bool.false_or, Bool.or_false, Nat.beq_refl, bind_s, as_I, as_J, as_R, as_V, cnd_t, cnd_f, bz_ret, bzp_0, bzp_1, bzp_z0, bzp_z1, dec_bf, dec_bt, dec_nbf, dec_nbt, Bool.false_eq_true, Bool.true_eq_false, ret_0, ret_1, ret_z0, ret_z1, b22_48 hG, b22_101 hG, zi_lit, zi_add, zi_mul, zi_lt, zi_le, zi_eq, zi_sub, Nat.reduceEqDiff, opF1 o3, opF2 o3, opF4 o3, no, no', h4, o4, o5, kc42 hC1, e18, nbeq_f, ev, ec, ec', gc25 hC1, pc25 hC1, n25, Nat.add_sub_cancel]
  · have hkq : qk Q r q = 5 := by
      rcases hent.2 with h | ⟨-, h, -⟩ | ⟨-, h, -⟩
      · exact absurd h.1 (by show (1 : Nat) ≠ 0; decide)
      · exact h
      · exact h
    rw [hkq, osh_5] at hsq
    obtain ⟨v, ev, ec⟩ := cCl hG hC1 (n := n) (ml := ml) (mi := m2) hoq (Or.inr ⟨Or.inl rfl, hsq⟩) (zi (qn Q r))
    have no' : ∀ f, up2 m2 (mr (43 + 9 * r) q) (cfl 7) (zi (qn Q r)) o f = mi o f := fun f => by rw [up2_n _ _ (Ne.symm hne), no f]
    have B1 : ∀ a, a < 142 → a ≠ 42 + 9 * r → a ≠ 44 + 9 * r → up2 m2 (mr (43 + 9 * r) q) (cfl 7) (zi (qn Q r)) a = mi a := fun a h1 h2 h3 => by rw [up2_n _ _ (by omega), n2 a h2]
    have ec' : ∀ f, up2 m2 (mr (43 + 9 * r) q) (cfl 7) (zi (qn Q r)) (42 + 9 * r) f = m2 (42 + 9 * r) f := fun f => by rw [up2_n _ _ (by omega)]
    have B2 : ∀ f, f ≠ 23 → f ≠ 25 → f ≠ 26 → up2 m2 (mr (43 + 9 * r) q) (cfl 7) (zi (qn Q r)) (42 + 9 * r) f = mi (42 + 9 * r) f := fun f h1 h2 h3 => by rw [ec', n3 f h1 h3]
    subst hk'
    refine ⟨_, ?_, CQ_psh hQ0 hW hr hk hN0 B1 B2 (by rw [ec']; exact n23) (by rw [ec']; exact f3) (by rw [e, ec', n25]; rfl)
      (by rw [e, up2_n _ _ (by omega), n2 (44 + 9 * r) (by omega)]; exact ⟨a4.1, a4.2⟩) (fun a ha hn => by rw [up2_n _ _ (by have := hn (by decide); rw [hh] at this; exact this), n2 a (by omega)]) (fun _ => ⟨fun f hf => by rw [hh, up2_s, up1_n _ _ hf, n2 _ (by omega)], by rw [hh, up2_s, up1_s]⟩), B1, B2, by rw [no' 2]⟩
    simp (disch := omega) only [ne_eq, Nat.not_lt_zero, Nat.zero_le, eq_self, not_true_eq_false, not_false_eq_true, decide_true, decide_false, Bool.not_true, Bool.not_false, Bool.true_and, Bool.false_and, Bool.and_true, Bool.and_false, Bool.or_true, Bool.true_or, Bool.false_or, Bool.or_false, Nat.beq_refl, bind_s, as_I, as_J, as_R, as_V, cnd_t, cnd_f, bz_ret, bzp_0, bzp_1, bzp_z0, bzp_z1, dec_bf, dec_bt, dec_nbf, dec_nbt, Bool.false_eq_true, Bool.true_eq_false, ret_0, ret_1, ret_z0, ret_z1, b22_48 hG, b22_101 hG, zi_lit, zi_add, zi_mul, zi_lt, zi_le, zi_eq, zi_sub, Nat.reduceEqDiff, opF1 o3, opF2 o3, opF4 o3, no, no', h4, o4, o5, kc42 hC1, e18, nbeq_f, ev, ec]
  · have hkq : qk Q r q = 5 := by
      rcases hent.2 with h | ⟨-, h, -⟩ | ⟨-, h, -⟩
      · exact absurd h.1 (by show (2 : Nat) ≠ 0; decide)
      · exact h
      · exact h
    rw [hkq, osh_5] at hsq
    obtain ⟨v, ev, ec⟩ := cCl hG hC1 (n := n) (ml := ml) (mi := m2) hoq (Or.inr ⟨Or.inr rfl, hsq⟩) (zi (qn Q r))
    have ec' : ∀ f, up2 m2 (mr (43 + 9 * r) q) (cfl 8) (zi (qn Q r)) (42 + 9 * r) f = m2 (42 + 9 * r) f := fun f => by rw [up2_n _ _ (by omega)]
    have no' : ∀ f, up2 m2 (mr (43 + 9 * r) q) (cfl 8) (zi (qn Q r)) o f = mi o f := fun f => by rw [up2_n _ _ (Ne.symm hne), no f]
    have B1 : ∀ a, a < 142 → a ≠ 42 + 9 * r → a ≠ 44 + 9 * r → up2 (up2 m2 (mr (43 + 9 * r) q) (cfl 8) (zi (qn Q r))) (42 + 9 * r) 25 (zi T.length) a = mi a := fun a h1 h2 h3 => by rw [up2_n _ _ h2, up2_n _ _ (by omega), n2 a h2]
    have B2 : ∀ f, f ≠ 23 → f ≠ 25 → f ≠ 26 → up2 (up2 m2 (mr (43 + 9 * r) q) (cfl 8) (zi (qn Q r))) (42 + 9 * r) 25 (zi T.length) (42 + 9 * r) f = mi (42 + 9 * r) f := fun f h1 h2 h3 => by rw [up2_s, up1_n _ _ h2, ec', n3 f h1 h3]
    subst hk'
    refine ⟨_, ?_, CQ_psh hQ0 hW hr hk hN0 B1 B2 (by rw [up2_s, up1_n _ _ (by decide), ec']; exact n23) (by rw [up2_s, up1_n _ _ (by decide), ec']; exact f3) (by rw [e, up2_s, up1_s])
      (by rw [e, up2_n _ _ (by omega), up2_n _ _ (by omega), n2 (44 + 9 * r) (by omega)]; exact a4.2) (fun a ha hn => by rw [up2_n _ _ (by omega), up2_n _ _ (by have := hn (by decide); rw [hh] at this; exact this), n2 a (by omega)]) (fun _ => ⟨fun f hf => by rw [hh, up2_n _ _ (by omega), up2_s, up1_n _ _ hf, n2 _ (by omega)], by rw [hh, up2_n _ _ (by omega), up2_s, up1_s]⟩), B1, B2, by rw [up2_n _ _ (by omega), no' 2]⟩
    simp (disch := omega) only [ne_eq, Nat.not_lt_zero, Nat.zero_le, eq_self, not_true_eq_false, not_false_eq_true, decide_true, decide_false, Bool.not_true, Bool.not_false, Bool.true_and, Bool.false_and, Bool.and_true, Bool.and_false, Bool.or_true, Bool.true_or, Bool.false_or, Bool.or_false, Nat.beq_refl, bind_s, as_I, as_J, as_R, as_V, cnd_t, cnd_f, bz_ret, bzp_0, bzp_1, bzp_z0, bzp_z1, dec_bf, dec_bt, dec_nbf, dec_nbt, Bool.false_eq_true, Bool.true_eq_false, ret_0, ret_1, ret_z0, ret_z1, b22_48 hG, b22_101 hG, zi_lit, zi_add, zi_mul, zi_lt, zi_le, zi_eq, zi_sub, Nat.reduceEqDiff, opF1 o3, opF2 o3, opF4 o3, no, no', h4, o4, o5, kc42 hC1, e18, nbeq_f, ev, ec, ec', gc25 hC1, pc25 hC1, n25, Nat.add_sub_cancel]