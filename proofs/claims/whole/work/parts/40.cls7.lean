/-! StepsAhead: the calls that make programs -/
theorem CQ_i {Q : Pg} {N : Nat} {s : Nat → Nat × Nat} {mi mi' : Nat → Nat → Int32} {mr : Nat → Nat → Nat} (hQ : CQ Q N s mi mr) (hW : WP Q) (h : ∀ a, (a = 4 ∨ (∃ r, r < 8 ∧ (a = 42 + 9 * r ∨ a = 44 + 9 * r)) ∨ 142 ≤ a) → mi' a = mi a) : CQ Q N s mi' mr := by
  have hQ0 := hQ
  obtain ⟨g1, g2, g3⟩ := hQ
  refine ⟨by rw [h 4 (Or.inl rfl)]; exact g1, fun r hr => ?_, g3⟩
  obtain ⟨a1, a2, a3, a4, a5, a6, a7⟩ := g2 r hr
  unfold CR
  rw [h (42 + 9 * r) (Or.inr (Or.inl ⟨r, hr, Or.inl rfl⟩)), h (44 + 9 * r) (Or.inr (Or.inl ⟨r, hr, Or.inr rfl⟩))]
  refine ⟨a1, a2, a3, a4, a5, fun p hp => CO_tr (a6 p hp) (fun a ha => h a (Or.inr (Or.inr ha))) (fun h6 => (CQ_hd hQ0 hW hr hp h6).1), fun q hq => ?_⟩
  rw [h _ (Or.inr (Or.inr (a6 q (stk_lt (hW.2.2.2.1 r) _ hq)).1))]; exact a7 q hq
/-- the program has changed at a routine -/
def CNew (r : Nat) (H H' : Hp) : Prop := (∀ a, a < 142 → H'.1 a = H.1 a) ∧ H.2.1.1 ≤ H'.2.1.1 ∧ H'.2.1.1 ≤ H.2.1.1 + 3 ∧ H'.2.1.2 ≤ H.2.1.2 + 40 ∧
  (∀ a, a < 142 → (∀ b, r ≤ b → b < 8 → a ≠ 48 + 9 * b) → a ≠ 42 + 9 * r → a ≠ 44 + 9 * r → H'.2.2.1 a = H.2.2.1 a) ∧ (∀ f, f ≠ 23 → f ≠ 25 → f ≠ 26 → H'.2.2.1 (42 + 9 * r) f = H.2.2.1 (42 + 9 * r) f) ∧ (∀ b, r ≤ b → b < 8 → H'.2.2.1 (48 + 9 * b) 0 = zi 0 ∧ H'.2.2.1 (48 + 9 * b) 1 = zi 0) ∧
  (∀ a, a < 142 → H'.2.2.2.1 a = H.2.2.2.1 a) ∧ (∀ a f, a < 142 → a ≠ 43 + 9 * r → H'.2.2.2.2 a f = H.2.2.2.2 a f)
abbrev CQH (Q : Pg) (H : Hp) : Prop := CQ Q H.2.1.1 H.1 H.2.2.1 H.2.2.2.2
theorem hNw_e {s : Nat → Nat × Nat} {mr : Nat → Nat → Nat} {n : Nat × Nat} {mi : Nat → Nat → Int32} {ml : Nat → Nat → Int64} (kd l : Nat) (h : 142 ≤ n.1) : hNw ((s, n, mi, ml, mr) : Hp) kd l = some (up1 s n.1 (kd, l), (n.1 + 1, n.2 + l), up1 mi n.1 (fun _ => zi 0), up1 ml n.1 (fun _ => 0), up1 mr n.1 (fun _ => 0)) := by
  unfold hNw
  rw [show Nat.ble 4 (s, n, mi, ml, mr).2.1.1 = true from Nat.ble_eq_true_of_le (by show 4 ≤ n.1; omega)]
  rfl
theorem hCl_e {s : Nat → Nat × Nat} {mr : Nat → Nat → Nat} {n : Nat × Nat} {mi : Nat → Nat → Int32} {ml : Nat → Nat → Int64} {a l : Nat} (hs : s a = (20, l)) (h : 142 ≤ n.1) : hCl ((s, n, mi, ml, mr) : Hp) a = some (up1 s n.1 (20, l), (n.1 + 1, n.2 + l), up1 mi n.1 (mi a), up1 ml n.1 (fun _ => 0), up1 mr n.1 (fun _ => 0)) := by
  unfold hCl
  rw [show Nat.ble 4 (s, n, mi, ml, mr).2.1.1 = true from Nat.ble_eq_true_of_le (by show 4 ≤ n.1; omega), show (s, n, mi, ml, mr).1 a = (20, l) from hs]
  rfl
theorem CS_nw {s : Nat → Nat × Nat} {mr : Nat → Nat → Nat} (hC : CS s mr) {N : Nat} (h : 142 ≤ N) (sh : Nat × Nat) (f : Nat → Nat) : CS (up1 s N sh) (up1 mr N f) := by
  refine CS_ext hC (fun a ha => up1_n _ _ (by omega)) fun a g hg => ?_
  rw [up1_n _ _ ?_]
  rcases hg with h | ⟨r', h1, h2, h3⟩ | ⟨r', h1, h2⟩ <;> omega
theorem CS_fr {s : Nat → Nat × Nat} {mr : Nat → Nat → Nat} (hC : CS s mr) {N : Nat} (h : 142 ≤ N) (k v : Nat) : CS s (up2 mr N k v) := by
  refine CS_ext hC (fun a ha => rfl) fun a g hg => ?_
  rw [up2_n _ _ ?_]
  rcases hg with h | ⟨r', h1, h2, h3⟩ | ⟨r', h1, h2⟩ <;> omega
theorem c21 {G : AG} (hG : FIX G) {s : Nat → Nat × Nat} {mr : Nat → Nat → Nat} (hC : CS s mr) {n : Nat × Nat} {ml : Nat → Nat → Int64} {mi : Nat → Nat → Int32} {Q : Pg} {r k w d o : Nat} {t : Nat → Nat} (hQ : CQ Q n.1 s mi mr) (hW : WP Q) (hr : r < qc Q) (hm : qn Q r < 24) (hk : okc k (stk (qk Q r) (qn Q r))) (hw : k = 1 → 1 ≤ w ∧ w ≤ 99) (hd : k = 4 → d < r) (ht : ∀ q, t q ≤ 2) (hN : NO Q n.1 s mi mr r k w d t o) :
    ∃ m' mr', G 21 0 [some (.inr (.inr 4)), some (.inr (.inr (42 + 9 * r))), some (.inr (.inr o))] [] (s, n, mi, ml, mr) = some (some (.inl (zi (qn Q r))), (s, n, m', ml, mr')) ∧ CQ (psh Q r k w d t) n.1 s m' mr' ∧ CS s mr' ∧ (∀ a, a < 142 → (∀ b, r ≤ b → b < 8 → a ≠ 48 + 9 * b) → a ≠ 42 + 9 * r → a ≠ 44 + 9 * r → m' a = mi a) ∧ (∀ f, f ≠ 23 → f ≠ 25 → f ≠ 26 → m' (42 + 9 * r) f = mi (42 + 9 * r) f) ∧ (∀ b, r ≤ b → b < 8 → m' (48 + 9 * b) 0 = zi 0 ∧ m' (48 + 9 * b) 1 = zi 0) ∧ (∀ a f, a < 142 → a ≠ 43 + 9 * r → mr' a f = mr a f) := by
  have h8 := hW.1
  have hr8 : r < 8 := by omega
  obtain ⟨m1, e1, q1, f1, f2, f3⟩ := c22 hG hC (n := n) (ml := ml) hQ hW hr8 hm hk (fun h => by have := hd h; omega) hN
  have hC1 := CS_op hC (qn Q r) o hr8
  obtain ⟨m2, e2, f4, f5⟩ := c28 hG hC1 (n := n) (ml := ml) (mi := m1) hr8
  have hWp := WP_psh hW hr hm hk hw hd ht
  obtain ⟨o1, o2, o3, o4, o5, -⟩ := hN
  have h21 : m1 (42 + 9 * r) 21 = zi r := (f2 21 (by decide) (by decide) (by decide)).trans (hQ.2.1 r hr8).1
  have h2 : m2 o 2 = zi (qn Q r) := by rw [f4 o (fun b h1 h2 => by omega), f3, o5]
  refine ⟨m2, _, ?_, CQ_i q1 hWp (fun a ha => f4 a (fun b h1 h2 => by rcases ha with h | ⟨c, h3, h4 | h4⟩ | h <;> omega)), hC1, fun a h1 h2 h3 h4 => ?_, fun f h1 h2 h3 => ?_, f5, fun a f h1 h2 => by rw [up2_n _ _ h2]⟩
  · rw [b21_0 hG]
    simp (disch := omega) only [ne_eq, Nat.not_lt_zero, Nat.zero_le, eq_self, not_true_eq_false, not_false_eq_true, decide_true, decide_false, Bool.not_true, Bool.not_false, Bool.true_and, Bool.false_and, Bool.and_true, Bool.and_false, Bool.or_true, Bool.true_or, Bool.false_or, Bool.or_false, Nat.beq_refl, bind_s, as_I, as_J, as_R, as_V, cnd_t, cnd_f, bz_ret, bzp_0, bzp_1, bzp_z0, bzp_z1, dec_bf, dec_bt, dec_nbf, dec_nbt, Bool.false_eq_true, Bool.true_eq_false, ret_0, ret_1, ret_z0, ret_z1, kc42 hC, e1, gc21 hC1, h21, kc4 hC1, e2, opF2 o3, h2]
  · rw [f4 a h2]; exact f1 a h1 h3 h4
  · rw [f4 _ (fun b _ _ => by omega)]; exact f2 f h1 h2 h3