/-! StepsAhead: loops that are not closed, calls noted, new ops' objects -/
theorem CO_ext {Q : Pg} {N N' : Nat} {s s' : Nat → Nat × Nat} {mi mi' : Nat → Nat → Int32} {mr mr' : Nat → Nat → Nat} {r p : Nat} (h : CO Q N s mi mr r p) (hN : N ≤ N') (hr : r < 8) (hN2 : 142 ≤ N) (hs : ∀ a, a < N → s' a = s a) (hi : ∀ a, a < N → mi' a = mi a) (hm : ∀ a, a < N → mr' a = mr a) (hd : 6 ≤ qk Q r p → mr (43 + 9 * r) (hdp (stk (qk Q r) p)) < N) : CO Q N' s' mi' mr' r p := by
  obtain ⟨ho, hoN, hs0, h1, h2, h3, h4, h42, hE, hE2, h6, h7, h8⟩ := h
  have ex : ∀ {e t}, EX s mi N e t → EX s' mi' N' e t := fun {e t} h => ⟨h.1, Nat.lt_of_lt_of_le h.2.1 hN, (hs e h.2.1).trans h.2.2.1, fun q hq => by rw [hi e h.2.1]; exact h.2.2.2 q hq⟩
  unfold CO
  rw [hm (43 + 9 * r) (by omega), hi _ hoN, hm _ hoN, hs _ hoN]
  refine ⟨ho, Nat.lt_of_lt_of_le hoN hN, hs0, h1, h2, h3, h4, h42, fun h => ex (hE h), fun h => ⟨ex (hE2 h).1, (hE2 h).2⟩, fun h => ?_, fun h => ?_, fun h => ?_⟩
  · rw [hi _ (hd (by omega))]; exact h6 h
  · rw [hi _ (hd (by omega))]; exact h7 h
  · rw [hi _ (hd (by omega))]; exact h8 h
theorem CQ_hd {Q : Pg} {N : Nat} {s : Nat → Nat × Nat} {mi : Nat → Nat → Int32} {mr : Nat → Nat → Nat} (h : CQ Q N s mi mr) (hW : WP Q) {r p : Nat} (hr : r < 8) (hp : p < qn Q r) (h6 : 6 ≤ qk Q r p) : 142 ≤ mr (43 + 9 * r) (hdp (stk (qk Q r) p)) ∧ mr (43 + 9 * r) (hdp (stk (qk Q r) p)) < N := by
  have hl := hdp_lt (hW.2.2.2.1 r) hp h6
  have hO := (h.2.1 r hr).2.2.2.2.2.1 (hdp (stk (qk Q r) p)) (by omega)
  exact ⟨hO.1, hO.2.1⟩
theorem CQ_ext {Q : Pg} {N N' : Nat} {s s' : Nat → Nat × Nat} {mi mi' : Nat → Nat → Int32} {mr mr' : Nat → Nat → Nat} (h : CQ Q N s mi mr) (hW : WP Q) (hN : N ≤ N') (hN2 : 142 ≤ N) (hs : ∀ a, a < N → s' a = s a) (hi : ∀ a, a < N → mi' a = mi a) (hm : ∀ a, a < N → mr' a = mr a) : CQ Q N' s' mi' mr' := by
  have h0 := h
  obtain ⟨h1, h2, h3⟩ := h
  refine ⟨by rw [hi 4 (by omega)]; exact h1, fun r hr => ?_, fun r p r' p' hr hr' hp hp' e => ?_⟩
  · obtain ⟨a1, a2, a3, a4, a5, a6, a7⟩ := h2 r hr
    unfold CR
    rw [hi (42 + 9 * r) (by omega), hi (44 + 9 * r) (by omega), hm (43 + 9 * r) (by omega)]
    refine ⟨a1, a2, a3, a4, a5, fun p hp => CO_ext (a6 p hp) hN hr hN2 hs hi hm (fun h6 => (CQ_hd h0 hW hr hp h6).2), fun q hq => ?_⟩
    have hq2 := stk_lt (hW.2.2.2.1 r) _ hq
    rw [hi _ (a6 q hq2).2.1]; exact a7 q hq
  · rw [hm (43 + 9 * r) (by omega), hm (43 + 9 * r') (by omega)] at e
    exact h3 r p r' p' hr hr' hp hp' e
/-- the entry at a place of the row -/
theorem OB_at : ∀ {S : List (Nat × Nat)} {g : Nat → Int32} {i : Nat}, OB S g → i < S.length → ∃ q, q ∈ S ∧ g i = zi q.1 ∧ S.drop (S.length - (i + 1)) = q :: S.drop (S.length - i)
  | [], g, i, _, h => by cases h
  | q :: T, g, i, hO, h => by
    have l : (q :: T).length = T.length + 1 := rfl
    by_cases e : i = T.length
    · subst e
      refine ⟨q, List.mem_cons_self .., hO.1, ?_⟩
      rw [l, Nat.sub_self, show T.length + 1 - T.length = 1 by omega]; rfl
    · obtain ⟨a, h1, h2, h3⟩ := OB_at hO.2 (i := i) (by omega)
      refine ⟨a, List.mem_cons_of_mem _ h1, h2, ?_⟩
      rw [l, show T.length + 1 - (i + 1) = T.length - (i + 1) + 1 by omega, show T.length + 1 - i = T.length - i + 1 by omega, List.drop_succ_cons, List.drop_succ_cons]
      exact h3
theorem lps_drop : ∀ (S : List (Nat × Nat)) (i : Nat), lps (S.drop i) ≤ S.length
  | [], i => by rw [List.drop_nil]; exact Nat.zero_le _
  | q :: T, 0 => lps_len _
  | q :: T, i + 1 => by
    rw [List.drop_succ_cons]
    exact Nat.le_trans (lps_drop T i) (Nat.le_succ _)
theorem bit_or : ∀ (a : Fin 256) (d : Fin 8), zi a.val ||| (zi 1 <<< (zi d.val &&& zi 31)) = zi (a.val ||| 2 ^ d.val) := by decide +kernel
theorem bit_lt : ∀ (a : Fin 256) (d : Fin 8), a.val ||| 2 ^ d.val < 256 := by decide +kernel
theorem cbs_lt {K D : Nat → Nat} : ∀ {p : Nat}, (∀ q, q < p → K q = 4 → D q < 8) → cbs K D p < 256
  | 0, _ => by show 0 < 256; decide
  | p + 1, h => by
    have ih := cbs_lt (p := p) (fun q hq => h q (by omega))
    unfold cbs
    split
    · rename_i h4
      exact bit_lt ⟨_, ih⟩ ⟨D p, h p (by omega) h4⟩
    · exact ih
theorem c17L {G : AG} (hG : FIX G) {s : Nat → Nat × Nat} {mr : Nat → Nat → Nat} (hC : CS s mr) {n : Nat × Nat} {ml : Nat → Nat → Int64} {mi : Nat → Nat → Int32} {K : Nat → Nat} {r c : Nat} {S : List (Nat × Nat)} (hr : r < 8) (hc : c ≤ 24) (hl : S.length ≤ 24) (h23 : mi (42 + 9 * r) 23 = zi c) (h25 : mi (42 + 9 * r) 25 = zi S.length) (hO : OB S (mi (44 + 9 * r))) (hS : ∀ q ∈ S, q.1 < c ∧ s (mr (43 + 9 * r) q.1) = osh (K q.1) ∧ 142 ≤ mr (43 + 9 * r) q.1 ∧ ((q.2 = 0 ∧ K q.1 = 3) ∨ (q.2 ≠ 0 ∧ K q.1 = 5))) : ∀ (d i : Nat), i + d = S.length →
    G 17 4 [some (.inr (.inr (42 + 9 * r))), some (.inl (zi (lps (S.drop (S.length - i))))), some (.inl (zi i))] [] (s, n, mi, ml, mr) = some (some (.inl (zi (lps S))), (s, n, mi, ml, mr))
  | 0, i, hi => by
    have e : i = S.length := by omega
    subst e
    rw [b17_4 hG, Nat.sub_self, List.drop_zero]
    simp (disch := omega) only [b17_37 hG, b17_43 hG, gc25 hC, gc24 hC, ac44 hC, wc44 hC, kc4 hC, kc42 hC, kc8 hC, kc10 hC, kc11 hC, kc41 hC, nbeq_f, ne_eq, Nat.not_lt_zero, Nat.zero_le, eq_self, not_true_eq_false, not_false_eq_true, decide_true, decide_false, Bool.not_true, Bool.not_false, Bool.true_and, Bool.false_and, Bool.and_true, Bool.and_false, Bool.or_true, Bool.true_or, Bool.false_or, Bool.or_false, Nat.beq_refl, bind_s, as_I, as_J, as_R, as_V, cnd_t, cnd_f, bz_ret, bzp_0, bzp_1, bzp_z0, bzp_z1, dec_bf, dec_bt, dec_nbf, dec_nbt, Bool.false_eq_true, Bool.true_eq_false, ret_0, ret_1, ret_z0, ret_z1, zi_lit, zi_add, zi_mul, zi_lt, zi_le, zi_eq, zi_sub, h25, Nat.le_refl]
  | d + 1, i, hi => by
    have ih := c17L hG hC (s := s) (mr := mr) (n := n) (ml := ml) hr hc hl h23 h25 hO hS d (i + 1) (by omega)
    obtain ⟨q, hq, hg, hd⟩ := OB_at hO (i := i) (by omega)
    rw [hd] at ih
    obtain ⟨q1, q2, q3, q4⟩ := hS q hq
    have e18 := c18_t hG hC (n := n) (ml := ml) hr h23 hc q1
    have hL := lps_drop S (S.length - i)
    rw [b17_4 hG]
    rcases q4 with ⟨k1, k2⟩ | ⟨k1, k2⟩
    · rw [k2, osh_3] at q2
      rw [lps, if_pos k1, Nat.add_comm 1] at ih
      simp (disch := omega) only [b17_37 hG, b17_43 hG, gc25 hC, gc24 hC, ac44 hC, wc44 hC, kc4 hC, kc42 hC, kc8 hC, kc10 hC, kc11 hC, kc41 hC, nbeq_f, ne_eq, Nat.not_lt_zero, Nat.zero_le, eq_self, not_true_eq_false, not_false_eq_true, decide_true, decide_false, Bool.not_true, Bool.not_false, Bool.true_and, Bool.false_and, Bool.and_true, Bool.and_false, Bool.or_true, Bool.true_or, Bool.false_or, Bool.or_false, Nat.beq_refl, bind_s, as_I, as_J, as_R, as_V, cnd_t, cnd_f, bz_ret, bzp_0, bzp_1, bzp_z0, bzp_z1, dec_bf, dec_bt, dec_nbf, dec_nbt, Bool.false_eq_true, Bool.true_eq_false, ret_0, ret_1, ret_z0, ret_z1, zi_lit, zi_add, zi_mul, zi_lt, zi_le, zi_eq, zi_sub, slk, padA, List.any_cons, List.any_nil, nbeq_f, if_true, if_false, Nat.reduceEqDiff, h25, hg, e18, q2, eq_false (by omega : ¬ S.length ≤ i), eq_false (by omega : ¬ 24 ≤ i)]
      exact ih
    · rw [k2, osh_5] at q2
      rw [lps, if_neg k1, Nat.zero_add] at ih
      simp (disch := omega) only [b17_37 hG, b17_43 hG, gc25 hC, gc24 hC, ac44 hC, wc44 hC, kc4 hC, kc42 hC, kc8 hC, kc10 hC, kc11 hC, kc41 hC, nbeq_f, ne_eq, Nat.not_lt_zero, Nat.zero_le, eq_self, not_true_eq_false, not_false_eq_true, decide_true, decide_false, Bool.not_true, Bool.not_false, Bool.true_and, Bool.false_and, Bool.and_true, Bool.and_false, Bool.or_true, Bool.true_or, Bool.false_or, Bool.or_false, Nat.beq_refl, bind_s, as_I, as_J, as_R, as_V, cnd_t, cnd_f, bz_ret, bzp_0, bzp_1, bzp_z0, bzp_z1, dec_bf, dec_bt, dec_nbf, dec_nbt, Bool.false_eq_true, Bool.true_eq_false, ret_0, ret_1, ret_z0, ret_z1, zi_lit, zi_add, zi_mul, zi_lt, zi_le, zi_eq, zi_sub, slk, padA, List.any_cons, List.any_nil, nbeq_f, if_true, if_false, Nat.reduceEqDiff, h25, hg, e18, q2, eq_false (by omega : ¬ S.length ≤ i), eq_false (by omega : ¬ 24 ≤ i)]
      exact ih
theorem c17 {G : AG} (hG : FIX G) {s : Nat → Nat × Nat} {mr : Nat → Nat → Nat} (hC : CS s mr) {n : Nat × Nat} {ml : Nat → Nat → Int64} {mi : Nat → Nat → Int32} {Q : Pg} {N : Nat} (hQ : CQ Q N s mi mr) (hW : WP Q) {r : Nat} (hr : r < 8) : G 17 0 [some (.inr (.inr (42 + 9 * r))), none, none] [] (s, n, mi, ml, mr) = some (some (.inl (zi (lps (stk (qk Q r) (qn Q r))))), (s, n, mi, ml, mr)) := by
  obtain ⟨a1, a2, a3, a4, a5, a6, a7⟩ := hQ.2.1 r hr
  have h24 := hW.2.1 r
  have hl := stk_len (qk Q r) (qn Q r)
  have hi := (stk_inv (hW.2.2.2.1 r)).2.1
  have h := c17L hG hC (n := n) (ml := ml) (K := qk Q r) hr h24 (by omega) a2 a3 a4 (fun q hq => by
    obtain ⟨h1, h2⟩ := hi q hq
    refine ⟨h1, (a6 _ h1).2.2.1, (a6 _ h1).1, ?_⟩
    rcases h2 with h | ⟨h, h', -⟩ | ⟨h, h', -⟩
    · exact Or.inl h
    · exact Or.inr ⟨by omega, h'⟩
    · exact Or.inr ⟨by omega, h'⟩) _ 0 (Nat.zero_add _)
  rw [Nat.sub_zero, List.drop_length] at h
  rw [b17_0 hG]
  exact h
theorem c20 {G : AG} (hG : FIX G) {s : Nat → Nat × Nat} {mr : Nat → Nat → Nat} {n : Nat × Nat} {ml : Nat → Nat → Int64} {mi : Nat → Nat → Int32} {o k : Nat} (ho : 142 ≤ o) (hs : s o = osh k) (a b c d : Int32) : G 20 0 [some (.inr (.inr o)), some (.inl a), some (.inl b), some (.inl c), some (.inl d)] [] (s, n, mi, ml, mr) = some (none, (s, n, up2 (up2 (up2 (up2 mi o 1 a) o 2 b) o 3 c) o 4 d, ml, mr)) := by
  have hp : ∀ {m : Nat → Nat → Int32} {f : Nat} {v : Int32}, f = 1 ∨ f = 2 ∨ f = 3 ∨ f = 4 → hpI ((s, n, m, ml, mr) : Hp) o f v = some (s, n, up2 m o f v, ml, mr) := by
    intro m f v hf
    have h := hs
    unfold osh at h
    rcases hf with rfl | rfl | rfl | rfl <;> (split at h; exact rpI h rfl (by omega); split at h; exact rpI h rfl (by omega); split at h; exact rpI h rfl (by omega); split at h; exact rpI h rfl (by omega); exact rpI h rfl (by omega))
  rw [b20_0 hG, nbeq_f (by omega : o ≠ 0)]
  show ((some _).bind _) = _
  simp only [bind_s, hp (Or.inl rfl), hp (Or.inr (Or.inl rfl)), hp (Or.inr (Or.inr (Or.inl rfl))), hp (Or.inr (Or.inr (Or.inr rfl)))]
theorem c23L {G : AG} (hG : FIX G) {s : Nat → Nat × Nat} {mr : Nat → Nat → Nat} (hC : CS s mr) {n : Nat × Nat} {ml : Nat → Nat → Int64} {mi : Nat → Nat → Int32} {K D : Nat → Nat} {r c : Nat} (hr : r < 8) (hc : c ≤ 24) (h23 : mi (42 + 9 * r) 23 = zi c) (hS : ∀ p, p < c → s (mr (43 + 9 * r) p) = osh (K p) ∧ 142 ≤ mr (43 + 9 * r) p ∧ (K p = 4 → mr (mr (43 + 9 * r) p) 6 = 42 + 9 * D p ∧ D p < 8) ∧ (K p = 1 ∨ K p = 3 ∨ K p = 4 ∨ K p = 5 ∨ 6 ≤ K p)) (h21 : ∀ r, r < 8 → mi (42 + 9 * r) 21 = zi r) :
    ∀ (d p : Nat) (o2 o3 : Option AV) (m : Nat → Nat → Int32), p + d = c → (o2 = none ∨ ∃ x, o2 = some (.inr (.inr x))) → (∀ a, a ≠ 42 + 9 * r → m a = mi a) → (∀ f, f ≠ 26 → m (42 + 9 * r) f = mi (42 + 9 * r) f) → m (42 + 9 * r) 26 = zi (cbs K D p) →
    ∃ m', G 23 7 [some (.inr (.inr (42 + 9 * r))), some (.inl (zi p)), o2, o3] [] (s, n, m, ml, mr) = some (none, (s, n, m', ml, mr)) ∧ (∀ a, a ≠ 42 + 9 * r → m' a = mi a) ∧ (∀ f, f ≠ 26 → m' (42 + 9 * r) f = mi (42 + 9 * r) f) ∧ m' (42 + 9 * r) 26 = zi (cbs K D c)
  | 0, p, o2, o3, m, hp, ho, f1, f2, h26 => by
    have e : p = c := by omega
    subst e
    refine ⟨m, ?_, f1, f2, h26⟩
    have h23' : m (42 + 9 * r) 23 = zi p := (f2 23 (by decide)).trans h23
    rcases ho with rfl | ⟨x, rfl⟩
    · rw [b23_7_n hG]; simp (disch := omega) only [b23_51 hG, pc26 hC, gc23 hC, gc26 hC, gc21 hC, kc4 hC, kc42 hC, kc8 hC, kc10 hC, kc11 hC, kc41 hC, nbeq_f, ne_eq, Nat.not_lt_zero, Nat.zero_le, eq_self, not_true_eq_false, not_false_eq_true, decide_true, decide_false, Bool.not_true, Bool.not_false, Bool.true_and, Bool.false_and, Bool.and_true, Bool.and_false, Bool.or_true, Bool.true_or, Bool.false_or, Bool.or_false, Nat.beq_refl, bind_s, as_I, as_J, as_R, as_V, cnd_t, cnd_f, bz_ret, bzp_0, bzp_1, bzp_z0, bzp_z1, dec_bf, dec_bt, dec_nbf, dec_nbt, Bool.false_eq_true, Bool.true_eq_false, ret_0, ret_1, ret_z0, ret_z1, zi_lit, zi_add, zi_mul, zi_lt, zi_le, zi_eq, zi_sub, h23', Nat.le_refl]
    · rw [b23_7_R hG]; simp (disch := omega) only [b23_51 hG, pc26 hC, gc23 hC, gc26 hC, gc21 hC, kc4 hC, kc42 hC, kc8 hC, kc10 hC, kc11 hC, kc41 hC, nbeq_f, ne_eq, Nat.not_lt_zero, Nat.zero_le, eq_self, not_true_eq_false, not_false_eq_true, decide_true, decide_false, Bool.not_true, Bool.not_false, Bool.true_and, Bool.false_and, Bool.and_true, Bool.and_false, Bool.or_true, Bool.true_or, Bool.false_or, Bool.or_false, Nat.beq_refl, bind_s, as_I, as_J, as_R, as_V, cnd_t, cnd_f, bz_ret, bzp_0, bzp_1, bzp_z0, bzp_z1, dec_bf, dec_bt, dec_nbf, dec_nbt, Bool.false_eq_true, Bool.true_eq_false, ret_0, ret_1, ret_z0, ret_z1, zi_lit, zi_add, zi_mul, zi_lt, zi_le, zi_eq, zi_sub, h23', Nat.le_refl]
  | d + 1, p, o2, o3, m, hp, ho, f1, f2, h26 => by
    have h23' : m (42 + 9 * r) 23 = zi c := (f2 23 (by decide)).trans h23
    obtain ⟨q1, q2, q3, q4⟩ := hS p (by omega)
    have hb := cbs_lt (K := K) (D := D) (p := p) (fun q hq h4 => ((hS q (by omega)).2.2.1 h4).2)
    have e18 := c18_t hG hC (n := n) (ml := ml) hr h23' hc (by omega : p < c)
    have h21' : ∀ a, a < 8 → m (42 + 9 * a) 21 = zi a := by
      intro a ha
      by_cases e : a = r
      · rw [e]; exact (f2 21 (by decide)).trans (h21 r hr)
      · rw [f1 _ (by omega)]; exact h21 a ha
    by_cases h4 : K p = 4
    · obtain ⟨t1, t2⟩ := q3 h4
      have hbit := bit_or ⟨_, hb⟩ ⟨D p, t2⟩
      have ec : cbs K D (p + 1) = cbs K D p ||| 2 ^ D p := by rw [cbs, if_pos h4]
      obtain ⟨m', e', r1, r2, r3⟩ := c23L hG hC (s := s) (mr := mr) (n := n) (ml := ml) hr hc h23 hS h21 d (p + 1) (some (.inr (.inr (mr (43 + 9 * r) p)))) (some (.inr (.inr (mr (43 + 9 * r) p)))) (up2 m (42 + 9 * r) 26 (zi (cbs K D p ||| 2 ^ D p))) (by omega) (Or.inr ⟨_, rfl⟩)
        (fun a ha => by rw [up2_n _ _ ha]; exact f1 a ha) (fun f hf => by rw [up2_s, up1_n _ _ hf]; exact f2 f hf) (by rw [up2_s, up1_s, ec])
      refine ⟨m', ?_, r1, r2, r3⟩
      rw [h4, osh_4] at q1
      rcases ho with rfl | ⟨x, rfl⟩
      · rw [b23_7_n hG]
        simp (disch := omega) only [b23_51 hG, pc26 hC, gc23 hC, gc26 hC, gc21 hC, kc4 hC, kc42 hC, kc8 hC, kc10 hC, kc11 hC, kc41 hC, nbeq_f, ne_eq, Nat.not_lt_zero, Nat.zero_le, eq_self, not_true_eq_false, not_false_eq_true, decide_true, decide_false, Bool.not_true, Bool.not_false, Bool.true_and, Bool.false_and, Bool.and_true, Bool.and_false, Bool.or_true, Bool.true_or, Bool.false_or, Bool.or_false, Nat.beq_refl, bind_s, as_I, as_J, as_R, as_V, cnd_t, cnd_f, bz_ret, bzp_0, bzp_1, bzp_z0, bzp_z1, dec_bf, dec_bt, dec_nbf, dec_nbt, Bool.false_eq_true, Bool.true_eq_false, ret_0, ret_1, ret_z0, ret_z1, slk, padA, List.any_cons, List.any_nil, nbeq_f, if_true, if_false, Nat.reduceEqDiff, zi_lit, zi_add, zi_mul, zi_lt, zi_le, zi_eq, zi_sub, h23', e18, q1, rgR q1 hF1_6, t1, h21', h26, hbit, eq_false (by omega : ¬ c ≤ p)]
        exact e'
      · rw [b23_7_R hG]
        simp (disch := omega) only [b23_51 hG, pc26 hC, gc23 hC, gc26 hC, gc21 hC, kc4 hC, kc42 hC, kc8 hC, kc10 hC, kc11 hC, kc41 hC, nbeq_f, ne_eq, Nat.not_lt_zero, Nat.zero_le, eq_self, not_true_eq_false, not_false_eq_true, decide_true, decide_false, Bool.not_true, Bool.not_false, Bool.true_and, Bool.false_and, Bool.and_true, Bool.and_false, Bool.or_true, Bool.true_or, Bool.false_or, Bool.or_false, Nat.beq_refl, bind_s, as_I, as_J, as_R, as_V, cnd_t, cnd_f, bz_ret, bzp_0, bzp_1, bzp_z0, bzp_z1, dec_bf, dec_bt, dec_nbf, dec_nbt, Bool.false_eq_true, Bool.true_eq_false, ret_0, ret_1, ret_z0, ret_z1, slk, padA, List.any_cons, List.any_nil, nbeq_f, if_true, if_false, Nat.reduceEqDiff, zi_lit, zi_add, zi_mul, zi_lt, zi_le, zi_eq, zi_sub, h23', e18, q1, rgR q1 hF1_6, t1, h21', h26, hbit, eq_false (by omega : ¬ c ≤ p)]
        exact e'
    · have ec : cbs K D (p + 1) = cbs K D p := by rw [cbs, if_neg h4]
      obtain ⟨m', e', r1, r2, r3⟩ := c23L hG hC (s := s) (mr := mr) (n := n) (ml := ml) hr hc h23 hS h21 d (p + 1) o2 (some (.inr (.inr (mr (43 + 9 * r) p)))) m (by omega) ho f1 f2 (by rw [ec]; exact h26)
      refine ⟨m', ?_, r1, r2, r3⟩
      rcases q4 with h | h | h | h | h
      case inr.inr.inl => exact absurd h h4
      all_goals
        first | rw [h, osh_1] at q1 | rw [h, osh_3] at q1 | rw [h, osh_5] at q1 | rw [osh_6 h] at q1
        rcases ho with rfl | ⟨x, rfl⟩
        · rw [b23_7_n hG]
          simp (disch := omega) only [b23_51 hG, pc26 hC, gc23 hC, gc26 hC, gc21 hC, kc4 hC, kc42 hC, kc8 hC, kc10 hC, kc11 hC, kc41 hC, nbeq_f, ne_eq, Nat.not_lt_zero, Nat.zero_le, eq_self, not_true_eq_false, not_false_eq_true, decide_true, decide_false, Bool.not_true, Bool.not_false, Bool.true_and, Bool.false_and, Bool.and_true, Bool.and_false, Bool.or_true, Bool.true_or, Bool.false_or, Bool.or_false, Nat.beq_refl, bind_s, as_I, as_J, as_R, as_V, cnd_t, cnd_f, bz_ret, bzp_0, bzp_1, bzp_z0, bzp_z1, dec_bf, dec_bt, dec_nbf, dec_nbt, Bool.false_eq_true, Bool.true_eq_false, ret_0, ret_1, ret_z0, ret_z1, slk, padA, List.any_cons, List.any_nil, nbeq_f, if_true, if_false, Nat.reduceEqDiff, zi_lit, zi_add, zi_mul, zi_lt, zi_le, zi_eq, zi_sub, h23', e18, q1, eq_false (by omega : ¬ c ≤ p)]
          exact e'
        · rw [b23_7_R hG]
          simp (disch := omega) only [b23_51 hG, pc26 hC, gc23 hC, gc26 hC, gc21 hC, kc4 hC, kc42 hC, kc8 hC, kc10 hC, kc11 hC, kc41 hC, nbeq_f, ne_eq, Nat.not_lt_zero, Nat.zero_le, eq_self, not_true_eq_false, not_false_eq_true, decide_true, decide_false, Bool.not_true, Bool.not_false, Bool.true_and, Bool.false_and, Bool.and_true, Bool.and_false, Bool.or_true, Bool.true_or, Bool.false_or, Bool.or_false, Nat.beq_refl, bind_s, as_I, as_J, as_R, as_V, cnd_t, cnd_f, bz_ret, bzp_0, bzp_1, bzp_z0, bzp_z1, dec_bf, dec_bt, dec_nbf, dec_nbt, Bool.false_eq_true, Bool.true_eq_false, ret_0, ret_1, ret_z0, ret_z1, slk, padA, List.any_cons, List.any_nil, nbeq_f, if_true, if_false, Nat.reduceEqDiff, zi_lit, zi_add, zi_mul, zi_lt, zi_le, zi_eq, zi_sub, h23', e18, q1, eq_false (by omega : ¬ c ≤ p)]
          exact e'