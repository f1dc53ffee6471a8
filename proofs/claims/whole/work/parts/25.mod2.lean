/-! the model: what is not closed; ops come and go -/
theorem m135L {G : AG} (hG : FIX G) {s : Nat → Nat × Nat} {mr : Nat → Nat → Nat} (hM : MS s mr) {n : Nat × Nat} {ml : Nat → Nat → Int64} {K : Nat → Nat} {r u : Nat} (hr : r < 8) (hu : u ≤ 24) (hW : WF K u) : ∀ (d p : Nat) (o4 : Option AV) (mi : Nat → Nat → Int32), p + d = u → (∀ p, p < u → mi 116 (24 * r + p) = zi (K p)) → mi 114 63 = zi (stk K p).length → mi 114 66 = zi (lps (stk K p)) → OA (stk K p) (mi 124) (mi 125) →
    ∃ mi', G 135 12 [some (.inr (.inr 114)), some (.inl (zi r)), some (.inl (zi u)), some (.inl (zi p)), o4] [] (s, n, mi, ml, mr) = some (none, (s, n, mi', ml, mr)) ∧ mi' 114 63 = zi (stk K u).length ∧ mi' 114 66 = zi (lps (stk K u)) ∧ OA (stk K u) (mi' 124) (mi' 125) ∧ MK mi mi'
  | 0, p, o4, mi, hp, hk, h63, h66, hO => by
    have e : p = u := by omega
    subst e
    refine ⟨mi, ?_, h63, h66, hO, MK_refl _⟩
    rw [b135_12 hG]
    simp (disch := omega) only [ne_eq, Nat.not_lt_zero, Nat.zero_le, eq_self, not_true_eq_false, not_false_eq_true, decide_true, decide_false, Bool.not_true, Bool.not_false, Bool.true_and, Bool.false_and, Bool.and_true, Bool.and_false, Bool.or_true, Bool.true_or, Bool.false_or, Bool.or_false, Nat.beq_refl, bind_s, as_I, as_J, as_R, as_V, cnd_t, cnd_f, bz_ret, bzp_0, bzp_1, bzp_z0, bzp_z1, dec_bf, dec_bt, dec_nbf, dec_nbt, Bool.false_eq_true, Bool.true_eq_false, ret_0, ret_1, ret_z0, ret_z1, zi_lit, zi_add, zi_mul, zi_lt, zi_le, zi_eq, zi_sub, Nat.le_refl]
  | d + 1, p, o4, mi, hp, hk, h63, h66, hO => by
    have hlt : p < u := by omega
    have hn : ¬ u ≤ p := by omega
    have hl := stk_len K p
    have hl2 := lps_len (stk K p)
    have hkp := hk p hlt
    rw [b135_12 hG]
    rcases hW p hlt with h | ⟨h, h3⟩ | h | h | ⟨h, q, T, hS⟩ | ⟨h, q, T, hS⟩ | ⟨h, q, T, hS⟩
    · have e : stk K (p + 1) = stk K p := by show stq (K p) p _ = _; rw [h]; rfl
      obtain ⟨mi', e', r1, r2, r3, r4⟩ := m135L hG hM (s := s) (mr := mr) (n := n) (ml := ml) hr hu hW d (p + 1) (some (.inl (zi (K p)))) mi (by omega) hk (by rw [e]; exact h63) (by rw [e]; exact h66) (by rw [e]; exact hO)
      refine ⟨mi', ?_, r1, r2, r3, r4⟩
      rw [h] at hkp e'
      simp (disch := omega) only [b135_42 hG, b135_61 hG, b135_98 hG, b135_141 hG, b135_168 hG, b135_172 hG, pm63 hM, pm66 hM, gm52 hM, am116 hM, wm116 hM, gm64 hM, am124 hM, wm124 hM, gm63 hM, gm65 hM, am125 hM, wm125 hM, gm66 hM, ne_eq, Nat.not_lt_zero, Nat.zero_le, eq_self, not_true_eq_false, not_false_eq_true, decide_true, decide_false, Bool.not_true, Bool.not_false, Bool.true_and, Bool.false_and, Bool.and_true, Bool.and_false, Bool.or_true, Bool.true_or, Bool.false_or, Bool.or_false, Nat.beq_refl, bind_s, as_I, as_J, as_R, as_V, cnd_t, cnd_f, bz_ret, bzp_0, bzp_1, bzp_z0, bzp_z1, dec_bf, dec_bt, dec_nbf, dec_nbt, Bool.false_eq_true, Bool.true_eq_false, ret_0, ret_1, ret_z0, ret_z1, zi_lit, zi_add, zi_mul, zi_lt, zi_le, zi_eq, zi_sub, hkp, eq_false hn, Nat.reduceEqDiff]
      exact e'
    · have e : stk K (p + 1) = (p, 0) :: stk K p := by show stq (K p) p _ = _; rw [h]; rfl
      obtain ⟨mi', e', r1, r2, r3, r4⟩ := m135L hG hM (s := s) (mr := mr) (n := n) (ml := ml) hr hu hW d (p + 1) (some (.inl (zi (K p)))) (up2 (up2 (up2 (up2 mi 124 (stk K p).length (zi 0)) 125 (stk K p).length (zi p)) 114 63 (zi ((stk K p).length + 1))) 114 66 (zi (lps (stk K p) + 1))) (by omega)
        (fun p hp => by simp (disch := omega) only [up2_s, up2_n]; exact hk p hp)
        (by rw [e]; simp (disch := omega) only [up2_s, up1_s, up1_n, List.length_cons])
        (by rw [e]; simp (disch := omega) only [up2_s, up1_s, lps, if_true, Nat.add_comm])
        (by
          rw [e]
          simp (disch := omega) only [up2_s, up2_n, OA, up1_s, true_and]
          exact OA_congr (fun i hi => up1_n _ _ (by omega)) (fun i hi => up1_n _ _ (by omega)) hO)
      refine ⟨mi', ?_, r1, r2, r3, MK_trans (MK_trans (MK_trans (MK_trans (MK_a (by omega)) (MK_a (by omega))) (MK_f (by omega))) (MK_f (by omega))) r4⟩
      rw [h] at hkp e'
      simp (disch := omega) only [b135_42 hG, b135_61 hG, b135_98 hG, b135_141 hG, b135_168 hG, b135_172 hG, pm63 hM, pm66 hM, gm52 hM, am116 hM, wm116 hM, gm64 hM, am124 hM, wm124 hM, gm63 hM, gm65 hM, am125 hM, wm125 hM, gm66 hM, ne_eq, Nat.not_lt_zero, Nat.zero_le, eq_self, not_true_eq_false, not_false_eq_true, decide_true, decide_false, Bool.not_true, Bool.not_false, Bool.true_and, Bool.false_and, Bool.and_true, Bool.and_false, Bool.or_true, Bool.true_or, Bool.false_or, Bool.or_false, Nat.beq_refl, bind_s, as_I, as_J, as_R, as_V, cnd_t, cnd_f, bz_ret, bzp_0, bzp_1, bzp_z0, bzp_z1, dec_bf, dec_bt, dec_nbf, dec_nbt, Bool.false_eq_true, Bool.true_eq_false, ret_0, ret_1, ret_z0, ret_z1, zi_lit, zi_add, zi_mul, zi_lt, zi_le, zi_eq, zi_sub, hkp, h63, h66, up2_s, up2_n, up1_s, up1_n, eq_false hn, Nat.reduceEqDiff]
      exact e'
    · have e : stk K (p + 1) = stk K p := by show stq (K p) p _ = _; rw [h]; rfl
      obtain ⟨mi', e', r1, r2, r3, r4⟩ := m135L hG hM (s := s) (mr := mr) (n := n) (ml := ml) hr hu hW d (p + 1) (some (.inl (zi (K p)))) mi (by omega) hk (by rw [e]; exact h63) (by rw [e]; exact h66) (by rw [e]; exact hO)
      refine ⟨mi', ?_, r1, r2, r3, r4⟩
      rw [h] at hkp e'
      simp (disch := omega) only [b135_42 hG, b135_61 hG, b135_98 hG, b135_141 hG, b135_168 hG, b135_172 hG, pm63 hM, pm66 hM, gm52 hM, am116 hM, wm116 hM, gm64 hM, am124 hM, wm124 hM, gm63 hM, gm65 hM, am125 hM, wm125 hM, gm66 hM, ne_eq, Nat.not_lt_zero, Nat.zero_le, eq_self, not_true_eq_false, not_false_eq_true, decide_true, decide_false, Bool.not_true, Bool.not_false, Bool.true_and, Bool.false_and, Bool.and_true, Bool.and_false, Bool.or_true, Bool.true_or, Bool.false_or, Bool.or_false, Nat.beq_refl, bind_s, as_I, as_J, as_R, as_V, cnd_t, cnd_f, bz_ret, bzp_0, bzp_1, bzp_z0, bzp_z1, dec_bf, dec_bt, dec_nbf, dec_nbt, Bool.false_eq_true, Bool.true_eq_false, ret_0, ret_1, ret_z0, ret_z1, zi_lit, zi_add, zi_mul, zi_lt, zi_le, zi_eq, zi_sub, hkp, eq_false hn, Nat.reduceEqDiff]
      exact e'
    · have e : stk K (p + 1) = (p, 1) :: stk K p := by show stq (K p) p _ = _; rw [h]; rfl
      obtain ⟨mi', e', r1, r2, r3, r4⟩ := m135L hG hM (s := s) (mr := mr) (n := n) (ml := ml) hr hu hW d (p + 1) (some (.inl (zi (K p)))) (up2 (up2 (up2 (up2 mi 124 (stk K p).length (zi 1)) 125 (stk K p).length (zi p)) 114 63 (zi ((stk K p).length + 1))) 114 66 (zi (lps (stk K p)))) (by omega)
        (fun p hp => by simp (disch := omega) only [up2_s, up2_n]; exact hk p hp)
        (by rw [e]; simp (disch := omega) only [up2_s, up1_s, up1_n, List.length_cons])
        (by rw [e]; simp (disch := omega) only [up2_s, up1_s, lps, if_false, Nat.zero_add, Nat.one_ne_zero])
        (by
          rw [e]
          simp (disch := omega) only [up2_s, up2_n, OA, up1_s, true_and]
          exact OA_congr (fun i hi => up1_n _ _ (by omega)) (fun i hi => up1_n _ _ (by omega)) hO)
      refine ⟨mi', ?_, r1, r2, r3, MK_trans (MK_trans (MK_trans (MK_trans (MK_a (by omega)) (MK_a (by omega))) (MK_f (by omega))) (MK_f (by omega))) r4⟩
      rw [h] at hkp e'
      simp (disch := omega) only [b135_42 hG, b135_61 hG, b135_98 hG, b135_141 hG, b135_168 hG, b135_172 hG, pm63 hM, pm66 hM, gm52 hM, am116 hM, wm116 hM, gm64 hM, am124 hM, wm124 hM, gm63 hM, gm65 hM, am125 hM, wm125 hM, gm66 hM, ne_eq, Nat.not_lt_zero, Nat.zero_le, eq_self, not_true_eq_false, not_false_eq_true, decide_true, decide_false, Bool.not_true, Bool.not_false, Bool.true_and, Bool.false_and, Bool.and_true, Bool.and_false, Bool.or_true, Bool.true_or, Bool.false_or, Bool.or_false, Nat.beq_refl, bind_s, as_I, as_J, as_R, as_V, cnd_t, cnd_f, bz_ret, bzp_0, bzp_1, bzp_z0, bzp_z1, dec_bf, dec_bt, dec_nbf, dec_nbt, Bool.false_eq_true, Bool.true_eq_false, ret_0, ret_1, ret_z0, ret_z1, zi_lit, zi_add, zi_mul, zi_lt, zi_le, zi_eq, zi_sub, hkp, h63, h66, up2_s, up2_n, up1_s, up1_n, eq_false hn, Nat.add_zero, Nat.reduceEqDiff]
      exact e'
    · have e : stk K (p + 1) = T := by show stq (K p) p _ = _; rw [h, hS]; rfl
      rw [hS] at h63 h66 hO hl hl2
      rw [List.length_cons] at h63 hl hl2
      have hlp : lps ((q, 0) :: T) = lps T + 1 := Nat.add_comm 1 _
      rw [hlp] at h66 hl2
      obtain ⟨mi', e', r1, r2, r3, r4⟩ := m135L hG hM (s := s) (mr := mr) (n := n) (ml := ml) hr hu hW d (p + 1) (some (.inl (zi (K p)))) (up2 (up2 mi 114 63 (zi T.length)) 114 66 (zi (lps T))) (by omega)
        (fun p hp => by simp (disch := omega) only [up2_s, up2_n]; exact hk p hp)
        (by rw [e]; simp (disch := omega) only [up2_s, up1_s, up1_n])
        (by rw [e]; simp (disch := omega) only [up2_s, up1_s])
        (by
          rw [e]
          simp (disch := omega) only [up2_s, up2_n]
          exact hO.2.2)
      refine ⟨mi', ?_, r1, r2, r3, MK_trans (MK_trans (MK_f (by omega)) (MK_f (by omega))) r4⟩
      rw [h] at hkp e'
      simp (disch := omega) only [b135_42 hG, b135_61 hG, b135_98 hG, b135_141 hG, b135_168 hG, b135_172 hG, pm63 hM, pm66 hM, gm52 hM, am116 hM, wm116 hM, gm64 hM, am124 hM, wm124 hM, gm63 hM, gm65 hM, am125 hM, wm125 hM, gm66 hM, ne_eq, Nat.not_lt_zero, Nat.zero_le, eq_self, not_true_eq_false, not_false_eq_true, decide_true, decide_false, Bool.not_true, Bool.not_false, Bool.true_and, Bool.false_and, Bool.and_true, Bool.and_false, Bool.or_true, Bool.true_or, Bool.false_or, Bool.or_false, Nat.beq_refl, bind_s, as_I, as_J, as_R, as_V, cnd_t, cnd_f, bz_ret, bzp_0, bzp_1, bzp_z0, bzp_z1, dec_bf, dec_bt, dec_nbf, dec_nbt, Bool.false_eq_true, Bool.true_eq_false, ret_0, ret_1, ret_z0, ret_z1, zi_lit, zi_add, zi_mul, zi_lt, zi_le, zi_eq, zi_sub, hkp, h63, h66, up2_s, up2_n, up1_s, up1_n, eq_false hn, Nat.add_sub_cancel, Nat.reduceEqDiff]
      exact e'
    · have e : stk K (p + 1) = (q, 2) :: T := by show stq (K p) p _ = _; rw [h, hS]; rfl
      rw [hS] at h63 h66 hO hl hl2
      rw [List.length_cons] at h63 hl hl2
      obtain ⟨mi', e', r1, r2, r3, r4⟩ := m135L hG hM (s := s) (mr := mr) (n := n) (ml := ml) hr hu hW d (p + 1) (some (.inl (zi (K p)))) (up2 mi 124 T.length (zi 2)) (by omega)
        (fun p hp => by simp (disch := omega) only [up2_s, up2_n]; exact hk p hp)
        (by rw [e]; simp (disch := omega) only [up2_n, h63, List.length_cons])
        (by rw [e]; simp (disch := omega) only [up2_n, h66]; rfl)
        (by
          rw [e]
          simp (disch := omega) only [up2_s, up2_n, OA, up1_s, true_and]
          exact ⟨hO.2.1, OA_congr (fun i hi => up1_n _ _ (by omega)) (fun i hi => rfl) hO.2.2⟩)
      refine ⟨mi', ?_, r1, r2, r3, MK_trans (MK_a (by omega)) r4⟩
      rw [h] at hkp e'
      simp (disch := omega) only [b135_42 hG, b135_61 hG, b135_98 hG, b135_141 hG, b135_168 hG, b135_172 hG, pm63 hM, pm66 hM, gm52 hM, am116 hM, wm116 hM, gm64 hM, am124 hM, wm124 hM, gm63 hM, gm65 hM, am125 hM, wm125 hM, gm66 hM, ne_eq, Nat.not_lt_zero, Nat.zero_le, eq_self, not_true_eq_false, not_false_eq_true, decide_true, decide_false, Bool.not_true, Bool.not_false, Bool.true_and, Bool.false_and, Bool.and_true, Bool.and_false, Bool.or_true, Bool.true_or, Bool.false_or, Bool.or_false, Nat.beq_refl, bind_s, as_I, as_J, as_R, as_V, cnd_t, cnd_f, bz_ret, bzp_0, bzp_1, bzp_z0, bzp_z1, dec_bf, dec_bt, dec_nbf, dec_nbt, Bool.false_eq_true, Bool.true_eq_false, ret_0, ret_1, ret_z0, ret_z1, zi_lit, zi_add, zi_mul, zi_lt, zi_le, zi_eq, zi_sub, hkp, h63, h66, up2_s, up2_n, up1_s, up1_n, eq_false hn, Nat.add_sub_cancel, Nat.reduceEqDiff]
      exact e'
    · have e : stk K (p + 1) = T := by show stq (K p) p _ = _; rw [h, hS]; rfl
      rw [hS] at h63 h66 hO hl hl2
      rw [List.length_cons] at h63 hl hl2
      have hlp : lps ((q, 2) :: T) = lps T := Nat.zero_add _
      rw [hlp] at h66 hl2
      obtain ⟨mi', e', r1, r2, r3, r4⟩ := m135L hG hM (s := s) (mr := mr) (n := n) (ml := ml) hr hu hW d (p + 1) (some (.inl (zi (K p)))) (up2 (up2 mi 114 63 (zi T.length)) 114 66 (zi (lps T))) (by omega)
        (fun p hp => by simp (disch := omega) only [up2_s, up2_n]; exact hk p hp)
        (by rw [e]; simp (disch := omega) only [up2_s, up1_s, up1_n])
        (by rw [e]; simp (disch := omega) only [up2_s, up1_s])
        (by
          rw [e]
          simp (disch := omega) only [up2_s, up2_n]
          exact hO.2.2)
      refine ⟨mi', ?_, r1, r2, r3, MK_trans (MK_trans (MK_f (by omega)) (MK_f (by omega))) r4⟩
      rw [h] at hkp e'
      simp (disch := omega) only [b135_42 hG, b135_61 hG, b135_98 hG, b135_141 hG, b135_168 hG, b135_172 hG, pm63 hM, pm66 hM, gm52 hM, am116 hM, wm116 hM, gm64 hM, am124 hM, wm124 hM, gm63 hM, gm65 hM, am125 hM, wm125 hM, gm66 hM, ne_eq, Nat.not_lt_zero, Nat.zero_le, eq_self, not_true_eq_false, not_false_eq_true, decide_true, decide_false, Bool.not_true, Bool.not_false, Bool.true_and, Bool.false_and, Bool.and_true, Bool.and_false, Bool.or_true, Bool.true_or, Bool.false_or, Bool.or_false, Nat.beq_refl, bind_s, as_I, as_J, as_R, as_V, cnd_t, cnd_f, bz_ret, bzp_0, bzp_1, bzp_z0, bzp_z1, dec_bf, dec_bt, dec_nbf, dec_nbt, Bool.false_eq_true, Bool.true_eq_false, ret_0, ret_1, ret_z0, ret_z1, zi_lit, zi_add, zi_mul, zi_lt, zi_le, zi_eq, zi_sub, hkp, h63, h66, up2_s, up2_n, up1_s, up1_n, eq_false hn, Nat.add_sub_cancel, Nat.sub_zero, Nat.reduceEqDiff]
      exact e'
theorem m135 {G : AG} (hG : FIX G) {s : Nat → Nat × Nat} {mr : Nat → Nat → Nat} (hM : MS s mr) {n : Nat × Nat} {ml : Nat → Nat → Int64} {K : Nat → Nat} {r u : Nat} (hr : r < 8) (hu : u ≤ 24) (hW : WF K u) {mi : Nat → Nat → Int32} (hk : ∀ p, p < u → mi 116 (24 * r + p) = zi (K p)) :
    ∃ mi', G 135 0 [some (.inr (.inr 114)), some (.inl (zi r)), some (.inl (zi u)), none, none] [] (s, n, mi, ml, mr) = some (none, (s, n, mi', ml, mr)) ∧ mi' 114 63 = zi (stk K u).length ∧ mi' 114 66 = zi (lps (stk K u)) ∧ OA (stk K u) (mi' 124) (mi' 125) ∧ MK mi mi' := by
  obtain ⟨mi', e', r1, r2, r3, r4⟩ := m135L hG hM (n := n) (ml := ml) hr hu hW u 0 none (up2 (up2 mi 114 63 (zi 0)) 114 66 (zi 0)) (by omega)
    (fun p hp => by simp (disch := omega) only [up2_s, up2_n]; exact hk p hp)
    (by simp (disch := omega) only [up2_s, up1_s, up1_n]; rfl)
    (by simp (disch := omega) only [up2_s, up1_s, up1_n]; rfl) trivial
  refine ⟨mi', ?_, r1, r2, r3, MK_trans (MK_trans (MK_f (by omega)) (MK_f (by omega))) r4⟩
  rw [b135_0 hG]
  simp (disch := omega) only [b135_42 hG, b135_61 hG, b135_98 hG, b135_141 hG, b135_168 hG, b135_172 hG, pm63 hM, pm66 hM, gm52 hM, am116 hM, wm116 hM, gm64 hM, am124 hM, wm124 hM, gm63 hM, gm65 hM, am125 hM, wm125 hM, gm66 hM, ne_eq, Nat.not_lt_zero, Nat.zero_le, eq_self, not_true_eq_false, not_false_eq_true, decide_true, decide_false, Bool.not_true, Bool.not_false, Bool.true_and, Bool.false_and, Bool.and_true, Bool.and_false, Bool.or_true, Bool.true_or, Bool.false_or, Bool.or_false, Nat.beq_refl, bind_s, as_I, as_J, as_R, as_V, cnd_t, cnd_f, bz_ret, bzp_0, bzp_1, bzp_z0, bzp_z1, dec_bf, dec_bt, dec_nbf, dec_nbt, Bool.false_eq_true, Bool.true_eq_false, ret_0, ret_1, ret_z0, ret_z1, zi_lit, zi_add, zi_mul, zi_lt, zi_le, zi_eq, zi_sub]
  exact e'