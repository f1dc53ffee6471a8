/-! the model: a close; what ops are asked -/
def stb (S : List (Nat × Nat)) : Prop := ∀ q ∈ S, q.2 ≤ 2
theorem stk_b (K : Nat → Nat) : ∀ p, stb (stk K p)
  | 0 => fun q h => by cases h
  | p + 1 => by
    have ih := stk_b K p
    intro q h
    have h' : q ∈ stq (K p) p (stk K p) := h
    unfold stq at h'
    split at h'
    · rcases List.mem_cons.mp h' with rfl | h2
      · exact Nat.zero_le _
      · exact ih q h2
    · split at h'
      · rcases List.mem_cons.mp h' with rfl | h2
        · exact Nat.le_succ _
        · exact ih q h2
      · split at h'
        · cases hS : stk K p with
          | nil => rw [hS] at h'; cases h'
          | cons a T =>
            rw [hS] at h'
            rcases List.mem_cons.mp h' with rfl | h2
            · exact Nat.le_refl _
            · exact ih q (by rw [hS]; exact List.mem_cons_of_mem _ h2)
        · split at h'
          · exact ih q (List.mem_of_mem_tail h')
          · exact ih q h'
def opq (Q : Pg) (x y : Int32) : Bool := isN x (qc Q) && isN y (qn Q x.toNatClampNeg)
def rKind (Q : Pg) (x y : Int32) : Int32 := bif opq Q x y then zi (qk Q x.toNatClampNeg y.toNatClampNeg) else -1000001
def rIs (Q : Pg) (x y k : Int32) : Int32 := bif opq Q x y && isN k 9 then (bif decide (zi (qk Q x.toNatClampNeg y.toNatClampNeg) = k) || (decide (k = 0) || (decide (k = 2) && (decide (qk Q x.toNatClampNeg y.toNatClampNeg = 3) || decide (qk Q x.toNatClampNeg y.toNatClampNeg = 4)))) then 1 else 0) else -1000001
def rTold (Q : Pg) (x y w : Int32) : Int32 := bif opq Q x y && isN w 6 then (bif decide (qk Q x.toNatClampNeg y.toNatClampNeg = 3) || decide (qk Q x.toNatClampNeg y.toNatClampNeg = 4) then zi (qt Q x.toNatClampNeg y.toNatClampNeg w.toNatClampNeg) else -1000005) else -1000001
theorem kle {K : Nat → Nat} {n p : Nat} (h : WF K n) (hp : p < n) : K p = 1 ∨ K p = 3 ∨ K p = 4 ∨ K p = 5 ∨ K p = 6 ∨ K p = 7 ∨ K p = 8 := by
  rcases h p hp with h | ⟨h, -⟩ | h | h | ⟨h, -⟩ | ⟨h, -⟩ | ⟨h, -⟩ <;> omega
theorem m138 {G : AG} (hG : FIX G) {s : Nat → Nat × Nat} {mr : Nat → Nat → Nat} (hM : MS s mr) {n : Nat × Nat} {ml : Nat → Nat → Int64} {mi : Nat → Nat → Int32} {Q : Pg} (hQ : mdQ Q mi) (hW : WP Q) {x : Nat → Nat} (hx : MX x mi) (a c : Int32) : ∃ mi', G 138 0 [some (.inr (.inr 114)), some (.inl a), some (.inl c), none] [] (s, n, mi, ml, mr) = some (some (.inl (opClose Q a c x).1), (s, n, mi', ml, mr)) ∧ mdQ (opClose Q a c x).2 mi' ∧ (MC mi mi' ∨ (MK mi mi' ∧ (opClose Q a c x).2 = Q)) := by
  have h8 := hW.1
  rw [b138_0 hG]
  simp (disch := omega) only [b138_22 hG, gm51 hM, km hM, ne_eq, Nat.not_lt_zero, Nat.zero_le, eq_self, not_true_eq_false, not_false_eq_true, decide_true, decide_false, Bool.not_true, Bool.not_false, Bool.true_and, Bool.false_and, Bool.and_true, Bool.and_false, Bool.or_true, Bool.true_or, Bool.false_or, Bool.or_false, Nat.beq_refl, bind_s, as_I, as_J, as_R, as_V, cnd_t, cnd_f, bz_ret, bzp_0, bzp_1, bzp_z0, bzp_z1, dec_bf, dec_bt, dec_nbf, dec_nbt, Bool.false_eq_true, Bool.true_eq_false, ret_0, ret_1, ret_z0, ret_z1, m132 hG hM hQ hW, m130 hG, zl_lit, in_zl]
  unfold opClose
  cases h1 : isN a (qc Q)
  · simp only [ne_eq, Nat.not_lt_zero, Nat.zero_le, eq_self, not_true_eq_false, not_false_eq_true, decide_true, decide_false, Bool.not_true, Bool.not_false, Bool.true_and, Bool.false_and, Bool.and_true, Bool.and_false, Bool.or_true, Bool.true_or, Bool.false_or, Bool.or_false, Nat.beq_refl, bind_s, as_I, as_J, as_R, as_V, cnd_t, cnd_f, bz_ret, bzp_0, bzp_1, bzp_z0, bzp_z1, dec_bf, dec_bt, dec_nbf, dec_nbt, Bool.false_eq_true, Bool.true_eq_false, ret_0, ret_1, ret_z0, ret_z1]; exact ⟨mi, rfl, hQ, Or.inr ⟨MK_refl _, trivial⟩⟩
  · cases h2 : isB c 6 8
    · simp only [ne_eq, Nat.not_lt_zero, Nat.zero_le, eq_self, not_true_eq_false, not_false_eq_true, decide_true, decide_false, Bool.not_true, Bool.not_false, Bool.true_and, Bool.false_and, Bool.and_true, Bool.and_false, Bool.or_true, Bool.true_or, Bool.false_or, Bool.or_false, Nat.beq_refl, bind_s, as_I, as_J, as_R, as_V, cnd_t, cnd_f, bz_ret, bzp_0, bzp_1, bzp_z0, bzp_z1, dec_bf, dec_bt, dec_nbf, dec_nbt, Bool.false_eq_true, Bool.true_eq_false, ret_0, ret_1, ret_z0, ret_z1]; exact ⟨mi, rfl, hQ, Or.inr ⟨MK_refl _, trivial⟩⟩
    · obtain ⟨r, hr, -, rfl⟩ := isN_t h1
      obtain ⟨k, hk1, hk2, rfl⟩ := isB_t h2 (by decide)
      have h24 := hW.2.1 r
      obtain ⟨m1, e1, k63, -, kO, kk⟩ := m135 hG hM (n := n) (ml := ml) (r := r) (u := qn Q r) (by omega) h24 (hW.2.2.2.1 r) (mi := mi) (fun p hp => (hQ.2.2 r p (by omega) hp).1)
      have hl := stk_len (qk Q r) (qn Q r)
      have hb := stk_b (qk Q r) (qn Q r)
      have hd : (bif decide (zi k ≠ 6) then bif decide (zi k ≠ 7) then G 138 57 [some (.inr (.inr 114)), some (.inl (zi r)), some (.inl (zi k)), none] [.inl 2] (s, n, m1, ml, mr) else G 138 57 [some (.inr (.inr 114)), some (.inl (zi r)), some (.inl (zi k)), none] [.inl 1] (s, n, m1, ml, mr) else G 138 57 [some (.inr (.inr 114)), some (.inl (zi r)), some (.inl (zi k)), none] [.inl 0] (s, n, m1, ml, mr)) = G 138 57 [some (.inr (.inr 114)), some (.inl (zi r)), some (.inl (zi k)), none] [.inl (zi (k - 6))] (s, n, m1, ml, mr) := by
        have h3 : k = 6 ∨ k = 7 ∨ k = 8 := by omega
        rcases h3 with rfl | rfl | rfl <;> rfl
      simp (disch := omega) only [ne_eq, Nat.not_lt_zero, Nat.zero_le, eq_self, not_true_eq_false, not_false_eq_true, decide_true, decide_false, Bool.not_true, Bool.not_false, Bool.true_and, Bool.false_and, Bool.and_true, Bool.and_false, Bool.or_true, Bool.true_or, Bool.false_or, Bool.or_false, Nat.beq_refl, bind_s, as_I, as_J, as_R, as_V, cnd_t, cnd_f, bz_ret, bzp_0, bzp_1, bzp_z0, bzp_z1, dec_bf, dec_bt, dec_nbf, dec_nbt, Bool.false_eq_true, Bool.true_eq_false, ret_0, ret_1, ret_z0, ret_z1, zi_cl, hQ.2.1 r (by omega), am115 hM, e1] at hd ⊢
      rw [hd, b138_57 hG]
      have hk24 : k - 6 < 24 := by omega
      cases hS : stk (qk Q r) (qn Q r) with
      | nil =>
        rw [hS] at k63
        refine ⟨m1, ?_, mdQ_MK hQ kk, Or.inr ⟨kk, rfl⟩⟩
        simp (disch := omega) only [b138_22 hG, b138_57 hG, b138_80 hG, b138_94 hG, gm51 hM, am115 hM, wm115 hM, km hM, gm63 hM, gm64 hM, am124 hM, wm124 hM, ne_eq, Nat.not_lt_zero, Nat.zero_le, eq_self, not_true_eq_false, not_false_eq_true, decide_true, decide_false, Bool.not_true, Bool.not_false, Bool.true_and, Bool.false_and, Bool.and_true, Bool.and_false, Bool.or_true, Bool.true_or, Bool.false_or, Bool.or_false, Nat.beq_refl, bind_s, as_I, as_J, as_R, as_V, cnd_t, cnd_f, bz_ret, bzp_0, bzp_1, bzp_z0, bzp_z1, dec_bf, dec_bt, dec_nbf, dec_nbt, Bool.false_eq_true, Bool.true_eq_false, ret_0, ret_1, ret_z0, ret_z1, zi_lit, zi_add, zi_mul, zi_lt, zi_le, zi_eq, zi_sub, k63, List.length_nil, clo]
      | cons q T =>
        rw [hS] at k63 kO hl hb
        rw [List.length_cons] at k63 hl
        have hq2 := hb q (List.mem_cons_self ..)
        simp (disch := omega) only [b138_22 hG, b138_57 hG, b138_80 hG, b138_94 hG, gm51 hM, am115 hM, wm115 hM, km hM, gm63 hM, gm64 hM, am124 hM, wm124 hM, ne_eq, Nat.not_lt_zero, Nat.zero_le, eq_self, not_true_eq_false, not_false_eq_true, decide_true, decide_false, Bool.not_true, Bool.not_false, Bool.true_and, Bool.false_and, Bool.and_true, Bool.and_false, Bool.or_true, Bool.true_or, Bool.false_or, Bool.or_false, Nat.beq_refl, bind_s, as_I, as_J, as_R, as_V, cnd_t, cnd_f, bz_ret, bzp_0, bzp_1, bzp_z0, bzp_z1, dec_bf, dec_bt, dec_nbf, dec_nbt, Bool.false_eq_true, Bool.true_eq_false, ret_0, ret_1, ret_z0, ret_z1, zi_lit, zi_add, zi_mul, zi_lt, zi_le, zi_eq, zi_sub, k63, Nat.add_sub_cancel, kO.1, clo, eq_false (by omega : ¬ T.length + 1 = 0)]
        by_cases h4 : q.2 + 6 = k
        · obtain ⟨mi', e', q1, q2⟩ := m133 hG hM (n := n) (ml := ml) (mdQ_MK hQ kk) hW (fun q hq => by rw [kk.2.2.1 120 (by decide) (by decide)]; exact hx q hq) k 0 0 (zi 0) (-zi 1000000) (r := r) (by omega) (fun h => rfl) (fun h => by omega)
          refine ⟨mi', ?_, ?_, ?_⟩
          · simp (disch := omega) only [ne_eq, Nat.not_lt_zero, Nat.zero_le, eq_self, not_true_eq_false, not_false_eq_true, decide_true, decide_false, Bool.not_true, Bool.not_false, Bool.true_and, Bool.false_and, Bool.and_true, Bool.and_false, Bool.or_true, Bool.true_or, Bool.false_or, Bool.or_false, Nat.beq_refl, bind_s, as_I, as_J, as_R, as_V, cnd_t, cnd_f, bz_ret, bzp_0, bzp_1, bzp_z0, bzp_z1, dec_bf, dec_bt, dec_nbf, dec_nbt, Bool.false_eq_true, Bool.true_eq_false, ret_0, ret_1, ret_z0, ret_z1, b138_22 hG, b138_57 hG, b138_80 hG, b138_94 hG, eq_true h4, eq_true (by omega : q.2 = k - 6), e']
          · simp only [ne_eq, Nat.not_lt_zero, Nat.zero_le, eq_self, not_true_eq_false, not_false_eq_true, decide_true, decide_false, Bool.not_true, Bool.not_false, Bool.true_and, Bool.false_and, Bool.and_true, Bool.and_false, Bool.or_true, Bool.true_or, Bool.false_or, Bool.or_false, Nat.beq_refl, bind_s, as_I, as_J, as_R, as_V, cnd_t, cnd_f, bz_ret, bzp_0, bzp_1, bzp_z0, bzp_z1, dec_bf, dec_bt, dec_nbf, dec_nbt, Bool.false_eq_true, Bool.true_eq_false, ret_0, ret_1, ret_z0, ret_z1, eq_true h4]; exact q1
          · simp only [ne_eq, Nat.not_lt_zero, Nat.zero_le, eq_self, not_true_eq_false, not_false_eq_true, decide_true, decide_false, Bool.not_true, Bool.not_false, Bool.true_and, Bool.false_and, Bool.and_true, Bool.and_false, Bool.or_true, Bool.true_or, Bool.false_or, Bool.or_false, Nat.beq_refl, bind_s, as_I, as_J, as_R, as_V, cnd_t, cnd_f, bz_ret, bzp_0, bzp_1, bzp_z0, bzp_z1, dec_bf, dec_bt, dec_nbf, dec_nbt, Bool.false_eq_true, Bool.true_eq_false, ret_0, ret_1, ret_z0, ret_z1, eq_true h4]
            rcases q2 with q | ⟨q, q'⟩
            · exact Or.inl (MC_MK kk q)
            · exact Or.inr ⟨by rw [q]; exact kk, q'⟩
        · refine ⟨m1, ?_, ?_, Or.inr ⟨kk, ?_⟩⟩
          · simp (disch := omega) only [ne_eq, Nat.not_lt_zero, Nat.zero_le, eq_self, not_true_eq_false, not_false_eq_true, decide_true, decide_false, Bool.not_true, Bool.not_false, Bool.true_and, Bool.false_and, Bool.and_true, Bool.and_false, Bool.or_true, Bool.true_or, Bool.false_or, Bool.or_false, Nat.beq_refl, bind_s, as_I, as_J, as_R, as_V, cnd_t, cnd_f, bz_ret, bzp_0, bzp_1, bzp_z0, bzp_z1, dec_bf, dec_bt, dec_nbf, dec_nbt, Bool.false_eq_true, Bool.true_eq_false, ret_0, ret_1, ret_z0, ret_z1, b138_22 hG, b138_57 hG, b138_80 hG, b138_94 hG, zi_lit, zi_add, zi_mul, zi_lt, zi_le, zi_eq, zi_sub, eq_false h4, eq_false (by omega : ¬ q.2 = k - 6)]
          · simp only [ne_eq, Nat.not_lt_zero, Nat.zero_le, eq_self, not_true_eq_false, not_false_eq_true, decide_true, decide_false, Bool.not_true, Bool.not_false, Bool.true_and, Bool.false_and, Bool.and_true, Bool.and_false, Bool.or_true, Bool.true_or, Bool.false_or, Bool.or_false, Nat.beq_refl, bind_s, as_I, as_J, as_R, as_V, cnd_t, cnd_f, bz_ret, bzp_0, bzp_1, bzp_z0, bzp_z1, dec_bf, dec_bt, dec_nbf, dec_nbt, Bool.false_eq_true, Bool.true_eq_false, ret_0, ret_1, ret_z0, ret_z1, eq_false h4]; exact mdQ_MK hQ kk
          · simp only [ne_eq, Nat.not_lt_zero, Nat.zero_le, eq_self, not_true_eq_false, not_false_eq_true, decide_true, decide_false, Bool.not_true, Bool.not_false, Bool.true_and, Bool.false_and, Bool.and_true, Bool.and_false, Bool.or_true, Bool.true_or, Bool.false_or, Bool.or_false, Nat.beq_refl, bind_s, as_I, as_J, as_R, as_V, cnd_t, cnd_f, bz_ret, bzp_0, bzp_1, bzp_z0, bzp_z1, dec_bf, dec_bt, dec_nbf, dec_nbt, Bool.false_eq_true, Bool.true_eq_false, ret_0, ret_1, ret_z0, ret_z1, eq_false h4]
theorem m140 {G : AG} (hG : FIX G) {s : Nat → Nat × Nat} {mr : Nat → Nat → Nat} (hM : MS s mr) {n : Nat × Nat} {ml : Nat → Nat → Int64} {mi : Nat → Nat → Int32} {Q : Pg} (hQ : mdQ Q mi) (hW : WP Q) (a c : Int32) : G 140 0 [some (.inr (.inr 114)), some (.inl a), some (.inl c)] [] (s, n, mi, ml, mr) = some (some (.inl (rKind Q a c)), (s, n, mi, ml, mr)) := by
  have h8 := hW.1
  rw [b140_0 hG]
  simp (disch := omega) only [b140_25 hG, gm52 hM, am116 hM, wm116 hM, km hM, ne_eq, Nat.not_lt_zero, Nat.zero_le, eq_self, not_true_eq_false, not_false_eq_true, decide_true, decide_false, Bool.not_true, Bool.not_false, Bool.true_and, Bool.false_and, Bool.and_true, Bool.and_false, Bool.or_true, Bool.true_or, Bool.false_or, Bool.or_false, Nat.beq_refl, bind_s, as_I, as_J, as_R, as_V, cnd_t, cnd_f, bz_ret, bzp_0, bzp_1, bzp_z0, bzp_z1, dec_bf, dec_bt, dec_nbf, dec_nbt, Bool.false_eq_true, Bool.true_eq_false, ret_0, ret_1, ret_z0, ret_z1, m141 hG hM hQ hW]
  unfold rKind opq
  cases h1 : isN a (qc Q)
  · simp only [ne_eq, Nat.not_lt_zero, Nat.zero_le, eq_self, not_true_eq_false, not_false_eq_true, decide_true, decide_false, Bool.not_true, Bool.not_false, Bool.true_and, Bool.false_and, Bool.and_true, Bool.and_false, Bool.or_true, Bool.true_or, Bool.false_or, Bool.or_false, Nat.beq_refl, bind_s, as_I, as_J, as_R, as_V, cnd_t, cnd_f, bz_ret, bzp_0, bzp_1, bzp_z0, bzp_z1, dec_bf, dec_bt, dec_nbf, dec_nbt, Bool.false_eq_true, Bool.true_eq_false, ret_0, ret_1, ret_z0, ret_z1]
  · cases h2 : isN c (qn Q a.toNatClampNeg)
    · simp only [ne_eq, Nat.not_lt_zero, Nat.zero_le, eq_self, not_true_eq_false, not_false_eq_true, decide_true, decide_false, Bool.not_true, Bool.not_false, Bool.true_and, Bool.false_and, Bool.and_true, Bool.and_false, Bool.or_true, Bool.true_or, Bool.false_or, Bool.or_false, Nat.beq_refl, bind_s, as_I, as_J, as_R, as_V, cnd_t, cnd_f, bz_ret, bzp_0, bzp_1, bzp_z0, bzp_z1, dec_bf, dec_bt, dec_nbf, dec_nbt, Bool.false_eq_true, Bool.true_eq_false, ret_0, ret_1, ret_z0, ret_z1]
    · obtain ⟨r, hr, hr2, rfl⟩ := isN_t h1
      rw [zi_cl hr2] at h2
      obtain ⟨p, hp, hp2, rfl⟩ := isN_t h2
      have h24 := hW.2.1 r
      simp (disch := omega) only [b140_25 hG, gm52 hM, am116 hM, wm116 hM, km hM, ne_eq, Nat.not_lt_zero, Nat.zero_le, eq_self, not_true_eq_false, not_false_eq_true, decide_true, decide_false, Bool.not_true, Bool.not_false, Bool.true_and, Bool.false_and, Bool.and_true, Bool.and_false, Bool.or_true, Bool.true_or, Bool.false_or, Bool.or_false, Nat.beq_refl, bind_s, as_I, as_J, as_R, as_V, cnd_t, cnd_f, bz_ret, bzp_0, bzp_1, bzp_z0, bzp_z1, dec_bf, dec_bt, dec_nbf, dec_nbt, Bool.false_eq_true, Bool.true_eq_false, ret_0, ret_1, ret_z0, ret_z1, zi_lit, zi_add, zi_mul, zi_lt, zi_le, zi_eq, zi_sub, zi_cl, (hQ.2.2 r p (by omega) hp).1]
theorem m143 {G : AG} (hG : FIX G) {k : Nat} (hk : k < 100) (H : Hp) : G 143 0 [some (.inl (zi k))] [] H = some (some (.inl (bz (decide (k = 3) || decide (k = 4)))), H) := by
  rw [b143_0 hG]
  by_cases h1 : k = 3
  · subst h1; simp (disch := omega) only [b143_10 hG, b143_15 hG, ne_eq, Nat.not_lt_zero, Nat.zero_le, eq_self, not_true_eq_false, not_false_eq_true, decide_true, decide_false, Bool.not_true, Bool.not_false, Bool.true_and, Bool.false_and, Bool.and_true, Bool.and_false, Bool.or_true, Bool.true_or, Bool.false_or, Bool.or_false, Nat.beq_refl, bind_s, as_I, as_J, as_R, as_V, cnd_t, cnd_f, bz_ret, bzp_0, bzp_1, bzp_z0, bzp_z1, dec_bf, dec_bt, dec_nbf, dec_nbt, Bool.false_eq_true, Bool.true_eq_false, ret_0, ret_1, ret_z0, ret_z1, zi_lit, zi_add, zi_mul, zi_lt, zi_le, zi_eq, zi_sub]
  · by_cases h2 : k = 4
    · subst h2; simp (disch := omega) only [b143_10 hG, b143_15 hG, ne_eq, Nat.not_lt_zero, Nat.zero_le, eq_self, not_true_eq_false, not_false_eq_true, decide_true, decide_false, Bool.not_true, Bool.not_false, Bool.true_and, Bool.false_and, Bool.and_true, Bool.and_false, Bool.or_true, Bool.true_or, Bool.false_or, Bool.or_false, Nat.beq_refl, bind_s, as_I, as_J, as_R, as_V, cnd_t, cnd_f, bz_ret, bzp_0, bzp_1, bzp_z0, bzp_z1, dec_bf, dec_bt, dec_nbf, dec_nbt, Bool.false_eq_true, Bool.true_eq_false, ret_0, ret_1, ret_z0, ret_z1, zi_lit, zi_add, zi_mul, zi_lt, zi_le, zi_eq, zi_sub]; rfl
    · simp (disch := omega) only [b143_10 hG, b143_15 hG, ne_eq, Nat.not_lt_zero, Nat.zero_le, eq_self, not_true_eq_false, not_false_eq_true, decide_true, decide_false, Bool.not_true, Bool.not_false, Bool.true_and, Bool.false_and, Bool.and_true, Bool.and_false, Bool.or_true, Bool.true_or, Bool.false_or, Bool.or_false, Nat.beq_refl, bind_s, as_I, as_J, as_R, as_V, cnd_t, cnd_f, bz_ret, bzp_0, bzp_1, bzp_z0, bzp_z1, dec_bf, dec_bt, dec_nbf, dec_nbt, Bool.false_eq_true, Bool.true_eq_false, ret_0, ret_1, ret_z0, ret_z1, zi_lit, zi_add, zi_mul, zi_lt, zi_le, zi_eq, zi_sub, eq_false h1, eq_false h2]
theorem m144 {G : AG} (hG : FIX G) {s : Nat → Nat × Nat} {mr : Nat → Nat → Nat} (hM : MS s mr) {n : Nat × Nat} {ml : Nat → Nat → Int64} {mi : Nat → Nat → Int32} {Q : Pg} (hQ : mdQ Q mi) (hW : WP Q) (a c w : Int32) : G 144 0 [some (.inr (.inr 114)), some (.inl a), some (.inl c), some (.inl w)] [] (s, n, mi, ml, mr) = some (some (.inl (rTold Q a c w)), (s, n, mi, ml, mr)) := by
  have h8 := hW.1
  rw [b144_0 hG]
  simp (disch := omega) only [b144_21 hG, b144_62 hG, gm52 hM, am116 hM, wm116 hM, gm55 hM, am119 hM, wm119 hM, km hM, ne_eq, Nat.not_lt_zero, Nat.zero_le, eq_self, not_true_eq_false, not_false_eq_true, decide_true, decide_false, Bool.not_true, Bool.not_false, Bool.true_and, Bool.false_and, Bool.and_true, Bool.and_false, Bool.or_true, Bool.true_or, Bool.false_or, Bool.or_false, Nat.beq_refl, bind_s, as_I, as_J, as_R, as_V, cnd_t, cnd_f, bz_ret, bzp_0, bzp_1, bzp_z0, bzp_z1, dec_bf, dec_bt, dec_nbf, dec_nbt, Bool.false_eq_true, Bool.true_eq_false, ret_0, ret_1, ret_z0, ret_z1, m141 hG hM hQ hW, m130 hG, zl_lit, in_zl, isB_0]
  unfold rTold opq
  cases h1 : isN a (qc Q)
  · simp only [ne_eq, Nat.not_lt_zero, Nat.zero_le, eq_self, not_true_eq_false, not_false_eq_true, decide_true, decide_false, Bool.not_true, Bool.not_false, Bool.true_and, Bool.false_and, Bool.and_true, Bool.and_false, Bool.or_true, Bool.true_or, Bool.false_or, Bool.or_false, Nat.beq_refl, bind_s, as_I, as_J, as_R, as_V, cnd_t, cnd_f, bz_ret, bzp_0, bzp_1, bzp_z0, bzp_z1, dec_bf, dec_bt, dec_nbf, dec_nbt, Bool.false_eq_true, Bool.true_eq_false, ret_0, ret_1, ret_z0, ret_z1]
  · cases h2 : isN c (qn Q a.toNatClampNeg)
    · simp only [ne_eq, Nat.not_lt_zero, Nat.zero_le, eq_self, not_true_eq_false, not_false_eq_true, decide_true, decide_false, Bool.not_true, Bool.not_false, Bool.true_and, Bool.false_and, Bool.and_true, Bool.and_false, Bool.or_true, Bool.true_or, Bool.false_or, Bool.or_false, Nat.beq_refl, bind_s, as_I, as_J, as_R, as_V, cnd_t, cnd_f, bz_ret, bzp_0, bzp_1, bzp_z0, bzp_z1, dec_bf, dec_bt, dec_nbf, dec_nbt, Bool.false_eq_true, Bool.true_eq_false, ret_0, ret_1, ret_z0, ret_z1]
    · cases h3 : isN w 6
      · simp only [ne_eq, Nat.not_lt_zero, Nat.zero_le, eq_self, not_true_eq_false, not_false_eq_true, decide_true, decide_false, Bool.not_true, Bool.not_false, Bool.true_and, Bool.false_and, Bool.and_true, Bool.and_false, Bool.or_true, Bool.true_or, Bool.false_or, Bool.or_false, Nat.beq_refl, bind_s, as_I, as_J, as_R, as_V, cnd_t, cnd_f, bz_ret, bzp_0, bzp_1, bzp_z0, bzp_z1, dec_bf, dec_bt, dec_nbf, dec_nbt, Bool.false_eq_true, Bool.true_eq_false, ret_0, ret_1, ret_z0, ret_z1]
      · obtain ⟨r, hr, hr2, rfl⟩ := isN_t h1
        rw [zi_cl hr2] at h2
        obtain ⟨p, hp, hp2, rfl⟩ := isN_t h2
        obtain ⟨q, hq, hq2, rfl⟩ := isN_t h3
        have h24 := hW.2.1 r
        have hk : qk Q r p < 100 := by rcases kle (hW.2.2.2.1 r) hp with h | h | h | h | h | h | h <;> omega
        simp (disch := omega) only [b144_21 hG, b144_62 hG, gm52 hM, am116 hM, wm116 hM, gm55 hM, am119 hM, wm119 hM, km hM, ne_eq, Nat.not_lt_zero, Nat.zero_le, eq_self, not_true_eq_false, not_false_eq_true, decide_true, decide_false, Bool.not_true, Bool.not_false, Bool.true_and, Bool.false_and, Bool.and_true, Bool.and_false, Bool.or_true, Bool.true_or, Bool.false_or, Bool.or_false, Nat.beq_refl, bind_s, as_I, as_J, as_R, as_V, cnd_t, cnd_f, bz_ret, bzp_0, bzp_1, bzp_z0, bzp_z1, dec_bf, dec_bt, dec_nbf, dec_nbt, Bool.false_eq_true, Bool.true_eq_false, ret_0, ret_1, ret_z0, ret_z1, zi_lit, zi_add, zi_mul, zi_lt, zi_le, zi_eq, zi_sub, zi_cl, (hQ.2.2 r p (by omega) hp).1, m143 hG hk]
        cases decide (qk Q r p = 3) || decide (qk Q r p = 4)
        · simp only [ne_eq, Nat.not_lt_zero, Nat.zero_le, eq_self, not_true_eq_false, not_false_eq_true, decide_true, decide_false, Bool.not_true, Bool.not_false, Bool.true_and, Bool.false_and, Bool.and_true, Bool.and_false, Bool.or_true, Bool.true_or, Bool.false_or, Bool.or_false, Nat.beq_refl, bind_s, as_I, as_J, as_R, as_V, cnd_t, cnd_f, bz_ret, bzp_0, bzp_1, bzp_z0, bzp_z1, dec_bf, dec_bt, dec_nbf, dec_nbt, Bool.false_eq_true, Bool.true_eq_false, ret_0, ret_1, ret_z0, ret_z1, b144_21 hG, b144_62 hG]
        · simp (disch := omega) only [b144_21 hG, b144_62 hG, gm52 hM, am116 hM, wm116 hM, gm55 hM, am119 hM, wm119 hM, km hM, ne_eq, Nat.not_lt_zero, Nat.zero_le, eq_self, not_true_eq_false, not_false_eq_true, decide_true, decide_false, Bool.not_true, Bool.not_false, Bool.true_and, Bool.false_and, Bool.and_true, Bool.and_false, Bool.or_true, Bool.true_or, Bool.false_or, Bool.or_false, Nat.beq_refl, bind_s, as_I, as_J, as_R, as_V, cnd_t, cnd_f, bz_ret, bzp_0, bzp_1, bzp_z0, bzp_z1, dec_bf, dec_bt, dec_nbf, dec_nbt, Bool.false_eq_true, Bool.true_eq_false, ret_0, ret_1, ret_z0, ret_z1, (hQ.2.2 r p (by omega) hp).2.2.2 q (by omega)]