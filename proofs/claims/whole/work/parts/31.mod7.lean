/-! the model: mark, ask, trace, is, expression, lot -/
theorem MT_MK {t : Nat × (Nat → Int32)} {mi mi'} (h : MTp t mi) (hk : MK mi mi') : MTp t mi' := ⟨h.1, (hk.2.2.2.2 59 (by decide)).trans h.2.1, fun i hi => by rw [hk.2.2.1 121 (by decide) (by decide)]; exact h.2.2 i hi⟩
theorem valS_le {Q : Pg} (hW : WP Q) {r p : Nat} (hp : p < qn Q r) : valS Q r p ≤ 99 := by
  have h1 := nzc_le (qt Q r p) 6
  have h2 := nzc_le (fun q => qt Q r p (6 + q)) 6
  have h3 := hW.2.2.2.2.1 r p hp
  unfold valS
  split
  · rename_i h; exact (h3 h).2
  · split
    · omega
    · split <;> omega
theorem m149 {G : AG} (hG : FIX G) {s : Nat → Nat × Nat} {mr : Nat → Nat → Nat} (hM : MS s mr) {n : Nat × Nat} {ml : Nat → Nat → Int64} {mi : Nat → Nat → Int32} {Q : Pg} (hQ : mdQ Q mi) (hW : WP Q) {t : Nat × (Nat → Int32)} (hT : MTp t mi) {r p : Nat} (hr : r < 8) (hp : p < qn Q r) :
    ∃ mi', G 149 0 [some (.inr (.inr 114)), some (.inl (zi r)), some (.inl (zi p)), none, none] [] (s, n, mi, ml, mr) = some (some (.inl (zi (valM Q r p))), (s, n, mi', ml, mr)) ∧ MTp (trs t (bodM (qk Q r p))) mi' ∧ MA mi mi' := by
  have h24 := hW.2.1 r
  have hq := hQ.2.2 r p hr hp
  rw [b149_0 hG]
  rcases kle (hW.2.2.2.1 r) hp with h | h | h | h | h | h | h
  case inr.inl =>
    obtain ⟨m1, e1, t1, r1⟩ := m147p hG hM (n := n) (ml := ml) hT 22 []
    obtain ⟨m2, e2, t2, r2⟩ := m147p hG hM (n := n) (ml := ml) t1 21 []
    obtain ⟨m3, e3, t3, r3⟩ := m147p hG hM (n := n) (ml := ml) t2 20 []
    have r13 := MTr_trans r1 (MTr_trans r2 r3)
    have hQ3 := mdQ_MTr hQ r13
    obtain ⟨m4, e4, -, k66, -, kk⟩ := m135 hG hM (n := n) (ml := ml) (r := r) (u := p) hr (by omega) (fun q hq' => hW.2.2.2.1 r q (by omega)) (mi := m3) (fun q hq' => (hQ3.2.2 r q hr (by omega)).1)
    obtain ⟨m5, e5, t5, r5⟩ := m146 hG hM (n := n) (ml := ml) (mdQ_MK hQ3 kk) hW (MT_MK t3 kk) hr hp
    have hv := valS_le hW hp
    have hl := Nat.le_trans (lps_len (stk (qk Q r) p)) (stk_len _ _)
    rw [h] at t5
    refine ⟨m5, ?_, by rw [h]; exact t5, MA_trans (MA_tr r13) (MA_trans (MA_MK kk) (MA_tr r5))⟩
    simp (disch := omega) only [b149_46 hG, b149_64 hG, b149_110 hG, gm52 hM, am116 hM, wm116 hM, gm54 hM, am118 hM, wm118 hM, km hM, gm66 hM, ne_eq, Nat.not_lt_zero, Nat.zero_le, eq_self, not_true_eq_false, not_false_eq_true, decide_true, decide_false, Bool.not_true, Bool.not_false, Bool.true_and, Bool.false_and, Bool.and_true, Bool.and_false, Bool.or_true, Bool.true_or, Bool.false_or, Bool.or_false, Nat.beq_refl, bind_s, as_I, as_J, as_R, as_V, cnd_t, cnd_f, bz_ret, bzp_0, bzp_1, bzp_z0, bzp_z1, dec_bf, dec_bt, dec_nbf, dec_nbt, Bool.false_eq_true, Bool.true_eq_false, ret_0, ret_1, ret_z0, ret_z1, zi_lit, zi_add, zi_mul, zi_lt, zi_le, zi_eq, zi_sub, hq.1, h, e1, e2, e3, e4, e5, r5.2, k66, ne_eq, valM, if_true, if_false, Nat.reduceEqDiff]
  case inr.inr.inl =>
    obtain ⟨m1, e1, t1, r1⟩ := m147p hG hM (n := n) (ml := ml) hT 23 []
    refine ⟨m1, ?_, by rw [h]; exact t1, MA_tr r1⟩
    have hd := hq.2.2.1 h
    simp (disch := omega) only [b149_46 hG, b149_64 hG, b149_110 hG, gm52 hM, am116 hM, wm116 hM, gm54 hM, am118 hM, wm118 hM, km hM, gm66 hM, ne_eq, Nat.not_lt_zero, Nat.zero_le, eq_self, not_true_eq_false, not_false_eq_true, decide_true, decide_false, Bool.not_true, Bool.not_false, Bool.true_and, Bool.false_and, Bool.and_true, Bool.and_false, Bool.or_true, Bool.true_or, Bool.false_or, Bool.or_false, Nat.beq_refl, bind_s, as_I, as_J, as_R, as_V, cnd_t, cnd_f, bz_ret, bzp_0, bzp_1, bzp_z0, bzp_z1, dec_bf, dec_bt, dec_nbf, dec_nbt, Bool.false_eq_true, Bool.true_eq_false, ret_0, ret_1, ret_z0, ret_z1, zi_lit, zi_add, zi_mul, zi_lt, zi_le, zi_eq, zi_sub, hq.1, h, e1, r1.1, hd, valM, if_true, if_false, Nat.reduceEqDiff]
  case inr.inr.inr.inl =>
    obtain ⟨m1, e1, t1, r1⟩ := m147p hG hM (n := n) (ml := ml) hT 24 []
    obtain ⟨m2, e2, t2, r2⟩ := m147p hG hM (n := n) (ml := ml) t1 20 []
    refine ⟨m2, ?_, by rw [h]; exact t2, MA_tr (MTr_trans r1 r2)⟩
    simp (disch := omega) only [b149_46 hG, b149_64 hG, b149_110 hG, gm52 hM, am116 hM, wm116 hM, gm54 hM, am118 hM, wm118 hM, km hM, gm66 hM, ne_eq, Nat.not_lt_zero, Nat.zero_le, eq_self, not_true_eq_false, not_false_eq_true, decide_true, decide_false, Bool.not_true, Bool.not_false, Bool.true_and, Bool.false_and, Bool.and_true, Bool.and_false, Bool.or_true, Bool.true_or, Bool.false_or, Bool.or_false, Nat.beq_refl, bind_s, as_I, as_J, as_R, as_V, cnd_t, cnd_f, bz_ret, bzp_0, bzp_1, bzp_z0, bzp_z1, dec_bf, dec_bt, dec_nbf, dec_nbt, Bool.false_eq_true, Bool.true_eq_false, ret_0, ret_1, ret_z0, ret_z1, zi_lit, zi_add, zi_mul, zi_lt, zi_le, zi_eq, zi_sub, hq.1, h, e1, e2, valM, if_true, if_false, Nat.reduceEqDiff]
  all_goals
    obtain ⟨m1, e1, t1, r1⟩ := m147p hG hM (n := n) (ml := ml) hT 20 []
    refine ⟨m1, ?_, by rw [h]; exact t1, MA_tr r1⟩
    simp (disch := omega) only [b149_46 hG, b149_64 hG, b149_110 hG, gm52 hM, am116 hM, wm116 hM, gm54 hM, am118 hM, wm118 hM, km hM, gm66 hM, ne_eq, Nat.not_lt_zero, Nat.zero_le, eq_self, not_true_eq_false, not_false_eq_true, decide_true, decide_false, Bool.not_true, Bool.not_false, Bool.true_and, Bool.false_and, Bool.and_true, Bool.and_false, Bool.or_true, Bool.true_or, Bool.false_or, Bool.or_false, Nat.beq_refl, bind_s, as_I, as_J, as_R, as_V, cnd_t, cnd_f, bz_ret, bzp_0, bzp_1, bzp_z0, bzp_z1, dec_bf, dec_bt, dec_nbf, dec_nbt, Bool.false_eq_true, Bool.true_eq_false, ret_0, ret_1, ret_z0, ret_z1, zi_lit, zi_add, zi_mul, zi_lt, zi_le, zi_eq, zi_sub, hq.1, h, e1, valM, if_true, if_false, Nat.reduceEqDiff]
theorem m145 {G : AG} (hG : FIX G) {s : Nat → Nat × Nat} {mr : Nat → Nat → Nat} (hM : MS s mr) {n : Nat × Nat} {ml : Nat → Nat → Int64} {mi : Nat → Nat → Int32} {Q : Pg} (hQ : mdQ Q mi) (hW : WP Q) {t : Nat × (Nat → Int32)} (hT : MTp t mi) (a c w : Int32) :
    ∃ mi', G 145 0 [some (.inr (.inr 114)), some (.inl a), some (.inl c), some (.inl w)] [] (s, n, mi, ml, mr) = some (some (.inl (rAsk Q a c w)), (s, n, mi', ml, mr)) ∧ MTp (tAsk Q a c w t) mi' ∧ MA mi mi' := by
  have h8 := hW.1
  rw [b145_0 hG]
  simp (disch := omega) only [b145_19 hG, b145_50 hG, pm59 hM, km hM, ne_eq, Nat.not_lt_zero, Nat.zero_le, eq_self, not_true_eq_false, not_false_eq_true, decide_true, decide_false, Bool.not_true, Bool.not_false, Bool.true_and, Bool.false_and, Bool.and_true, Bool.and_false, Bool.or_true, Bool.true_or, Bool.false_or, Bool.or_false, Nat.beq_refl, bind_s, as_I, as_J, as_R, as_V, cnd_t, cnd_f, bz_ret, bzp_0, bzp_1, bzp_z0, bzp_z1, dec_bf, dec_bt, dec_nbf, dec_nbt, Bool.false_eq_true, Bool.true_eq_false, ret_0, ret_1, ret_z0, ret_z1, m141 hG hM hQ hW, m130 hG, zl_lit, in_zl, isB_0]
  unfold rAsk tAsk opq
  cases h1 : isN a (qc Q)
  · simp only [ne_eq, Nat.not_lt_zero, Nat.zero_le, eq_self, not_true_eq_false, not_false_eq_true, decide_true, decide_false, Bool.not_true, Bool.not_false, Bool.true_and, Bool.false_and, Bool.and_true, Bool.and_false, Bool.or_true, Bool.true_or, Bool.false_or, Bool.or_false, Nat.beq_refl, bind_s, as_I, as_J, as_R, as_V, cnd_t, cnd_f, bz_ret, bzp_0, bzp_1, bzp_z0, bzp_z1, dec_bf, dec_bt, dec_nbf, dec_nbt, Bool.false_eq_true, Bool.true_eq_false, ret_0, ret_1, ret_z0, ret_z1]; exact ⟨mi, rfl, hT, MA_refl _⟩
  · cases h2 : isN c (qn Q a.toNatClampNeg)
    · simp only [ne_eq, Nat.not_lt_zero, Nat.zero_le, eq_self, not_true_eq_false, not_false_eq_true, decide_true, decide_false, Bool.not_true, Bool.not_false, Bool.true_and, Bool.false_and, Bool.and_true, Bool.and_false, Bool.or_true, Bool.true_or, Bool.false_or, Bool.or_false, Nat.beq_refl, bind_s, as_I, as_J, as_R, as_V, cnd_t, cnd_f, bz_ret, bzp_0, bzp_1, bzp_z0, bzp_z1, dec_bf, dec_bt, dec_nbf, dec_nbt, Bool.false_eq_true, Bool.true_eq_false, ret_0, ret_1, ret_z0, ret_z1]; exact ⟨mi, rfl, hT, MA_refl _⟩
    · cases h3 : isN w 2
      · simp only [ne_eq, Nat.not_lt_zero, Nat.zero_le, eq_self, not_true_eq_false, not_false_eq_true, decide_true, decide_false, Bool.not_true, Bool.not_false, Bool.true_and, Bool.false_and, Bool.and_true, Bool.and_false, Bool.or_true, Bool.true_or, Bool.false_or, Bool.or_false, Nat.beq_refl, bind_s, as_I, as_J, as_R, as_V, cnd_t, cnd_f, bz_ret, bzp_0, bzp_1, bzp_z0, bzp_z1, dec_bf, dec_bt, dec_nbf, dec_nbt, Bool.false_eq_true, Bool.true_eq_false, ret_0, ret_1, ret_z0, ret_z1]; exact ⟨mi, rfl, hT, MA_refl _⟩
      · obtain ⟨r, hr, hr2, rfl⟩ := isN_t h1
        rw [zi_cl hr2] at h2
        obtain ⟨p, hp, hp2, rfl⟩ := isN_t h2
        obtain ⟨q, hq, hq2, rfl⟩ := isN_t h3
        have h24 := hW.2.1 r
        have hM0 : MTr mi (up2 mi 114 59 (zi 0)) := ⟨fun a h1 h2 => up2_n _ _ h1, fun f hf => by rw [up2_s, up1_n _ _ hf]⟩
        have hT0 : MTp (0, t.2) (up2 mi 114 59 (zi 0)) := ⟨Nat.zero_le _, by rw [up2_s, up1_s], fun i hi => by cases hi⟩
        have h01 : q = 0 ∨ q = 1 := by omega
        rcases h01 with rfl | rfl
        · obtain ⟨m1, e1, t1, r1⟩ := m146 hG hM (n := n) (ml := ml) (mdQ_MTr hQ hM0) hW hT0 (r := r) (by omega) hp
          refine ⟨m1, ?_, ?_, MA_tr (MTr_trans hM0 r1)⟩
          · simp (disch := omega) only [b145_19 hG, b145_50 hG, pm59 hM, km hM, ne_eq, Nat.not_lt_zero, Nat.zero_le, eq_self, not_true_eq_false, not_false_eq_true, decide_true, decide_false, Bool.not_true, Bool.not_false, Bool.true_and, Bool.false_and, Bool.and_true, Bool.and_false, Bool.or_true, Bool.true_or, Bool.false_or, Bool.or_false, Nat.beq_refl, bind_s, as_I, as_J, as_R, as_V, cnd_t, cnd_f, bz_ret, bzp_0, bzp_1, bzp_z0, bzp_z1, dec_bf, dec_bt, dec_nbf, dec_nbt, Bool.false_eq_true, Bool.true_eq_false, ret_0, ret_1, ret_z0, ret_z1, zi_lit, zi_add, zi_mul, zi_lt, zi_le, zi_eq, zi_sub, zi_cl, e1]
          · simp (disch := omega) only [ne_eq, Nat.not_lt_zero, Nat.zero_le, eq_self, not_true_eq_false, not_false_eq_true, decide_true, decide_false, Bool.not_true, Bool.not_false, Bool.true_and, Bool.false_and, Bool.and_true, Bool.and_false, Bool.or_true, Bool.true_or, Bool.false_or, Bool.or_false, Nat.beq_refl, bind_s, as_I, as_J, as_R, as_V, cnd_t, cnd_f, bz_ret, bzp_0, bzp_1, bzp_z0, bzp_z1, dec_bf, dec_bt, dec_nbf, dec_nbt, Bool.false_eq_true, Bool.true_eq_false, ret_0, ret_1, ret_z0, ret_z1, zi_lit, zi_add, zi_mul, zi_lt, zi_le, zi_eq, zi_sub, zi_cl]; exact t1
        · obtain ⟨m1, e1, t1, r1⟩ := m149 hG hM (n := n) (ml := ml) (mdQ_MTr hQ hM0) hW hT0 (r := r) (by omega) hp
          refine ⟨m1, ?_, ?_, MA_trans (MA_tr hM0) r1⟩
          · simp (disch := omega) only [b145_19 hG, b145_50 hG, pm59 hM, km hM, ne_eq, Nat.not_lt_zero, Nat.zero_le, eq_self, not_true_eq_false, not_false_eq_true, decide_true, decide_false, Bool.not_true, Bool.not_false, Bool.true_and, Bool.false_and, Bool.and_true, Bool.and_false, Bool.or_true, Bool.true_or, Bool.false_or, Bool.or_false, Nat.beq_refl, bind_s, as_I, as_J, as_R, as_V, cnd_t, cnd_f, bz_ret, bzp_0, bzp_1, bzp_z0, bzp_z1, dec_bf, dec_bt, dec_nbf, dec_nbt, Bool.false_eq_true, Bool.true_eq_false, ret_0, ret_1, ret_z0, ret_z1, zi_lit, zi_add, zi_mul, zi_lt, zi_le, zi_eq, zi_sub, zi_cl, e1, Nat.reduceEqDiff]
          · simp (disch := omega) only [ne_eq, Nat.not_lt_zero, Nat.zero_le, eq_self, not_true_eq_false, not_false_eq_true, decide_true, decide_false, Bool.not_true, Bool.not_false, Bool.true_and, Bool.false_and, Bool.and_true, Bool.and_false, Bool.or_true, Bool.true_or, Bool.false_or, Bool.or_false, Nat.beq_refl, bind_s, as_I, as_J, as_R, as_V, cnd_t, cnd_f, bz_ret, bzp_0, bzp_1, bzp_z0, bzp_z1, dec_bf, dec_bt, dec_nbf, dec_nbt, Bool.false_eq_true, Bool.true_eq_false, ret_0, ret_1, ret_z0, ret_z1, zi_lit, zi_add, zi_mul, zi_lt, zi_le, zi_eq, zi_sub, zi_cl, Nat.reduceEqDiff]; exact t1
theorem m150 {G : AG} (hG : FIX G) {s : Nat → Nat × Nat} {mr : Nat → Nat → Nat} (hM : MS s mr) {n : Nat × Nat} {ml : Nat → Nat → Int64} {mi : Nat → Nat → Int32} {t : Nat × (Nat → Int32)} (hT : MTp t mi) (a : Int32) : G 150 0 [some (.inr (.inr 114)), some (.inl a)] [] (s, n, mi, ml, mr) = some (some (.inl (rTrace t a)), (s, n, mi, ml, mr)) := by
  obtain ⟨h16, h59, hi⟩ := hT
  rw [b150_0 hG]
  simp (disch := omega) only [b150_27 hG, gm59 hM, gm58 hM, am121 hM, wm121 hM, ne_eq, Nat.not_lt_zero, Nat.zero_le, eq_self, not_true_eq_false, not_false_eq_true, decide_true, decide_false, Bool.not_true, Bool.not_false, Bool.true_and, Bool.false_and, Bool.and_true, Bool.and_false, Bool.or_true, Bool.true_or, Bool.false_or, Bool.or_false, Nat.beq_refl, bind_s, as_I, as_J, as_R, as_V, cnd_t, cnd_f, bz_ret, bzp_0, bzp_1, bzp_z0, bzp_z1, dec_bf, dec_bt, dec_nbf, dec_nbt, Bool.false_eq_true, Bool.true_eq_false, ret_0, ret_1, ret_z0, ret_z1, zi_lit, zl_lit, m130 hG, h59, in_pred]
  unfold rTrace
  cases h : isN a t.1
  · simp only [ne_eq, Nat.not_lt_zero, Nat.zero_le, eq_self, not_true_eq_false, not_false_eq_true, decide_true, decide_false, Bool.not_true, Bool.not_false, Bool.true_and, Bool.false_and, Bool.and_true, Bool.and_false, Bool.or_true, Bool.true_or, Bool.false_or, Bool.or_false, Nat.beq_refl, bind_s, as_I, as_J, as_R, as_V, cnd_t, cnd_f, bz_ret, bzp_0, bzp_1, bzp_z0, bzp_z1, dec_bf, dec_bt, dec_nbf, dec_nbt, Bool.false_eq_true, Bool.true_eq_false, ret_0, ret_1, ret_z0, ret_z1, b150_27 hG]; rfl
  · obtain ⟨i, hi1, hi2, rfl⟩ := isN_t h
    simp (disch := omega) only [b150_27 hG, gm59 hM, gm58 hM, am121 hM, wm121 hM, ne_eq, Nat.not_lt_zero, Nat.zero_le, eq_self, not_true_eq_false, not_false_eq_true, decide_true, decide_false, Bool.not_true, Bool.not_false, Bool.true_and, Bool.false_and, Bool.and_true, Bool.and_false, Bool.or_true, Bool.true_or, Bool.false_or, Bool.or_false, Nat.beq_refl, bind_s, as_I, as_J, as_R, as_V, cnd_t, cnd_f, bz_ret, bzp_0, bzp_1, bzp_z0, bzp_z1, dec_bf, dec_bt, dec_nbf, dec_nbt, Bool.false_eq_true, Bool.true_eq_false, ret_0, ret_1, ret_z0, ret_z1, zi_cl, hi i hi1]
theorem m142 {G : AG} (hG : FIX G) {s : Nat → Nat × Nat} {mr : Nat → Nat → Nat} (hM : MS s mr) {n : Nat × Nat} {ml : Nat → Nat → Int64} {mi : Nat → Nat → Int32} {Q : Pg} (hQ : mdQ Q mi) (hW : WP Q) (a c w : Int32) : G 142 0 [some (.inr (.inr 114)), some (.inl a), some (.inl c), some (.inl w), none] [] (s, n, mi, ml, mr) = some (some (.inl (rIs Q a c w)), (s, n, mi, ml, mr)) := by
  have h8 := hW.1
  rw [b142_0 hG]
  simp (disch := omega) only [b142_21 hG, b142_60 hG, b142_64 hG, b142_65 hG, gm52 hM, am116 hM, wm116 hM, km hM, ne_eq, Nat.not_lt_zero, Nat.zero_le, eq_self, not_true_eq_false, not_false_eq_true, decide_true, decide_false, Bool.not_true, Bool.not_false, Bool.true_and, Bool.false_and, Bool.and_true, Bool.and_false, Bool.or_true, Bool.true_or, Bool.false_or, Bool.or_false, Nat.beq_refl, bind_s, as_I, as_J, as_R, as_V, cnd_t, cnd_f, bz_ret, bzp_0, bzp_1, bzp_z0, bzp_z1, dec_bf, dec_bt, dec_nbf, dec_nbt, Bool.false_eq_true, Bool.true_eq_false, ret_0, ret_1, ret_z0, ret_z1, m141 hG hM hQ hW, m130 hG, zl_lit, in_zl, isB_0]
  unfold rIs opq
  cases h1 : isN a (qc Q)
  · simp only [ne_eq, Nat.not_lt_zero, Nat.zero_le, eq_self, not_true_eq_false, not_false_eq_true, decide_true, decide_false, Bool.not_true, Bool.not_false, Bool.true_and, Bool.false_and, Bool.and_true, Bool.and_false, Bool.or_true, Bool.true_or, Bool.false_or, Bool.or_false, Nat.beq_refl, bind_s, as_I, as_J, as_R, as_V, cnd_t, cnd_f, bz_ret, bzp_0, bzp_1, bzp_z0, bzp_z1, dec_bf, dec_bt, dec_nbf, dec_nbt, Bool.false_eq_true, Bool.true_eq_false, ret_0, ret_1, ret_z0, ret_z1]
  · cases h2 : isN c (qn Q a.toNatClampNeg)
    · simp only [ne_eq, Nat.not_lt_zero, Nat.zero_le, eq_self, not_true_eq_false, not_false_eq_true, decide_true, decide_false, Bool.not_true, Bool.not_false, Bool.true_and, Bool.false_and, Bool.and_true, Bool.and_false, Bool.or_true, Bool.true_or, Bool.false_or, Bool.or_false, Nat.beq_refl, bind_s, as_I, as_J, as_R, as_V, cnd_t, cnd_f, bz_ret, bzp_0, bzp_1, bzp_z0, bzp_z1, dec_bf, dec_bt, dec_nbf, dec_nbt, Bool.false_eq_true, Bool.true_eq_false, ret_0, ret_1, ret_z0, ret_z1]
    · cases h3 : isN w 9
      · simp only [ne_eq, Nat.not_lt_zero, Nat.zero_le, eq_self, not_true_eq_false, not_false_eq_true, decide_true, decide_false, Bool.not_true, Bool.not_false, Bool.true_and, Bool.false_and, Bool.and_true, Bool.and_false, Bool.or_true, Bool.true_or, Bool.false_or, Bool.or_false, Nat.beq_refl, bind_s, as_I, as_J, as_R, as_V, cnd_t, cnd_f, bz_ret, bzp_0, bzp_1, bzp_z0, bzp_z1, dec_bf, dec_bt, dec_nbf, dec_nbt, Bool.false_eq_true, Bool.true_eq_false, ret_0, ret_1, ret_z0, ret_z1]
      · obtain ⟨r, hr, hr2, rfl⟩ := isN_t h1
        rw [zi_cl hr2] at h2
        obtain ⟨p, hp, hp2, rfl⟩ := isN_t h2
        have h24 := hW.2.1 r
        have hk : qk Q r p < 100 := by rcases kle (hW.2.2.2.1 r) hp with h | h | h | h | h | h | h <;> omega
        simp (disch := omega) only [b142_21 hG, b142_60 hG, b142_64 hG, b142_65 hG, gm52 hM, am116 hM, wm116 hM, km hM, ne_eq, Nat.not_lt_zero, Nat.zero_le, eq_self, not_true_eq_false, not_false_eq_true, decide_true, decide_false, Bool.not_true, Bool.not_false, Bool.true_and, Bool.false_and, Bool.and_true, Bool.and_false, Bool.or_true, Bool.true_or, Bool.false_or, Bool.or_false, Nat.beq_refl, bind_s, as_I, as_J, as_R, as_V, cnd_t, cnd_f, bz_ret, bzp_0, bzp_1, bzp_z0, bzp_z1, dec_bf, dec_bt, dec_nbf, dec_nbt, Bool.false_eq_true, Bool.true_eq_false, ret_0, ret_1, ret_z0, ret_z1, zi_lit, zi_add, zi_mul, zi_cl, (hQ.2.2 r p (by omega) hp).1, m143 hG hk]
        by_cases e1 : zi (qk Q r p) = w
        · simp only [ne_eq, Nat.not_lt_zero, Nat.zero_le, eq_self, not_true_eq_false, not_false_eq_true, decide_true, decide_false, Bool.not_true, Bool.not_false, Bool.true_and, Bool.false_and, Bool.and_true, Bool.and_false, Bool.or_true, Bool.true_or, Bool.false_or, Bool.or_false, Nat.beq_refl, bind_s, as_I, as_J, as_R, as_V, cnd_t, cnd_f, bz_ret, bzp_0, bzp_1, bzp_z0, bzp_z1, dec_bf, dec_bt, dec_nbf, dec_nbt, Bool.false_eq_true, Bool.true_eq_false, ret_0, ret_1, ret_z0, ret_z1, eq_true e1]
        · by_cases e2 : w = zi 0
          · simp only [ne_eq, Nat.not_lt_zero, Nat.zero_le, eq_self, not_true_eq_false, not_false_eq_true, decide_true, decide_false, Bool.not_true, Bool.not_false, Bool.true_and, Bool.false_and, Bool.and_true, Bool.and_false, Bool.or_true, Bool.true_or, Bool.false_or, Bool.or_false, Nat.beq_refl, bind_s, as_I, as_J, as_R, as_V, cnd_t, cnd_f, bz_ret, bzp_0, bzp_1, bzp_z0, bzp_z1, dec_bf, dec_bt, dec_nbf, dec_nbt, Bool.false_eq_true, Bool.true_eq_false, ret_0, ret_1, ret_z0, ret_z1, eq_false e1, eq_true e2]
          · by_cases e5 : w = zi 2
            · simp only [ne_eq, Nat.not_lt_zero, Nat.zero_le, eq_self, not_true_eq_false, not_false_eq_true, decide_true, decide_false, Bool.not_true, Bool.not_false, Bool.true_and, Bool.false_and, Bool.and_true, Bool.and_false, Bool.or_true, Bool.true_or, Bool.false_or, Bool.or_false, Nat.beq_refl, bind_s, as_I, as_J, as_R, as_V, cnd_t, cnd_f, bz_ret, bzp_0, bzp_1, bzp_z0, bzp_z1, dec_bf, dec_bt, dec_nbf, dec_nbt, Bool.false_eq_true, Bool.true_eq_false, ret_0, ret_1, ret_z0, ret_z1, eq_false e1, eq_false e2, eq_true e5]
              cases decide (qk Q r p = 3) || decide (qk Q r p = 4) <;> rfl
            · simp only [ne_eq, Nat.not_lt_zero, Nat.zero_le, eq_self, not_true_eq_false, not_false_eq_true, decide_true, decide_false, Bool.not_true, Bool.not_false, Bool.true_and, Bool.false_and, Bool.and_true, Bool.and_false, Bool.or_true, Bool.true_or, Bool.false_or, Bool.or_false, Nat.beq_refl, bind_s, as_I, as_J, as_R, as_V, cnd_t, cnd_f, bz_ret, bzp_0, bzp_1, bzp_z0, bzp_z1, dec_bf, dec_bt, dec_nbf, dec_nbt, Bool.false_eq_true, Bool.true_eq_false, ret_0, ret_1, ret_z0, ret_z1, eq_false e1, eq_false e2, eq_false e5]
theorem m178 {G : AG} (hG : FIX G) {s : Nat → Nat × Nat} {mr : Nat → Nat → Nat} (hM : MS s mr) {n : Nat × Nat} {ml : Nat → Nat → Int64} {mi : Nat → Nat → Int32} (v : Int32) : G 178 0 [some (.inr (.inr 114)), some (.inl v)] [] (s, n, mi, ml, mr) = some (some (.inl 1), (s, n, up2 mi 114 57 v, ml, mr)) := by
  rw [b178_0 hG]
  simp only [pm57 hM, ne_eq, Nat.not_lt_zero, Nat.zero_le, eq_self, not_true_eq_false, not_false_eq_true, decide_true, decide_false, Bool.not_true, Bool.not_false, Bool.true_and, Bool.false_and, Bool.and_true, Bool.and_false, Bool.or_true, Bool.true_or, Bool.false_or, Bool.or_false, Nat.beq_refl, bind_s, as_I, as_J, as_R, as_V, cnd_t, cnd_f, bz_ret, bzp_0, bzp_1, bzp_z0, bzp_z1, dec_bf, dec_bt, dec_nbf, dec_nbt, Bool.false_eq_true, Bool.true_eq_false, ret_0, ret_1, ret_z0, ret_z1]
/-- an expression is told -/
def okX (w c a0 a1 a2 a3 a4 : Int32) : Bool := isN w 2 && (isN c 3 && (isN a0 3 && (isN a1 3 && (isN a2 3 && (isN a3 3 && isN a4 3)))))
def nwX (x : Nat → Nat) (w : Nat) (c a0 a1 a2 a3 a4 : Nat) : Nat → Nat := up1 (up1 (up1 (up1 (up1 (up1 x (6 * w) c) (6 * w + 1) a0) (6 * w + 2) a1) (6 * w + 3) a2) (6 * w + 4) a3) (6 * w + 5) a4
def opX (x : Nat → Nat) (w c a0 a1 a2 a3 a4 : Int32) : Int32 × (Nat → Nat) := bif okX w c a0 a1 a2 a3 a4 then (1, nwX x w.toNatClampNeg c.toNatClampNeg a0.toNatClampNeg a1.toNatClampNeg a2.toNatClampNeg a3.toNatClampNeg a4.toNatClampNeg) else (-1000001, x)
theorem m129 {G : AG} (hG : FIX G) {s : Nat → Nat × Nat} {mr : Nat → Nat → Nat} (hM : MS s mr) {n : Nat × Nat} {ml : Nat → Nat → Int64} {mi : Nat → Nat → Int32} {x : Nat → Nat} (hx : MX x mi) (w c a0 a1 a2 a3 a4 : Int32) : ∃ mi', G 129 0 [some (.inr (.inr 114)), some (.inl w), some (.inl c), some (.inl a0), some (.inl a1), some (.inl a2), some (.inl a3), some (.inl a4)] [] (s, n, mi, ml, mr) = some (some (.inl (opX x w c a0 a1 a2 a3 a4).1), (s, n, mi', ml, mr)) ∧ MX (opX x w c a0 a1 a2 a3 a4).2 mi' ∧ (∀ a, a ≠ 120 → mi' a = mi a) := by
  rw [b129_0 hG]
  simp (disch := omega) only [b129_86 hG, gm56 hM, am120 hM, wm120 hM, ne_eq, Nat.not_lt_zero, Nat.zero_le, eq_self, not_true_eq_false, not_false_eq_true, decide_true, decide_false, Bool.not_true, Bool.not_false, Bool.true_and, Bool.false_and, Bool.and_true, Bool.and_false, Bool.or_true, Bool.true_or, Bool.false_or, Bool.or_false, Nat.beq_refl, bind_s, as_I, as_J, as_R, as_V, cnd_t, cnd_f, bz_ret, bzp_0, bzp_1, bzp_z0, bzp_z1, dec_bf, dec_bt, dec_nbf, dec_nbt, Bool.false_eq_true, Bool.true_eq_false, ret_0, ret_1, ret_z0, ret_z1, m130 hG, zl_lit, in_zl, isB_0]
  unfold opX okX
  cases h0 : isN w 2
  · simp only [ne_eq, Nat.not_lt_zero, Nat.zero_le, eq_self, not_true_eq_false, not_false_eq_true, decide_true, decide_false, Bool.not_true, Bool.not_false, Bool.true_and, Bool.false_and, Bool.and_true, Bool.and_false, Bool.or_true, Bool.true_or, Bool.false_or, Bool.or_false, Nat.beq_refl, bind_s, as_I, as_J, as_R, as_V, cnd_t, cnd_f, bz_ret, bzp_0, bzp_1, bzp_z0, bzp_z1, dec_bf, dec_bt, dec_nbf, dec_nbt, Bool.false_eq_true, Bool.true_eq_false, ret_0, ret_1, ret_z0, ret_z1]; exact ⟨mi, rfl, hx, fun _ _ => rfl⟩
  cases h1 : isN c 3
  · simp only [ne_eq, Nat.not_lt_zero, Nat.zero_le, eq_self, not_true_eq_false, not_false_eq_true, decide_true, decide_false, Bool.not_true, Bool.not_false, Bool.true_and, Bool.false_and, Bool.and_true, Bool.and_false, Bool.or_true, Bool.true_or, Bool.false_or, Bool.or_false, Nat.beq_refl, bind_s, as_I, as_J, as_R, as_V, cnd_t, cnd_f, bz_ret, bzp_0, bzp_1, bzp_z0, bzp_z1, dec_bf, dec_bt, dec_nbf, dec_nbt, Bool.false_eq_true, Bool.true_eq_false, ret_0, ret_1, ret_z0, ret_z1]; exact ⟨mi, rfl, hx, fun _ _ => rfl⟩
  cases h2 : isN a0 3
  · simp only [ne_eq, Nat.not_lt_zero, Nat.zero_le, eq_self, not_true_eq_false, not_false_eq_true, decide_true, decide_false, Bool.not_true, Bool.not_false, Bool.true_and, Bool.false_and, Bool.and_true, Bool.and_false, Bool.or_true, Bool.true_or, Bool.false_or, Bool.or_false, Nat.beq_refl, bind_s, as_I, as_J, as_R, as_V, cnd_t, cnd_f, bz_ret, bzp_0, bzp_1, bzp_z0, bzp_z1, dec_bf, dec_bt, dec_nbf, dec_nbt, Bool.false_eq_true, Bool.true_eq_false, ret_0, ret_1, ret_z0, ret_z1]; exact ⟨mi, rfl, hx, fun _ _ => rfl⟩
  cases h3 : isN a1 3
  · simp only [ne_eq, Nat.not_lt_zero, Nat.zero_le, eq_self, not_true_eq_false, not_false_eq_true, decide_true, decide_false, Bool.not_true, Bool.not_false, Bool.true_and, Bool.false_and, Bool.and_true, Bool.and_false, Bool.or_true, Bool.true_or, Bool.false_or, Bool.or_false, Nat.beq_refl, bind_s, as_I, as_J, as_R, as_V, cnd_t, cnd_f, bz_ret, bzp_0, bzp_1, bzp_z0, bzp_z1, dec_bf, dec_bt, dec_nbf, dec_nbt, Bool.false_eq_true, Bool.true_eq_false, ret_0, ret_1, ret_z0, ret_z1]; exact ⟨mi, rfl, hx, fun _ _ => rfl⟩
  cases h4 : isN a2 3
  · simp only [ne_eq, Nat.not_lt_zero, Nat.zero_le, eq_self, not_true_eq_false, not_false_eq_true, decide_true, decide_false, Bool.not_true, Bool.not_false, Bool.true_and, Bool.false_and, Bool.and_true, Bool.and_false, Bool.or_true, Bool.true_or, Bool.false_or, Bool.or_false, Nat.beq_refl, bind_s, as_I, as_J, as_R, as_V, cnd_t, cnd_f, bz_ret, bzp_0, bzp_1, bzp_z0, bzp_z1, dec_bf, dec_bt, dec_nbf, dec_nbt, Bool.false_eq_true, Bool.true_eq_false, ret_0, ret_1, ret_z0, ret_z1]; exact ⟨mi, rfl, hx, fun _ _ => rfl⟩
  cases h5 : isN a3 3
  · simp only [ne_eq, Nat.not_lt_zero, Nat.zero_le, eq_self, not_true_eq_false, not_false_eq_true, decide_true, decide_false, Bool.not_true, Bool.not_false, Bool.true_and, Bool.false_and, Bool.and_true, Bool.and_false, Bool.or_true, Bool.true_or, Bool.false_or, Bool.or_false, Nat.beq_refl, bind_s, as_I, as_J, as_R, as_V, cnd_t, cnd_f, bz_ret, bzp_0, bzp_1, bzp_z0, bzp_z1, dec_bf, dec_bt, dec_nbf, dec_nbt, Bool.false_eq_true, Bool.true_eq_false, ret_0, ret_1, ret_z0, ret_z1]; exact ⟨mi, rfl, hx, fun _ _ => rfl⟩
  cases h6 : isN a4 3
  · simp only [ne_eq, Nat.not_lt_zero, Nat.zero_le, eq_self, not_true_eq_false, not_false_eq_true, decide_true, decide_false, Bool.not_true, Bool.not_false, Bool.true_and, Bool.false_and, Bool.and_true, Bool.and_false, Bool.or_true, Bool.true_or, Bool.false_or, Bool.or_false, Nat.beq_refl, bind_s, as_I, as_J, as_R, as_V, cnd_t, cnd_f, bz_ret, bzp_0, bzp_1, bzp_z0, bzp_z1, dec_bf, dec_bt, dec_nbf, dec_nbt, Bool.false_eq_true, Bool.true_eq_false, ret_0, ret_1, ret_z0, ret_z1]; exact ⟨mi, rfl, hx, fun _ _ => rfl⟩
  obtain ⟨w, hw, hw2, rfl⟩ := isN_t h0
  obtain ⟨c, hc, hc2, rfl⟩ := isN_t h1
  obtain ⟨a0, ha0, ha02, rfl⟩ := isN_t h2
  obtain ⟨a1, ha1, ha12, rfl⟩ := isN_t h3
  obtain ⟨a2, ha2, ha22, rfl⟩ := isN_t h4
  obtain ⟨a3, ha3, ha32, rfl⟩ := isN_t h5
  obtain ⟨a4, ha4, ha42, rfl⟩ := isN_t h6
  refine ⟨up2 (up2 (up2 (up2 (up2 (up2 mi 120 (6 * w) (zi c)) 120 (6 * w + 1) (zi a0)) 120 (6 * w + 2) (zi a1)) 120 (6 * w + 3) (zi a2)) 120 (6 * w + 4) (zi a3)) 120 (6 * w + 5) (zi a4), ?_, ?_, fun a h => ?_⟩
  · simp (disch := omega) only [b129_86 hG, gm56 hM, am120 hM, wm120 hM, ne_eq, Nat.not_lt_zero, Nat.zero_le, eq_self, not_true_eq_false, not_false_eq_true, decide_true, decide_false, Bool.not_true, Bool.not_false, Bool.true_and, Bool.false_and, Bool.and_true, Bool.and_false, Bool.or_true, Bool.true_or, Bool.false_or, Bool.or_false, Nat.beq_refl, bind_s, as_I, as_J, as_R, as_V, cnd_t, cnd_f, bz_ret, bzp_0, bzp_1, bzp_z0, bzp_z1, dec_bf, dec_bt, dec_nbf, dec_nbt, Bool.false_eq_true, Bool.true_eq_false, ret_0, ret_1, ret_z0, ret_z1, zi_lit, zi_add, zi_mul, zi_cl]
  · simp (disch := omega) only [ne_eq, Nat.not_lt_zero, Nat.zero_le, eq_self, not_true_eq_false, not_false_eq_true, decide_true, decide_false, Bool.not_true, Bool.not_false, Bool.true_and, Bool.false_and, Bool.and_true, Bool.and_false, Bool.or_true, Bool.true_or, Bool.false_or, Bool.or_false, Nat.beq_refl, bind_s, as_I, as_J, as_R, as_V, cnd_t, cnd_f, bz_ret, bzp_0, bzp_1, bzp_z0, bzp_z1, dec_bf, dec_bt, dec_nbf, dec_nbt, Bool.false_eq_true, Bool.true_eq_false, ret_0, ret_1, ret_z0, ret_z1, zi_cl]
    exact MX_up (MX_up (MX_up (MX_up (MX_up (MX_up hx _ _) _ _) _ _) _ _) _ _) _ _
  · simp (disch := omega) only [up2_n]