/-! the model: is, ask, trace, expression, lot -/
def nzc (t : Nat → Nat) : Nat → Nat
  | 0 => 0
  | k + 1 => nzc t k + (if t k = 0 then 0 else 1)
theorem nzc_le (t : Nat → Nat) : ∀ k, nzc t k ≤ k
  | 0 => Nat.le_refl _
  | k + 1 => by
    have := nzc_le t k
    unfold nzc
    split <;> omega
/-- bodies begin, one after the other -/
def trs : Nat × (Nat → Int32) → List Nat → Nat × (Nat → Int32)
  | t, [] => t
  | t, b :: l => trs (trN t.1, trF t.1 t.2 (zi b)) l
def bodS (k : Nat) : List Nat := if k = 1 then [13] else if k = 4 then [12, 11, 10] else if k = 3 then [11, 10] else [10]
def bodM (k : Nat) : List Nat := if k = 4 then [23] else if k = 5 then [24, 20] else if k = 3 then [22, 21, 20, 11, 10] else [20]
def valS (Q : Pg) (r p : Nat) : Nat := if qk Q r p = 1 then qw Q r p else if qk Q r p = 4 then 1 + nzc (qt Q r p) 6 + nzc (fun q => qt Q r p (6 + q)) 6 else if qk Q r p = 3 then 1 + nzc (qt Q r p) 6 else 1
def valM (Q : Pg) (r p : Nat) : Nat := if qk Q r p = 4 then qd Q r p else if qk Q r p = 5 then 2 * p else if qk Q r p = 3 then p + valS Q r p + lps (stk (qk Q r) p) + 1 else p
def rAsk (Q : Pg) (x y w : Int32) : Int32 := bif opq Q x y && isN w 2 then (bif decide (w = 0) then zi (valS Q x.toNatClampNeg y.toNatClampNeg) else zi (valM Q x.toNatClampNeg y.toNatClampNeg)) else -1000001
def tAsk (Q : Pg) (x y w : Int32) (t : Nat × (Nat → Int32)) : Nat × (Nat → Int32) := bif opq Q x y && isN w 2 then (bif decide (w = 0) then trs (0, t.2) (bodS (qk Q x.toNatClampNeg y.toNatClampNeg)) else trs (0, t.2) (bodM (qk Q x.toNatClampNeg y.toNatClampNeg))) else t
def rTrace (t : Nat × (Nat → Int32)) (x : Int32) : Int32 := bif isN x t.1 then t.2 x.toNatClampNeg else -1000000
abbrev MTp (t : Nat × (Nat → Int32)) (mi : Nat → Nat → Int32) : Prop := MT t.1 t.2 mi
/-- of what is kept the trace alone has changed -/
def MA (mi mi' : Nat → Nat → Int32) : Prop := (∀ a, a < 114 → mi' a = mi a) ∧ (∀ a, 142 ≤ a → mi' a = mi a) ∧ (∀ a, 115 ≤ a → a ≤ 123 → a ≠ 121 → mi' a = mi a) ∧ (∀ a, 126 ≤ a → a ≤ 132 → mi' a = mi a) ∧ (∀ f, f < 63 → f ≠ 59 → mi' 114 f = mi 114 f)
theorem MA_MK {a b} (h : MK a b) : MA a b := ⟨h.1, h.2.1, fun x h1 h2 _ => h.2.2.1 x h1 h2, h.2.2.2.1, fun f h1 _ => h.2.2.2.2 f h1⟩
theorem MA_tr {a b} (h : MTr a b) : MA a b := ⟨fun x hx => h.1 x (by omega) (by omega), fun x hx => h.1 x (by omega) (by omega), fun x h1 h2 h3 => h.1 x (by omega) h3, fun x h1 h2 => h.1 x (by omega) (by omega), fun f _ h2 => h.2 f h2⟩
theorem MA_trans {a b c} (h : MA a b) (h' : MA b c) : MA a c := ⟨fun x hx => (h'.1 x hx).trans (h.1 x hx), fun x hx => (h'.2.1 x hx).trans (h.2.1 x hx), fun x h1 h2 h3 => (h'.2.2.1 x h1 h2 h3).trans (h.2.2.1 x h1 h2 h3), fun x h1 h2 => (h'.2.2.2.1 x h1 h2).trans (h.2.2.2.1 x h1 h2), fun x h1 h2 => (h'.2.2.2.2 x h1 h2).trans (h.2.2.2.2 x h1 h2)⟩
theorem MA_refl (a) : MA a a := ⟨fun _ _ => rfl, fun _ _ => rfl, fun _ _ _ _ => rfl, fun _ _ _ => rfl, fun _ _ _ => rfl⟩
theorem MTr_trans {a b c} (h : MTr a b) (h' : MTr b c) : MTr a c := ⟨fun x h1 h2 => (h'.1 x h1 h2).trans (h.1 x h1 h2), fun x h1 => (h'.2 x h1).trans (h.2 x h1)⟩
theorem mdQ_MTr {Q mi mi'} (h : mdQ Q mi) (hk : MTr mi mi') : mdQ Q mi' := by
  obtain ⟨h1, h2, h3⟩ := h
  refine ⟨(hk.2 50 (by decide)).trans h1, fun r hr => ?_, fun r p hr hp => ?_⟩
  · rw [hk.1 115 (by decide) (by decide)]; exact h2 r hr
  · rw [hk.1 116 (by decide) (by decide), hk.1 117 (by decide) (by decide), hk.1 118 (by decide) (by decide), hk.1 119 (by decide) (by decide)]
    exact h3 r p hr hp
theorem m148L {G : AG} (hG : FIX G) {s : Nat → Nat × Nat} {mr : Nat → Nat → Nat} (hM : MS s mr) {n : Nat × Nat} {ml : Nat → Nat → Int64} {mi : Nat → Nat → Int32} {op w : Nat} {t : Nat → Nat} (ho : op < 192) (hw : w < 2) (ht : ∀ q, q < 6 → mi 119 (12 * op + 6 * w + q) = zi (t q)) (hb : ∀ q, t q ≤ 2) : ∀ (d k : Nat), k + d = 6 →
    G 148 5 [some (.inr (.inr 114)), some (.inl (zi op)), some (.inl (zi w)), some (.inl (zi (nzc t k))), some (.inl (zi k))] [] (s, n, mi, ml, mr) = some (some (.inl (zi (nzc t 6))), (s, n, mi, ml, mr))
  | 0, k, hk => by
    have e : k = 6 := by omega
    subst e
    rw [b148_5 hG]
    simp (disch := omega) only [ne_eq, Nat.not_lt_zero, Nat.zero_le, eq_self, not_true_eq_false, not_false_eq_true, decide_true, decide_false, Bool.not_true, Bool.not_false, Bool.true_and, Bool.false_and, Bool.and_true, Bool.and_false, Bool.or_true, Bool.true_or, Bool.false_or, Bool.or_false, Nat.beq_refl, bind_s, as_I, as_J, as_R, as_V, cnd_t, cnd_f, bz_ret, bzp_0, bzp_1, bzp_z0, bzp_z1, dec_bf, dec_bt, dec_nbf, dec_nbt, Bool.false_eq_true, Bool.true_eq_false, ret_0, ret_1, ret_z0, ret_z1, zi_lit, zi_add, zi_mul, zi_lt, zi_le, zi_eq, zi_sub, Nat.le_refl]
  | d + 1, k, hk => by
    have ih := m148L hG hM (s := s) (mr := mr) (n := n) (ml := ml) ho hw ht hb d (k + 1) (by omega)
    have hbk := hb k
    rw [b148_5 hG]
    simp (disch := omega) only [b148_38 hG, gm55 hM, am119 hM, wm119 hM, ne_eq, Nat.not_lt_zero, Nat.zero_le, eq_self, not_true_eq_false, not_false_eq_true, decide_true, decide_false, Bool.not_true, Bool.not_false, Bool.true_and, Bool.false_and, Bool.and_true, Bool.and_false, Bool.or_true, Bool.true_or, Bool.false_or, Bool.or_false, Nat.beq_refl, bind_s, as_I, as_J, as_R, as_V, cnd_t, cnd_f, bz_ret, bzp_0, bzp_1, bzp_z0, bzp_z1, dec_bf, dec_bt, dec_nbf, dec_nbt, Bool.false_eq_true, Bool.true_eq_false, ret_0, ret_1, ret_z0, ret_z1, zi_lit, zi_add, zi_mul, zi_lt, zi_le, zi_eq, zi_sub, ht k (by omega), eq_false (by omega : ¬ 6 ≤ k)]
    by_cases h0 : t k = 0
    · rw [nzc, if_pos h0] at ih
      simp (disch := omega) only [b148_38 hG, ne_eq, Nat.not_lt_zero, Nat.zero_le, eq_self, not_true_eq_false, not_false_eq_true, decide_true, decide_false, Bool.not_true, Bool.not_false, Bool.true_and, Bool.false_and, Bool.and_true, Bool.and_false, Bool.or_true, Bool.true_or, Bool.false_or, Bool.or_false, Nat.beq_refl, bind_s, as_I, as_J, as_R, as_V, cnd_t, cnd_f, bz_ret, bzp_0, bzp_1, bzp_z0, bzp_z1, dec_bf, dec_bt, dec_nbf, dec_nbt, Bool.false_eq_true, Bool.true_eq_false, ret_0, ret_1, ret_z0, ret_z1, zi_lit, zi_add, zi_mul, zi_lt, zi_le, zi_eq, zi_sub, eq_true h0]
      exact ih
    · rw [nzc, if_neg h0] at ih
      simp (disch := omega) only [b148_38 hG, ne_eq, Nat.not_lt_zero, Nat.zero_le, eq_self, not_true_eq_false, not_false_eq_true, decide_true, decide_false, Bool.not_true, Bool.not_false, Bool.true_and, Bool.false_and, Bool.and_true, Bool.and_false, Bool.or_true, Bool.true_or, Bool.false_or, Bool.or_false, Nat.beq_refl, bind_s, as_I, as_J, as_R, as_V, cnd_t, cnd_f, bz_ret, bzp_0, bzp_1, bzp_z0, bzp_z1, dec_bf, dec_bt, dec_nbf, dec_nbt, Bool.false_eq_true, Bool.true_eq_false, ret_0, ret_1, ret_z0, ret_z1, zi_lit, zi_add, zi_mul, zi_lt, zi_le, zi_eq, zi_sub, eq_false h0]
      exact ih
theorem m148 {G : AG} (hG : FIX G) {s : Nat → Nat × Nat} {mr : Nat → Nat → Nat} (hM : MS s mr) {n : Nat × Nat} {ml : Nat → Nat → Int64} {mi : Nat → Nat → Int32} {op w : Nat} {t : Nat → Nat} (ho : op < 192) (hw : w < 2) (ht : ∀ q, q < 6 → mi 119 (12 * op + 6 * w + q) = zi (t q)) (hb : ∀ q, t q ≤ 2) :
    G 148 0 [some (.inr (.inr 114)), some (.inl (zi op)), some (.inl (zi w)), none, none] [] (s, n, mi, ml, mr) = some (some (.inl (zi (nzc t 6))), (s, n, mi, ml, mr)) := by
  rw [b148_0 hG]
  exact m148L hG hM ho hw ht hb 6 0 (by omega)
theorem m147p {G : AG} (hG : FIX G) {s : Nat → Nat × Nat} {mr : Nat → Nat → Nat} (hM : MS s mr) {n : Nat × Nat} {ml : Nat → Nat → Int64} {mi : Nat → Nat → Int32} {t : Nat × (Nat → Int32)} (hT : MTp t mi) (b : Nat) (l : List Nat) : ∃ mi', G 147 0 [some (.inr (.inr 114)), some (.inl (zi b))] [] (s, n, mi, ml, mr) = some (none, (s, n, mi', ml, mr)) ∧ MTp (trs t [b]) mi' ∧ MTr mi mi' := m147 hG hM hT (zi b)
theorem m146 {G : AG} (hG : FIX G) {s : Nat → Nat × Nat} {mr : Nat → Nat → Nat} (hM : MS s mr) {n : Nat × Nat} {ml : Nat → Nat → Int64} {mi : Nat → Nat → Int32} {Q : Pg} (hQ : mdQ Q mi) (hW : WP Q) {t : Nat × (Nat → Int32)} (hT : MTp t mi) {r p : Nat} (hr : r < 8) (hp : p < qn Q r) :
    ∃ mi', G 146 0 [some (.inr (.inr 114)), some (.inl (zi (24 * r + p))), none] [] (s, n, mi, ml, mr) = some (some (.inl (zi (valS Q r p))), (s, n, mi', ml, mr)) ∧ MTp (trs t (bodS (qk Q r p))) mi' ∧ MTr mi mi' := by
  have h24 := hW.2.1 r
  have hq := hQ.2.2 r p hr hp
  have hnz1 := nzc_le (qt Q r p) 6
  have hnz2 := nzc_le (fun q => qt Q r p (6 + q)) 6
  have hb := hW.2.2.2.2.2.2 r p
  have tl : ∀ {m : Nat → Nat → Int32}, MTr mi m → ∀ q, q < 12 → m 119 (12 * (24 * r + p) + q) = zi (qt Q r p q) := fun h q hq' => by rw [h.1 119 (by decide) (by decide)]; exact hq.2.2.2 q hq'
  have z1 : ∀ {m : Nat → Nat → Int32}, MTr mi m → G 148 0 [some (.inr (.inr 114)), some (.inl (zi (24 * r + p))), some (.inl (zi 0)), none, none] [] (s, n, m, ml, mr) = some (some (.inl (zi (nzc (qt Q r p) 6))), (s, n, m, ml, mr)) := fun h => m148 hG hM (by omega) (by omega) (fun q hq' => by rw [← tl h q (by omega)]; exact congrArg _ (by omega)) hb
  have z2 : ∀ {m : Nat → Nat → Int32}, MTr mi m → G 148 0 [some (.inr (.inr 114)), some (.inl (zi (24 * r + p))), some (.inl (zi 1)), none, none] [] (s, n, m, ml, mr) = some (some (.inl (zi (nzc (fun q => qt Q r p (6 + q)) 6))), (s, n, m, ml, mr)) := fun h => m148 hG hM (by omega) (by omega) (fun q hq' => by rw [← tl h (6 + q) (by omega)]; exact congrArg _ (by omega)) (fun q => hb _)
  rw [b146_0 hG]
  rcases kle (hW.2.2.2.1 r) hp with h | h | h | h | h | h | h
  · obtain ⟨m1, e1, t1, r1⟩ := m147p hG hM (n := n) (ml := ml) hT 13 []
    refine ⟨m1, ?_, by rw [h]; exact t1, r1⟩
    have hw := hq.2.1 h
    simp (disch := omega) only [b146_36 hG, b146_49 hG, b146_73 hG, b146_89 hG, gm52 hM, am116 hM, wm116 hM, gm53 hM, am117 hM, wm117 hM, km hM, ne_eq, Nat.not_lt_zero, Nat.zero_le, eq_self, not_true_eq_false, not_false_eq_true, decide_true, decide_false, Bool.not_true, Bool.not_false, Bool.true_and, Bool.false_and, Bool.and_true, Bool.and_false, Bool.or_true, Bool.true_or, Bool.false_or, Bool.or_false, Nat.beq_refl, bind_s, as_I, as_J, as_R, as_V, cnd_t, cnd_f, bz_ret, bzp_0, bzp_1, bzp_z0, bzp_z1, dec_bf, dec_bt, dec_nbf, dec_nbt, Bool.false_eq_true, Bool.true_eq_false, ret_0, ret_1, ret_z0, ret_z1, zi_lit, zi_add, zi_mul, zi_lt, zi_le, zi_eq, zi_sub, hq.1, h, e1, r1.1, ne_eq, hw, valS, if_true, Nat.reduceEqDiff, not_false_eq_true]
  · obtain ⟨m1, e1, t1, r1⟩ := m147p hG hM (n := n) (ml := ml) hT 11 []
    obtain ⟨m2, e2, t2, r2⟩ := m147p hG hM (n := n) (ml := ml) t1 10 []
    refine ⟨m2, ?_, by rw [h]; exact t2, MTr_trans r1 r2⟩
    simp (disch := omega) only [b146_36 hG, b146_49 hG, b146_73 hG, b146_89 hG, gm52 hM, am116 hM, wm116 hM, gm53 hM, am117 hM, wm117 hM, km hM, ne_eq, Nat.not_lt_zero, Nat.zero_le, eq_self, not_true_eq_false, not_false_eq_true, decide_true, decide_false, Bool.not_true, Bool.not_false, Bool.true_and, Bool.false_and, Bool.and_true, Bool.and_false, Bool.or_true, Bool.true_or, Bool.false_or, Bool.or_false, Nat.beq_refl, bind_s, as_I, as_J, as_R, as_V, cnd_t, cnd_f, bz_ret, bzp_0, bzp_1, bzp_z0, bzp_z1, dec_bf, dec_bt, dec_nbf, dec_nbt, Bool.false_eq_true, Bool.true_eq_false, ret_0, ret_1, ret_z0, ret_z1, zi_lit, zi_add, zi_mul, zi_lt, zi_le, zi_eq, zi_sub, hq.1, h, e1, e2, m143 hG, z1 (MTr_trans r1 r2), valS, if_true, if_false, Nat.reduceEqDiff, Nat.add_zero]
  · obtain ⟨m1, e1, t1, r1⟩ := m147p hG hM (n := n) (ml := ml) hT 12 []
    obtain ⟨m2, e2, t2, r2⟩ := m147p hG hM (n := n) (ml := ml) t1 11 []
    obtain ⟨m3, e3, t3, r3⟩ := m147p hG hM (n := n) (ml := ml) t2 10 []
    refine ⟨m3, ?_, by rw [h]; exact t3, MTr_trans r1 (MTr_trans r2 r3)⟩
    simp (disch := omega) only [b146_36 hG, b146_49 hG, b146_73 hG, b146_89 hG, gm52 hM, am116 hM, wm116 hM, gm53 hM, am117 hM, wm117 hM, km hM, ne_eq, Nat.not_lt_zero, Nat.zero_le, eq_self, not_true_eq_false, not_false_eq_true, decide_true, decide_false, Bool.not_true, Bool.not_false, Bool.true_and, Bool.false_and, Bool.and_true, Bool.and_false, Bool.or_true, Bool.true_or, Bool.false_or, Bool.or_false, Nat.beq_refl, bind_s, as_I, as_J, as_R, as_V, cnd_t, cnd_f, bz_ret, bzp_0, bzp_1, bzp_z0, bzp_z1, dec_bf, dec_bt, dec_nbf, dec_nbt, Bool.false_eq_true, Bool.true_eq_false, ret_0, ret_1, ret_z0, ret_z1, zi_lit, zi_add, zi_mul, zi_lt, zi_le, zi_eq, zi_sub, hq.1, h, e1, e2, e3, m143 hG, z1 (MTr_trans r1 (MTr_trans r2 r3)), z2 (MTr_trans r1 (MTr_trans r2 r3)), valS, if_true, if_false, Nat.reduceEqDiff, Nat.add_zero]
  all_goals
    obtain ⟨m1, e1, t1, r1⟩ := m147p hG hM (n := n) (ml := ml) hT 10 []
    refine ⟨m1, ?_, by rw [h]; exact t1, r1⟩
    simp (disch := omega) only [b146_36 hG, b146_49 hG, b146_73 hG, b146_89 hG, gm52 hM, am116 hM, wm116 hM, gm53 hM, am117 hM, wm117 hM, km hM, ne_eq, Nat.not_lt_zero, Nat.zero_le, eq_self, not_true_eq_false, not_false_eq_true, decide_true, decide_false, Bool.not_true, Bool.not_false, Bool.true_and, Bool.false_and, Bool.and_true, Bool.and_false, Bool.or_true, Bool.true_or, Bool.false_or, Bool.or_false, Nat.beq_refl, bind_s, as_I, as_J, as_R, as_V, cnd_t, cnd_f, bz_ret, bzp_0, bzp_1, bzp_z0, bzp_z1, dec_bf, dec_bt, dec_nbf, dec_nbt, Bool.false_eq_true, Bool.true_eq_false, ret_0, ret_1, ret_z0, ret_z1, zi_lit, zi_add, zi_mul, zi_lt, zi_le, zi_eq, zi_sub, hq.1, h, e1, m143 hG, valS, if_true, if_false, Nat.reduceEqDiff, Nat.add_zero]