/-! what StepsAhead's own objects hold of a program -/
theorem nbeq_f {a b : Nat} (h : a ≠ b) : Nat.beq a b = false := by
  cases e : Nat.beq a b
  · rfl
  · exact absurd (Nat.eq_of_beq_eq_true e) h
def osh (k : Nat) : Nat × Nat := if k = 1 then (10, 5) else if k = 3 then (3, 6) else if k = 4 then (1, 7) else if k = 5 then (2, 8) else (4, 4)
def hdp : List (Nat × Nat) → Nat
  | [] => 0
  | q :: _ => q.1
def OB : List (Nat × Nat) → (Nat → Int32) → Prop
  | [], _ => True
  | q :: T, g => g T.length = zi q.1 ∧ OB T g
theorem OB_congr : ∀ {S : List (Nat × Nat)} {g g' : Nat → Int32}, (∀ i, i < S.length → g' i = g i) → OB S g → OB S g'
  | [], _, _, _, _ => trivial
  | q :: T, g, g', h2, h => by
    unfold OB at h ⊢
    have l : (q :: T).length = T.length + 1 := rfl
    exact ⟨(h2 _ (by omega)).trans h.1, OB_congr (fun i hi => h2 i (by omega)) h.2⟩
/-- a told row of six -/
def EX (s : Nat → Nat × Nat) (mi : Nat → Nat → Int32) (N e : Nat) (t : Nat → Nat) : Prop := 142 ≤ e ∧ e < N ∧ s e = (20, 6) ∧ ∀ q, q < 6 → mi e q = zi (t q)
/-- the op at a place -/
def CO (Q : Pg) (N : Nat) (s : Nat → Nat × Nat) (mi : Nat → Nat → Int32) (mr : Nat → Nat → Nat) (r p : Nat) : Prop :=
  142 ≤ mr (43 + 9 * r) p ∧ mr (43 + 9 * r) p < N ∧ s (mr (43 + 9 * r) p) = osh (qk Q r p) ∧ mi (mr (43 + 9 * r) p) 1 = zi (qk Q r p) ∧ mi (mr (43 + 9 * r) p) 2 = zi p ∧ mi (mr (43 + 9 * r) p) 3 = zi (lps (stk (qk Q r) p)) ∧
  mi (mr (43 + 9 * r) p) 4 = (if 6 ≤ qk Q r p then zi (hdp (stk (qk Q r) p)) else -1) ∧ (qk Q r p = 1 → mi (mr (43 + 9 * r) p) 42 = zi (qw Q r p)) ∧
  (qk Q r p = 3 ∨ qk Q r p = 4 → EX s mi N (mr (mr (43 + 9 * r) p) 0) (qt Q r p)) ∧ (qk Q r p = 4 → EX s mi N (mr (mr (43 + 9 * r) p) 5) (fun q => qt Q r p (6 + q)) ∧ mr (mr (43 + 9 * r) p) 6 = 42 + 9 * qd Q r p) ∧
  (qk Q r p = 6 → mi (mr (43 + 9 * r) (hdp (stk (qk Q r) p))) 11 = zi p) ∧ (qk Q r p = 7 → mi (mr (43 + 9 * r) (hdp (stk (qk Q r) p))) 7 = zi p) ∧ (qk Q r p = 8 → mi (mr (43 + 9 * r) (hdp (stk (qk Q r) p))) 8 = zi p)
/-- the routines that are called, as bits -/
def cbs (K D : Nat → Nat) : Nat → Nat
  | 0 => 0
  | p + 1 => if K p = 4 then cbs K D p ||| 2 ^ D p else cbs K D p
def CR (Q : Pg) (N : Nat) (s : Nat → Nat × Nat) (mi : Nat → Nat → Int32) (mr : Nat → Nat → Nat) (r : Nat) : Prop :=
  mi (42 + 9 * r) 21 = zi r ∧ mi (42 + 9 * r) 23 = zi (qn Q r) ∧ mi (42 + 9 * r) 25 = zi (stk (qk Q r) (qn Q r)).length ∧ OB (stk (qk Q r) (qn Q r)) (mi (44 + 9 * r)) ∧ mi (42 + 9 * r) 26 = zi (cbs (qk Q r) (qd Q r) (qn Q r)) ∧
  (∀ p, p < qn Q r → CO Q N s mi mr r p) ∧ (∀ q, (q, 1) ∈ stk (qk Q r) (qn Q r) → mi (mr (43 + 9 * r) q) 7 = -1)
def CQ (Q : Pg) (N : Nat) (s : Nat → Nat × Nat) (mi : Nat → Nat → Int32) (mr : Nat → Nat → Nat) : Prop :=
  mi 4 44 = zi (qc Q) ∧ (∀ r, r < 8 → CR Q N s mi mr r) ∧ (∀ r p r' p', r < 8 → r' < 8 → p < qn Q r → p' < qn Q r' → mr (43 + 9 * r) p = mr (43 + 9 * r') p' → r = r' ∧ p = p')
theorem osh_1 : osh 1 = (10, 5) := rfl
theorem osh_3 : osh 3 = (3, 6) := rfl
theorem osh_4 : osh 4 = (1, 7) := rfl
theorem osh_5 : osh 5 = (2, 8) := rfl
theorem osh_6 {k : Nat} (h : 6 ≤ k) : osh k = (4, 4) := by
  unfold osh
  rw [if_neg (by omega), if_neg (by omega), if_neg (by omega), if_neg (by omega)]
theorem opF {s : Nat → Nat × Nat} {mr : Nat → Nat → Nat} {n : Nat × Nat} {mi : Nat → Nat → Int32} {ml : Nat → Nat → Int64} {o k f : Nat} (h : s o = osh k) (hf : f = 1 ∨ f = 2 ∨ f = 3 ∨ f = 4) : hgI ((s, n, mi, ml, mr) : Hp) o f = some (mi o f) := by
  unfold osh at h
  rcases hf with rfl | rfl | rfl | rfl <;> (split at h; exact rgI h rfl; split at h; exact rgI h rfl; split at h; exact rgI h rfl; split at h; exact rgI h rfl; exact rgI h rfl)
theorem opF1 {s : Nat → Nat × Nat} {mr : Nat → Nat → Nat} {n : Nat × Nat} {mi : Nat → Nat → Int32} {ml : Nat → Nat → Int64} {o k : Nat} (h : s o = osh k) : hgI ((s, n, mi, ml, mr) : Hp) o 1 = some (mi o 1) := opF h (by decide)
theorem opF2 {s : Nat → Nat × Nat} {mr : Nat → Nat → Nat} {n : Nat × Nat} {mi : Nat → Nat → Int32} {ml : Nat → Nat → Int64} {o k : Nat} (h : s o = osh k) : hgI ((s, n, mi, ml, mr) : Hp) o 2 = some (mi o 2) := opF h (by decide)
theorem opF3 {s : Nat → Nat × Nat} {mr : Nat → Nat → Nat} {n : Nat × Nat} {mi : Nat → Nat → Int32} {ml : Nat → Nat → Int64} {o k : Nat} (h : s o = osh k) : hgI ((s, n, mi, ml, mr) : Hp) o 3 = some (mi o 3) := opF h (by decide)
theorem opF4 {s : Nat → Nat × Nat} {mr : Nat → Nat → Nat} {n : Nat × Nat} {mi : Nat → Nat → Int32} {ml : Nat → Nat → Int64} {o k : Nat} (h : s o = osh k) : hgI ((s, n, mi, ml, mr) : Hp) o 4 = some (mi o 4) := opF h (by decide)
theorem c15_t {G : AG} (hG : FIX G) {s : Nat → Nat × Nat} {mr : Nat → Nat → Nat} (hC : CS s mr) {n : Nat × Nat} {mi : Nat → Nat → Int32} {ml : Nat → Nat → Int64} {c r : Nat} (h44 : mi 4 44 = zi c) (hc : c ≤ 8) (hr : r < c) : G 15 0 [some (.inr (.inr 4)), some (.inl (zi r))] [] (s, n, mi, ml, mr) = some (some (.inr (.inr (42 + 9 * r))), (s, n, mi, ml, mr)) := by
  rw [b15_0 hG]
  simp (disch := omega) only [b15_18 hG, b15_28 hG, gc44 hC, gc43 hC, ac5 hC, ne_eq, Nat.not_lt_zero, Nat.zero_le, eq_self, not_true_eq_false, not_false_eq_true, decide_true, decide_false, Bool.not_true, Bool.not_false, Bool.true_and, Bool.false_and, Bool.and_true, Bool.and_false, Bool.or_true, Bool.true_or, Bool.false_or, Bool.or_false, Nat.beq_refl, bind_s, as_I, as_J, as_R, as_V, cnd_t, cnd_f, bz_ret, bzp_0, bzp_1, bzp_z0, bzp_z1, dec_bf, dec_bt, dec_nbf, dec_nbt, Bool.false_eq_true, Bool.true_eq_false, ret_0, ret_1, ret_z0, ret_z1, zi_lit, zi_add, zi_mul, zi_lt, zi_le, zi_eq, zi_sub, h44, Nat.not_lt_zero, eq_false (by omega : ¬ c ≤ r), eq_true (by omega : r < 8)]
theorem c15_f {G : AG} (hG : FIX G) {s : Nat → Nat × Nat} {mr : Nat → Nat → Nat} (hC : CS s mr) {n : Nat × Nat} {mi : Nat → Nat → Int32} {ml : Nat → Nat → Int64} {c : Nat} {x : Int32} (h44 : mi 4 44 = zi c) (hc : c ≤ 8) (hx : isN x c = false) : G 15 0 [some (.inr (.inr 4)), some (.inl x)] [] (s, n, mi, ml, mr) = some (some (.inr (.inr 0)), (s, n, mi, ml, mr)) := by
  rw [b15_0 hG]
  by_cases h0 : x < 0
  · simp (disch := omega) only [b15_18 hG, b15_28 hG, gc44 hC, gc43 hC, ac5 hC, ne_eq, Nat.not_lt_zero, Nat.zero_le, eq_self, not_true_eq_false, not_false_eq_true, decide_true, decide_false, Bool.not_true, Bool.not_false, Bool.true_and, Bool.false_and, Bool.and_true, Bool.and_false, Bool.or_true, Bool.true_or, Bool.false_or, Bool.or_false, Nat.beq_refl, bind_s, as_I, as_J, as_R, as_V, cnd_t, cnd_f, bz_ret, bzp_0, bzp_1, bzp_z0, bzp_z1, dec_bf, dec_bt, dec_nbf, dec_nbt, Bool.false_eq_true, Bool.true_eq_false, ret_0, ret_1, ret_z0, ret_z1, decide_eq_true h0]
  · obtain ⟨r, hr, rfl⟩ := zi_of (Int32.not_lt.mp h0)
    rw [isN_zi hr] at hx
    have hx' : c ≤ r := by have := of_decide_eq_false hx; omega
    simp (disch := omega) only [b15_18 hG, b15_28 hG, gc44 hC, gc43 hC, ac5 hC, ne_eq, Nat.not_lt_zero, Nat.zero_le, eq_self, not_true_eq_false, not_false_eq_true, decide_true, decide_false, Bool.not_true, Bool.not_false, Bool.true_and, Bool.false_and, Bool.and_true, Bool.and_false, Bool.or_true, Bool.true_or, Bool.false_or, Bool.or_false, Nat.beq_refl, bind_s, as_I, as_J, as_R, as_V, cnd_t, cnd_f, bz_ret, bzp_0, bzp_1, bzp_z0, bzp_z1, dec_bf, dec_bt, dec_nbf, dec_nbt, Bool.false_eq_true, Bool.true_eq_false, ret_0, ret_1, ret_z0, ret_z1, decide_eq_false h0, zi_lit, zi_add, zi_mul, zi_lt, zi_le, zi_eq, zi_sub, h44, eq_true hx']
theorem c18_t {G : AG} (hG : FIX G) {s : Nat → Nat × Nat} {mr : Nat → Nat → Nat} (hC : CS s mr) {n : Nat × Nat} {mi : Nat → Nat → Int32} {ml : Nat → Nat → Int64} {r p c : Nat} (hr : r < 8) (h23 : mi (42 + 9 * r) 23 = zi c) (hc : c ≤ 24) (hp : p < c) : G 18 0 [some (.inr (.inr (42 + 9 * r))), some (.inl (zi p))] [] (s, n, mi, ml, mr) = some (some (.inr (.inr (mr (43 + 9 * r) p))), (s, n, mi, ml, mr)) := by
  rw [b18_0 hG]
  simp (disch := omega) only [b18_18 hG, b18_28 hG, gc23 hC, gc22 hC, ac43 hC, ne_eq, Nat.not_lt_zero, Nat.zero_le, eq_self, not_true_eq_false, not_false_eq_true, decide_true, decide_false, Bool.not_true, Bool.not_false, Bool.true_and, Bool.false_and, Bool.and_true, Bool.and_false, Bool.or_true, Bool.true_or, Bool.false_or, Bool.or_false, Nat.beq_refl, bind_s, as_I, as_J, as_R, as_V, cnd_t, cnd_f, bz_ret, bzp_0, bzp_1, bzp_z0, bzp_z1, dec_bf, dec_bt, dec_nbf, dec_nbt, Bool.false_eq_true, Bool.true_eq_false, ret_0, ret_1, ret_z0, ret_z1, zi_lit, zi_add, zi_mul, zi_lt, zi_le, zi_eq, zi_sub, h23, Nat.not_lt_zero, eq_false (by omega : ¬ c ≤ p), eq_true (by omega : p < 24)]
theorem c18_f {G : AG} (hG : FIX G) {s : Nat → Nat × Nat} {mr : Nat → Nat → Nat} (hC : CS s mr) {n : Nat × Nat} {mi : Nat → Nat → Int32} {ml : Nat → Nat → Int64} {r c : Nat} {x : Int32} (hr : r < 8) (h23 : mi (42 + 9 * r) 23 = zi c) (hc : c ≤ 24) (hx : isN x c = false) : G 18 0 [some (.inr (.inr (42 + 9 * r))), some (.inl x)] [] (s, n, mi, ml, mr) = some (some (.inr (.inr 0)), (s, n, mi, ml, mr)) := by
  rw [b18_0 hG]
  by_cases h0 : x < 0
  · simp (disch := omega) only [b18_18 hG, b18_28 hG, gc23 hC, gc22 hC, ac43 hC, ne_eq, Nat.not_lt_zero, Nat.zero_le, eq_self, not_true_eq_false, not_false_eq_true, decide_true, decide_false, Bool.not_true, Bool.not_false, Bool.true_and, Bool.false_and, Bool.and_true, Bool.and_false, Bool.or_true, Bool.true_or, Bool.false_or, Bool.or_false, Nat.beq_refl, bind_s, as_I, as_J, as_R, as_V, cnd_t, cnd_f, bz_ret, bzp_0, bzp_1, bzp_z0, bzp_z1, dec_bf, dec_bt, dec_nbf, dec_nbt, Bool.false_eq_true, Bool.true_eq_false, ret_0, ret_1, ret_z0, ret_z1, decide_eq_true h0]
  · obtain ⟨p, hp, rfl⟩ := zi_of (Int32.not_lt.mp h0)
    rw [isN_zi hp] at hx
    have hx' : c ≤ p := by have := of_decide_eq_false hx; omega
    simp (disch := omega) only [b18_18 hG, b18_28 hG, gc23 hC, gc22 hC, ac43 hC, ne_eq, Nat.not_lt_zero, Nat.zero_le, eq_self, not_true_eq_false, not_false_eq_true, decide_true, decide_false, Bool.not_true, Bool.not_false, Bool.true_and, Bool.false_and, Bool.and_true, Bool.and_false, Bool.or_true, Bool.true_or, Bool.false_or, Bool.or_false, Nat.beq_refl, bind_s, as_I, as_J, as_R, as_V, cnd_t, cnd_f, bz_ret, bzp_0, bzp_1, bzp_z0, bzp_z1, dec_bf, dec_bt, dec_nbf, dec_nbt, Bool.false_eq_true, Bool.true_eq_false, ret_0, ret_1, ret_z0, ret_z1, decide_eq_false h0, zi_lit, zi_add, zi_mul, zi_lt, zi_le, zi_eq, zi_sub, h23, eq_true hx']
theorem c16 {G : AG} (hG : FIX G) {s : Nat → Nat × Nat} {mr : Nat → Nat → Nat} (hC : CS s mr) {n : Nat × Nat} {mi : Nat → Nat → Int32} {ml : Nat → Nat → Int64} {r c : Nat} (hr : r < 8) (h23 : mi (42 + 9 * r) 23 = zi c) (hc : c ≤ 24) : G 16 0 [some (.inr (.inr (42 + 9 * r)))] [] (s, n, mi, ml, mr) = some (some (.inl (bz (decide (24 ≤ c)))), (s, n, mi, ml, mr)) := by
  rw [b16_0 hG]
  by_cases h : 24 ≤ c
  · simp (disch := omega) only [b16_14 hG, gc23 hC, ne_eq, Nat.not_lt_zero, Nat.zero_le, eq_self, not_true_eq_false, not_false_eq_true, decide_true, decide_false, Bool.not_true, Bool.not_false, Bool.true_and, Bool.false_and, Bool.and_true, Bool.and_false, Bool.or_true, Bool.true_or, Bool.false_or, Bool.or_false, Nat.beq_refl, bind_s, as_I, as_J, as_R, as_V, cnd_t, cnd_f, bz_ret, bzp_0, bzp_1, bzp_z0, bzp_z1, dec_bf, dec_bt, dec_nbf, dec_nbt, Bool.false_eq_true, Bool.true_eq_false, ret_0, ret_1, ret_z0, ret_z1, zi_lit, zi_add, zi_mul, zi_lt, zi_le, zi_eq, zi_sub, h23, eq_true h, eq_false (by omega : ¬ c < 24)]
  · simp (disch := omega) only [b16_14 hG, gc23 hC, ne_eq, Nat.not_lt_zero, Nat.zero_le, eq_self, not_true_eq_false, not_false_eq_true, decide_true, decide_false, Bool.not_true, Bool.not_false, Bool.true_and, Bool.false_and, Bool.and_true, Bool.and_false, Bool.or_true, Bool.true_or, Bool.false_or, Bool.or_false, Nat.beq_refl, bind_s, as_I, as_J, as_R, as_V, cnd_t, cnd_f, bz_ret, bzp_0, bzp_1, bzp_z0, bzp_z1, dec_bf, dec_bt, dec_nbf, dec_nbt, Bool.false_eq_true, Bool.true_eq_false, ret_0, ret_1, ret_z0, ret_z1, zi_lit, zi_add, zi_mul, zi_lt, zi_le, zi_eq, zi_sub, h23, eq_false h, eq_true (by omega : c < 24)]