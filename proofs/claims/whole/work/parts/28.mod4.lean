/-! the model: the calls that make programs -/
def opRt (Q : Pg) : Int32 × Pg := if qc Q = 8 then (-1000003, Q) else (zi (qc Q), (qc Q + 1, Q.2))
def opWork (Q : Pg) (x c : Int32) (t : Nat → Nat) : Int32 × Pg := bif isN x (qc Q) && isB c 1 99 then cm Q x.toNatClampNeg 1 c.toNatClampNeg 0 t else (-1000001, Q)
def opLoop (Q : Pg) (x : Int32) (t : Nat → Nat) : Int32 × Pg := bif isN x (qc Q) then (if lps (stk (qk Q x.toNatClampNeg) (qn Q x.toNatClampNeg)) = 3 then (-1000002, Q) else cm Q x.toNatClampNeg 3 0 0 t) else (-1000001, Q)
def opCall (Q : Pg) (x y : Int32) (t : Nat → Nat) : Int32 × Pg := bif isN x (qc Q) && isN y x.toNatClampNeg then cm Q x.toNatClampNeg 4 0 y.toNatClampNeg t else (-1000001, Q)
def opEith (Q : Pg) (x : Int32) (t : Nat → Nat) : Int32 × Pg := bif isN x (qc Q) then cm Q x.toNatClampNeg 5 0 0 t else (-1000001, Q)
def clo (S : List (Nat × Nat)) (k : Nat) : Bool := match S with
  | [] => false
  | q :: _ => decide (q.2 + 6 = k)
def opClose (Q : Pg) (x y : Int32) (t : Nat → Nat) : Int32 × Pg := bif isN x (qc Q) && isB y 6 8 then (bif clo (stk (qk Q x.toNatClampNeg) (qn Q x.toNatClampNeg)) y.toNatClampNeg then cm Q x.toNatClampNeg y.toNatClampNeg 0 0 t else (-1000002, Q)) else (-1000001, Q)
def pop (Q : Pg) (r : Nat) : Pg := (qc Q, up1 (qn Q) r (qn Q r - 1), Q.2.2)
def opBack (Q : Pg) (x : Int32) : Int32 × Pg := bif isN x (qc Q) then (if qn Q x.toNatClampNeg = 0 then (-1000002, Q) else (zi (qn Q x.toNatClampNeg - 1), pop Q x.toNatClampNeg)) else (-1000001, Q)
theorem isB_t {x : Int32} {a b : Nat} (h : isB x a b = true) (hb : b < 2147483648) : ∃ c : Nat, a ≤ c ∧ c ≤ b ∧ x = zi c := by
  unfold isB at h
  rw [Bool.and_eq_true, decide_eq_true_eq, decide_eq_true_eq] at h
  obtain ⟨n, hn, rfl⟩ := zi_of (x := x) (by rw [Int32.le_iff_toInt_le]; exact Int.le_trans (by omega : (0 : Int) ≤ (a : Int)) h.1)
  rw [zi_ti hn] at h
  exact ⟨n, by omega, by omega, rfl⟩
theorem m128 {G : AG} (hG : FIX G) {s : Nat → Nat × Nat} {mr : Nat → Nat → Nat} (hM : MS s mr) {n : Nat × Nat} {ml : Nat → Nat → Int64} {mi : Nat → Nat → Int32} {Q : Pg} (hQ : mdQ Q mi) (hW : WP Q) : ∃ mi', G 128 0 [some (.inr (.inr 114))] [] (s, n, mi, ml, mr) = some (some (.inl (opRt Q).1), (s, n, mi', ml, mr)) ∧ mdQ (opRt Q).2 mi' ∧ (MC mi mi' ∨ (mi' = mi ∧ (opRt Q).2 = Q)) := by
  have h8 := hW.1
  obtain ⟨hQ1, hQ2, hQ3⟩ := hQ
  unfold opRt
  by_cases h : qc Q = 8
  · rw [if_pos h]
    refine ⟨mi, ?_, ⟨hQ1, hQ2, hQ3⟩, Or.inr ⟨rfl, rfl⟩⟩
    rw [b128_0 hG]
    simp (disch := omega) only [gm50 hM, gm51 hM, am115 hM, wm115 hM, pm50 hM, pm60 hM, pm60o hM, pm60l hM, ne_eq, Nat.not_lt_zero, Nat.zero_le, eq_self, not_true_eq_false, not_false_eq_true, decide_true, decide_false, Bool.not_true, Bool.not_false, Bool.true_and, Bool.false_and, Bool.and_true, Bool.and_false, Bool.or_true, Bool.true_or, Bool.false_or, Bool.or_false, Nat.beq_refl, bind_s, as_I, as_J, as_R, as_V, cnd_t, cnd_f, bz_ret, bzp_0, bzp_1, bzp_z0, bzp_z1, dec_bf, dec_bt, dec_nbf, dec_nbt, Bool.false_eq_true, Bool.true_eq_false, ret_0, ret_1, ret_z0, ret_z1, zi_lit, zi_add, zi_mul, zi_lt, zi_le, zi_eq, zi_sub, hQ1, eq_true h]
  · rw [if_neg h]
    refine ⟨up2 (up2 (up2 mi 115 (qc Q) (zi 0)) 114 50 (zi (qc Q + 1))) 114 60 (bz false), ?_, ⟨?_, fun r hr => ?_, fun r p hr hp => ?_⟩, Or.inl ⟨fun a h => ?_, fun a h => ?_, fun a h h' => ?_, fun a h h' => ?_, fun f h h1 h2 => ?_, ?_⟩⟩
    · rw [b128_0 hG]
      simp (disch := omega) only [gm50 hM, gm51 hM, am115 hM, wm115 hM, pm50 hM, pm60 hM, pm60o hM, pm60l hM, ne_eq, Nat.not_lt_zero, Nat.zero_le, eq_self, not_true_eq_false, not_false_eq_true, decide_true, decide_false, Bool.not_true, Bool.not_false, Bool.true_and, Bool.false_and, Bool.and_true, Bool.and_false, Bool.or_true, Bool.true_or, Bool.false_or, Bool.or_false, Nat.beq_refl, bind_s, as_I, as_J, as_R, as_V, cnd_t, cnd_f, bz_ret, bzp_0, bzp_1, bzp_z0, bzp_z1, dec_bf, dec_bt, dec_nbf, dec_nbt, Bool.false_eq_true, Bool.true_eq_false, ret_0, ret_1, ret_z0, ret_z1, zi_lit, zi_add, zi_mul, zi_lt, zi_le, zi_eq, zi_sub, hQ1, eq_false h, up2_s, up2_n, up1_s, up1_n, Nat.add_sub_cancel]
    · simp (disch := omega) only [up2_s, up1_n, up1_s]
    · simp (disch := omega) only [up2_s, up2_n]
      by_cases e : r = qc Q
      · rw [e, up1_s]; show zi 0 = zi (qn Q (qc Q)); rw [hW.2.2.1 _ (Nat.le_refl _)]
      · rw [up1_n _ _ e]; exact hQ2 r hr
    · simp (disch := omega) only [up2_n]; exact hQ3 r p hr hp
    · simp (disch := omega) only [up2_n]
    · simp (disch := omega) only [up2_n]
    · simp (disch := omega) only [up2_n]
    · simp (disch := omega) only [up2_n]
    · simp (disch := omega) only [up2_s, up2_n, up1_n]
    · simp (disch := omega) only [up2_s, up1_s]
theorem m131 {G : AG} (hG : FIX G) {s : Nat → Nat × Nat} {mr : Nat → Nat → Nat} (hM : MS s mr) {n : Nat × Nat} {ml : Nat → Nat → Int64} {mi : Nat → Nat → Int32} {Q : Pg} (hQ : mdQ Q mi) (hW : WP Q) {x : Nat → Nat} (hx : MX x mi) (a c : Int32) : ∃ mi', G 131 0 [some (.inr (.inr 114)), some (.inl a), some (.inl c)] [] (s, n, mi, ml, mr) = some (some (.inl (opWork Q a c x).1), (s, n, mi', ml, mr)) ∧ mdQ (opWork Q a c x).2 mi' ∧ (MC mi mi' ∨ (mi' = mi ∧ (opWork Q a c x).2 = Q)) := by
  have h8 := hW.1
  rw [b131_0 hG]
  simp (disch := omega) only [b131_32 hG, b131_34 hG, km hM, ne_eq, Nat.not_lt_zero, Nat.zero_le, eq_self, not_true_eq_false, not_false_eq_true, decide_true, decide_false, Bool.not_true, Bool.not_false, Bool.true_and, Bool.false_and, Bool.and_true, Bool.and_false, Bool.or_true, Bool.true_or, Bool.false_or, Bool.or_false, Nat.beq_refl, bind_s, as_I, as_J, as_R, as_V, cnd_t, cnd_f, bz_ret, bzp_0, bzp_1, bzp_z0, bzp_z1, dec_bf, dec_bt, dec_nbf, dec_nbt, Bool.false_eq_true, Bool.true_eq_false, ret_0, ret_1, ret_z0, ret_z1, m132 hG hM hQ hW, m130 hG, zl_lit, in_zl]
  unfold opWork
  cases h1 : isN a (qc Q)
  · simp only [ne_eq, Nat.not_lt_zero, Nat.zero_le, eq_self, not_true_eq_false, not_false_eq_true, decide_true, decide_false, Bool.not_true, Bool.not_false, Bool.true_and, Bool.false_and, Bool.and_true, Bool.and_false, Bool.or_true, Bool.true_or, Bool.false_or, Bool.or_false, Nat.beq_refl, bind_s, as_I, as_J, as_R, as_V, cnd_t, cnd_f, bz_ret, bzp_0, bzp_1, bzp_z0, bzp_z1, dec_bf, dec_bt, dec_nbf, dec_nbt, Bool.false_eq_true, Bool.true_eq_false, ret_0, ret_1, ret_z0, ret_z1]; exact ⟨mi, rfl, hQ, Or.inr ⟨rfl, trivial⟩⟩
  · cases h2 : isB c 1 99
    · simp only [ne_eq, Nat.not_lt_zero, Nat.zero_le, eq_self, not_true_eq_false, not_false_eq_true, decide_true, decide_false, Bool.not_true, Bool.not_false, Bool.true_and, Bool.false_and, Bool.and_true, Bool.and_false, Bool.or_true, Bool.true_or, Bool.false_or, Bool.or_false, Nat.beq_refl, bind_s, as_I, as_J, as_R, as_V, cnd_t, cnd_f, bz_ret, bzp_0, bzp_1, bzp_z0, bzp_z1, dec_bf, dec_bt, dec_nbf, dec_nbt, Bool.false_eq_true, Bool.true_eq_false, ret_0, ret_1, ret_z0, ret_z1]; exact ⟨mi, rfl, hQ, Or.inr ⟨rfl, trivial⟩⟩
    · obtain ⟨r, hr, -, rfl⟩ := isN_t h1
      obtain ⟨w, hw1, hw2, rfl⟩ := isB_t h2 (by decide)
      obtain ⟨mi', e', q1, q2⟩ := m133 hG hM (n := n) (ml := ml) hQ hW hx 1 w 0 (zi w) (-1000000) (r := r) (by omega) (fun _ => rfl) (fun h => by omega)
      simp (disch := omega) only [ne_eq, Nat.not_lt_zero, Nat.zero_le, eq_self, not_true_eq_false, not_false_eq_true, decide_true, decide_false, Bool.not_true, Bool.not_false, Bool.true_and, Bool.false_and, Bool.and_true, Bool.and_false, Bool.or_true, Bool.true_or, Bool.false_or, Bool.or_false, Nat.beq_refl, bind_s, as_I, as_J, as_R, as_V, cnd_t, cnd_f, bz_ret, bzp_0, bzp_1, bzp_z0, bzp_z1, dec_bf, dec_bt, dec_nbf, dec_nbt, Bool.false_eq_true, Bool.true_eq_false, ret_0, ret_1, ret_z0, ret_z1, zi_cl]
      refine ⟨mi', ?_, q1, q2⟩
      rw [show (1 : Int32) = zi 1 from rfl, e']
      simp only [ne_eq, Nat.not_lt_zero, Nat.zero_le, eq_self, not_true_eq_false, not_false_eq_true, decide_true, decide_false, Bool.not_true, Bool.not_false, Bool.true_and, Bool.false_and, Bool.and_true, Bool.and_false, Bool.or_true, Bool.true_or, Bool.false_or, Bool.or_false, Nat.beq_refl, bind_s, as_I, as_J, as_R, as_V, cnd_t, cnd_f, bz_ret, bzp_0, bzp_1, bzp_z0, bzp_z1, dec_bf, dec_bt, dec_nbf, dec_nbt, Bool.false_eq_true, Bool.true_eq_false, ret_0, ret_1, ret_z0, ret_z1, b131_32 hG, b131_34 hG]
theorem m136 {G : AG} (hG : FIX G) {s : Nat → Nat × Nat} {mr : Nat → Nat → Nat} (hM : MS s mr) {n : Nat × Nat} {ml : Nat → Nat → Int64} {mi : Nat → Nat → Int32} {Q : Pg} (hQ : mdQ Q mi) (hW : WP Q) {x : Nat → Nat} (hx : MX x mi) (a c : Int32) : ∃ mi', G 136 0 [some (.inr (.inr 114)), some (.inl a), some (.inl c)] [] (s, n, mi, ml, mr) = some (some (.inl (opCall Q a c x).1), (s, n, mi', ml, mr)) ∧ mdQ (opCall Q a c x).2 mi' ∧ (MC mi mi' ∨ (mi' = mi ∧ (opCall Q a c x).2 = Q)) := by
  have h8 := hW.1
  rw [b136_0 hG]
  simp (disch := omega) only [b136_32 hG, b136_34 hG, km hM, ne_eq, Nat.not_lt_zero, Nat.zero_le, eq_self, not_true_eq_false, not_false_eq_true, decide_true, decide_false, Bool.not_true, Bool.not_false, Bool.true_and, Bool.false_and, Bool.and_true, Bool.and_false, Bool.or_true, Bool.true_or, Bool.false_or, Bool.or_false, Nat.beq_refl, bind_s, as_I, as_J, as_R, as_V, cnd_t, cnd_f, bz_ret, bzp_0, bzp_1, bzp_z0, bzp_z1, dec_bf, dec_bt, dec_nbf, dec_nbt, Bool.false_eq_true, Bool.true_eq_false, ret_0, ret_1, ret_z0, ret_z1, m132 hG hM hQ hW, m130 hG, zl_lit]
  unfold opCall
  cases h1 : isN a (qc Q)
  · simp only [ne_eq, Nat.not_lt_zero, Nat.zero_le, eq_self, not_true_eq_false, not_false_eq_true, decide_true, decide_false, Bool.not_true, Bool.not_false, Bool.true_and, Bool.false_and, Bool.and_true, Bool.and_false, Bool.or_true, Bool.true_or, Bool.false_or, Bool.or_false, Nat.beq_refl, bind_s, as_I, as_J, as_R, as_V, cnd_t, cnd_f, bz_ret, bzp_0, bzp_1, bzp_z0, bzp_z1, dec_bf, dec_bt, dec_nbf, dec_nbt, Bool.false_eq_true, Bool.true_eq_false, ret_0, ret_1, ret_z0, ret_z1]; exact ⟨mi, rfl, hQ, Or.inr ⟨rfl, trivial⟩⟩
  · obtain ⟨r, hr, hr2, rfl⟩ := isN_t h1
    rw [zi_cl hr2, show (1 : Int32) = zi 1 from rfl, in_pred _ hr2]
    cases h2 : isN c r
    · simp only [ne_eq, Nat.not_lt_zero, Nat.zero_le, eq_self, not_true_eq_false, not_false_eq_true, decide_true, decide_false, Bool.not_true, Bool.not_false, Bool.true_and, Bool.false_and, Bool.and_true, Bool.and_false, Bool.or_true, Bool.true_or, Bool.false_or, Bool.or_false, Nat.beq_refl, bind_s, as_I, as_J, as_R, as_V, cnd_t, cnd_f, bz_ret, bzp_0, bzp_1, bzp_z0, bzp_z1, dec_bf, dec_bt, dec_nbf, dec_nbt, Bool.false_eq_true, Bool.true_eq_false, ret_0, ret_1, ret_z0, ret_z1]; exact ⟨mi, rfl, hQ, Or.inr ⟨rfl, trivial⟩⟩
    · obtain ⟨w, hw1, hw2, rfl⟩ := isN_t h2
      obtain ⟨mi', e', q1, q2⟩ := m133 hG hM (n := n) (ml := ml) hQ hW hx 4 0 w 0 (zi w) (r := r) (by omega) (fun h => by omega) (fun _ => rfl)
      simp (disch := omega) only [ne_eq, Nat.not_lt_zero, Nat.zero_le, eq_self, not_true_eq_false, not_false_eq_true, decide_true, decide_false, Bool.not_true, Bool.not_false, Bool.true_and, Bool.false_and, Bool.and_true, Bool.and_false, Bool.or_true, Bool.true_or, Bool.false_or, Bool.or_false, Nat.beq_refl, bind_s, as_I, as_J, as_R, as_V, cnd_t, cnd_f, bz_ret, bzp_0, bzp_1, bzp_z0, bzp_z1, dec_bf, dec_bt, dec_nbf, dec_nbt, Bool.false_eq_true, Bool.true_eq_false, ret_0, ret_1, ret_z0, ret_z1, zi_cl]
      refine ⟨mi', ?_, q1, q2⟩
      rw [show (4 : Int32) = zi 4 from rfl, e']
      simp only [ne_eq, Nat.not_lt_zero, Nat.zero_le, eq_self, not_true_eq_false, not_false_eq_true, decide_true, decide_false, Bool.not_true, Bool.not_false, Bool.true_and, Bool.false_and, Bool.and_true, Bool.and_false, Bool.or_true, Bool.true_or, Bool.false_or, Bool.or_false, Nat.beq_refl, bind_s, as_I, as_J, as_R, as_V, cnd_t, cnd_f, bz_ret, bzp_0, bzp_1, bzp_z0, bzp_z1, dec_bf, dec_bt, dec_nbf, dec_nbt, Bool.false_eq_true, Bool.true_eq_false, ret_0, ret_1, ret_z0, ret_z1, b136_32 hG, b136_34 hG]
theorem m137 {G : AG} (hG : FIX G) {s : Nat → Nat × Nat} {mr : Nat → Nat → Nat} (hM : MS s mr) {n : Nat × Nat} {ml : Nat → Nat → Int64} {mi : Nat → Nat → Int32} {Q : Pg} (hQ : mdQ Q mi) (hW : WP Q) {x : Nat → Nat} (hx : MX x mi) (a : Int32) : ∃ mi', G 137 0 [some (.inr (.inr 114)), some (.inl a)] [] (s, n, mi, ml, mr) = some (some (.inl (opEith Q a x).1), (s, n, mi', ml, mr)) ∧ mdQ (opEith Q a x).2 mi' ∧ (MC mi mi' ∨ (mi' = mi ∧ (opEith Q a x).2 = Q)) := by
  have h8 := hW.1
  rw [b137_0 hG]
  simp (disch := omega) only [b137_22 hG, km hM, ne_eq, Nat.not_lt_zero, Nat.zero_le, eq_self, not_true_eq_false, not_false_eq_true, decide_true, decide_false, Bool.not_true, Bool.not_false, Bool.true_and, Bool.false_and, Bool.and_true, Bool.and_false, Bool.or_true, Bool.true_or, Bool.false_or, Bool.or_false, Nat.beq_refl, bind_s, as_I, as_J, as_R, as_V, cnd_t, cnd_f, bz_ret, bzp_0, bzp_1, bzp_z0, bzp_z1, dec_bf, dec_bt, dec_nbf, dec_nbt, Bool.false_eq_true, Bool.true_eq_false, ret_0, ret_1, ret_z0, ret_z1, m132 hG hM hQ hW]
  unfold opEith
  cases h1 : isN a (qc Q)
  · simp only [ne_eq, Nat.not_lt_zero, Nat.zero_le, eq_self, not_true_eq_false, not_false_eq_true, decide_true, decide_false, Bool.not_true, Bool.not_false, Bool.true_and, Bool.false_and, Bool.and_true, Bool.and_false, Bool.or_true, Bool.true_or, Bool.false_or, Bool.or_false, Nat.beq_refl, bind_s, as_I, as_J, as_R, as_V, cnd_t, cnd_f, bz_ret, bzp_0, bzp_1, bzp_z0, bzp_z1, dec_bf, dec_bt, dec_nbf, dec_nbt, Bool.false_eq_true, Bool.true_eq_false, ret_0, ret_1, ret_z0, ret_z1]; exact ⟨mi, rfl, hQ, Or.inr ⟨rfl, trivial⟩⟩
  · obtain ⟨r, hr, hr2, rfl⟩ := isN_t h1
    obtain ⟨mi', e', q1, q2⟩ := m133 hG hM (n := n) (ml := ml) hQ hW hx 5 0 0 0 (-1000000) (r := r) (by omega) (fun h => by omega) (fun h => by omega)
    simp (disch := omega) only [ne_eq, Nat.not_lt_zero, Nat.zero_le, eq_self, not_true_eq_false, not_false_eq_true, decide_true, decide_false, Bool.not_true, Bool.not_false, Bool.true_and, Bool.false_and, Bool.and_true, Bool.and_false, Bool.or_true, Bool.true_or, Bool.false_or, Bool.or_false, Nat.beq_refl, bind_s, as_I, as_J, as_R, as_V, cnd_t, cnd_f, bz_ret, bzp_0, bzp_1, bzp_z0, bzp_z1, dec_bf, dec_bt, dec_nbf, dec_nbt, Bool.false_eq_true, Bool.true_eq_false, ret_0, ret_1, ret_z0, ret_z1, zi_cl]
    refine ⟨mi', ?_, q1, q2⟩
    rw [show (5 : Int32) = zi 5 from rfl, e']
    simp only [ne_eq, Nat.not_lt_zero, Nat.zero_le, eq_self, not_true_eq_false, not_false_eq_true, decide_true, decide_false, Bool.not_true, Bool.not_false, Bool.true_and, Bool.false_and, Bool.and_true, Bool.and_false, Bool.or_true, Bool.true_or, Bool.false_or, Bool.or_false, Nat.beq_refl, bind_s, as_I, as_J, as_R, as_V, cnd_t, cnd_f, bz_ret, bzp_0, bzp_1, bzp_z0, bzp_z1, dec_bf, dec_bt, dec_nbf, dec_nbt, Bool.false_eq_true, Bool.true_eq_false, ret_0, ret_1, ret_z0, ret_z1, b137_22 hG]
theorem m134 {G : AG} (hG : FIX G) {s : Nat → Nat × Nat} {mr : Nat → Nat → Nat} (hM : MS s mr) {n : Nat × Nat} {ml : Nat → Nat → Int64} {mi : Nat → Nat → Int32} {Q : Pg} (hQ : mdQ Q mi) (hW : WP Q) {x : Nat → Nat} (hx : MX x mi) (a : Int32) : ∃ mi', G 134 0 [some (.inr (.inr 114)), some (.inl a)] [] (s, n, mi, ml, mr) = some (some (.inl (opLoop Q a x).1), (s, n, mi', ml, mr)) ∧ mdQ (opLoop Q a x).2 mi' ∧ (MC mi mi' ∨ (MK mi mi' ∧ (opLoop Q a x).2 = Q)) := by
  have h8 := hW.1
  rw [b134_0 hG]
  simp (disch := omega) only [b134_44 hG, gm51 hM, am115 hM, wm115 hM, gm66 hM, km hM, ne_eq, Nat.not_lt_zero, Nat.zero_le, eq_self, not_true_eq_false, not_false_eq_true, decide_true, decide_false, Bool.not_true, Bool.not_false, Bool.true_and, Bool.false_and, Bool.and_true, Bool.and_false, Bool.or_true, Bool.true_or, Bool.false_or, Bool.or_false, Nat.beq_refl, bind_s, as_I, as_J, as_R, as_V, cnd_t, cnd_f, bz_ret, bzp_0, bzp_1, bzp_z0, bzp_z1, dec_bf, dec_bt, dec_nbf, dec_nbt, Bool.false_eq_true, Bool.true_eq_false, ret_0, ret_1, ret_z0, ret_z1, m132 hG hM hQ hW]
  unfold opLoop
  cases h1 : isN a (qc Q)
  · simp only [ne_eq, Nat.not_lt_zero, Nat.zero_le, eq_self, not_true_eq_false, not_false_eq_true, decide_true, decide_false, Bool.not_true, Bool.not_false, Bool.true_and, Bool.false_and, Bool.and_true, Bool.and_false, Bool.or_true, Bool.true_or, Bool.false_or, Bool.or_false, Nat.beq_refl, bind_s, as_I, as_J, as_R, as_V, cnd_t, cnd_f, bz_ret, bzp_0, bzp_1, bzp_z0, bzp_z1, dec_bf, dec_bt, dec_nbf, dec_nbt, Bool.false_eq_true, Bool.true_eq_false, ret_0, ret_1, ret_z0, ret_z1]; exact ⟨mi, rfl, hQ, Or.inr ⟨MK_refl _, trivial⟩⟩
  · obtain ⟨r, hr, hr2, rfl⟩ := isN_t h1
    have h24 := hW.2.1 r
    obtain ⟨m1, e1, -, k66, -, kk⟩ := m135 hG hM (n := n) (ml := ml) (r := r) (u := qn Q r) (by omega) h24 (hW.2.2.2.1 r) (mi := mi) (fun p hp => (hQ.2.2 r p (by omega) hp).1)
    have hl := Nat.le_trans (lps_len (stk (qk Q r) (qn Q r))) (stk_len _ _)
    simp (disch := omega) only [b134_44 hG, gm51 hM, am115 hM, wm115 hM, gm66 hM, km hM, ne_eq, Nat.not_lt_zero, Nat.zero_le, eq_self, not_true_eq_false, not_false_eq_true, decide_true, decide_false, Bool.not_true, Bool.not_false, Bool.true_and, Bool.false_and, Bool.and_true, Bool.and_false, Bool.or_true, Bool.true_or, Bool.false_or, Bool.or_false, Nat.beq_refl, bind_s, as_I, as_J, as_R, as_V, cnd_t, cnd_f, bz_ret, bzp_0, bzp_1, bzp_z0, bzp_z1, dec_bf, dec_bt, dec_nbf, dec_nbt, Bool.false_eq_true, Bool.true_eq_false, ret_0, ret_1, ret_z0, ret_z1, zi_cl, hQ.2.1 r (by omega), e1, k66]
    by_cases h3 : lps (stk (qk Q r) (qn Q r)) = 3
    · refine ⟨m1, ?_, ?_, Or.inr ⟨kk, ?_⟩⟩
      · simp (disch := omega) only [ne_eq, Nat.not_lt_zero, Nat.zero_le, eq_self, not_true_eq_false, not_false_eq_true, decide_true, decide_false, Bool.not_true, Bool.not_false, Bool.true_and, Bool.false_and, Bool.and_true, Bool.and_false, Bool.or_true, Bool.true_or, Bool.false_or, Bool.or_false, Nat.beq_refl, bind_s, as_I, as_J, as_R, as_V, cnd_t, cnd_f, bz_ret, bzp_0, bzp_1, bzp_z0, bzp_z1, dec_bf, dec_bt, dec_nbf, dec_nbt, Bool.false_eq_true, Bool.true_eq_false, ret_0, ret_1, ret_z0, ret_z1, zi_lit, zi_add, zi_mul, zi_lt, zi_le, zi_eq, zi_sub, eq_true h3, b134_44 hG, if_true]
      · rw [if_pos h3]; exact mdQ_MK hQ kk
      · rw [if_pos h3]
    · obtain ⟨mi', e', q1, q2⟩ := m133 hG hM (n := n) (ml := ml) (mdQ_MK hQ kk) hW (fun q hq => by rw [kk.2.2.1 120 (by decide) (by decide)]; exact hx q hq) 3 0 0 0 (-1000000) (r := r) (by omega) (fun h => by omega) (fun h => by omega)
      rw [if_neg h3]
      refine ⟨mi', ?_, q1, ?_⟩
      · rw [show (3 : Int32) = zi 3 from rfl, e']
        simp (disch := omega) only [ne_eq, Nat.not_lt_zero, Nat.zero_le, eq_self, not_true_eq_false, not_false_eq_true, decide_true, decide_false, Bool.not_true, Bool.not_false, Bool.true_and, Bool.false_and, Bool.and_true, Bool.and_false, Bool.or_true, Bool.true_or, Bool.false_or, Bool.or_false, Nat.beq_refl, bind_s, as_I, as_J, as_R, as_V, cnd_t, cnd_f, bz_ret, bzp_0, bzp_1, bzp_z0, bzp_z1, dec_bf, dec_bt, dec_nbf, dec_nbt, Bool.false_eq_true, Bool.true_eq_false, ret_0, ret_1, ret_z0, ret_z1, b134_44 hG, zi_lit, zi_add, zi_mul, zi_lt, zi_le, zi_eq, zi_sub, eq_false h3]
      · rcases q2 with q | ⟨q, q'⟩
        · exact Or.inl (MC_MK kk q)
        · exact Or.inr ⟨by rw [q]; exact kk, q'⟩
theorem m139 {G : AG} (hG : FIX G) {s : Nat → Nat × Nat} {mr : Nat → Nat → Nat} (hM : MS s mr) {n : Nat × Nat} {ml : Nat → Nat → Int64} {mi : Nat → Nat → Int32} {Q : Pg} (hQ : mdQ Q mi) (hW : WP Q) (a : Int32) : ∃ mi', G 139 0 [some (.inr (.inr 114)), some (.inl a)] [] (s, n, mi, ml, mr) = some (some (.inl (opBack Q a).1), (s, n, mi', ml, mr)) ∧ mdQ (opBack Q a).2 mi' ∧ (MC mi mi' ∨ (mi' = mi ∧ (opBack Q a).2 = Q)) := by
  have h8 := hW.1
  rw [b139_0 hG]
  simp (disch := omega) only [gm51 hM, am115 hM, wm115 hM, pm60 hM, pm60o hM, pm60l hM, km hM, ne_eq, Nat.not_lt_zero, Nat.zero_le, eq_self, not_true_eq_false, not_false_eq_true, decide_true, decide_false, Bool.not_true, Bool.not_false, Bool.true_and, Bool.false_and, Bool.and_true, Bool.and_false, Bool.or_true, Bool.true_or, Bool.false_or, Bool.or_false, Nat.beq_refl, bind_s, as_I, as_J, as_R, as_V, cnd_t, cnd_f, bz_ret, bzp_0, bzp_1, bzp_z0, bzp_z1, dec_bf, dec_bt, dec_nbf, dec_nbt, Bool.false_eq_true, Bool.true_eq_false, ret_0, ret_1, ret_z0, ret_z1, m132 hG hM hQ hW]
  unfold opBack
  cases h1 : isN a (qc Q)
  · simp only [ne_eq, Nat.not_lt_zero, Nat.zero_le, eq_self, not_true_eq_false, not_false_eq_true, decide_true, decide_false, Bool.not_true, Bool.not_false, Bool.true_and, Bool.false_and, Bool.and_true, Bool.and_false, Bool.or_true, Bool.true_or, Bool.false_or, Bool.or_false, Nat.beq_refl, bind_s, as_I, as_J, as_R, as_V, cnd_t, cnd_f, bz_ret, bzp_0, bzp_1, bzp_z0, bzp_z1, dec_bf, dec_bt, dec_nbf, dec_nbt, Bool.false_eq_true, Bool.true_eq_false, ret_0, ret_1, ret_z0, ret_z1]; exact ⟨mi, rfl, hQ, Or.inr ⟨rfl, trivial⟩⟩
  · obtain ⟨r, hr, hr2, rfl⟩ := isN_t h1
    have h24 := hW.2.1 r
    obtain ⟨hQ1, hQ2, hQ3⟩ := hQ
    by_cases h3 : qn Q r = 0
    · refine ⟨mi, ?_, ?_, Or.inr ⟨rfl, ?_⟩⟩
      · simp (disch := omega) only [gm51 hM, am115 hM, wm115 hM, pm60 hM, pm60o hM, pm60l hM, km hM, ne_eq, Nat.not_lt_zero, Nat.zero_le, eq_self, not_true_eq_false, not_false_eq_true, decide_true, decide_false, Bool.not_true, Bool.not_false, Bool.true_and, Bool.false_and, Bool.and_true, Bool.and_false, Bool.or_true, Bool.true_or, Bool.false_or, Bool.or_false, Nat.beq_refl, bind_s, as_I, as_J, as_R, as_V, cnd_t, cnd_f, bz_ret, bzp_0, bzp_1, bzp_z0, bzp_z1, dec_bf, dec_bt, dec_nbf, dec_nbt, Bool.false_eq_true, Bool.true_eq_false, ret_0, ret_1, ret_z0, ret_z1, zi_lit, zi_add, zi_mul, zi_lt, zi_le, zi_eq, zi_sub, zi_cl, hQ2 r (by omega), eq_true h3, if_true]
      · simp (disch := omega) only [ne_eq, Nat.not_lt_zero, Nat.zero_le, eq_self, not_true_eq_false, not_false_eq_true, decide_true, decide_false, Bool.not_true, Bool.not_false, Bool.true_and, Bool.false_and, Bool.and_true, Bool.and_false, Bool.or_true, Bool.true_or, Bool.false_or, Bool.or_false, Nat.beq_refl, bind_s, as_I, as_J, as_R, as_V, cnd_t, cnd_f, bz_ret, bzp_0, bzp_1, bzp_z0, bzp_z1, dec_bf, dec_bt, dec_nbf, dec_nbt, Bool.false_eq_true, Bool.true_eq_false, ret_0, ret_1, ret_z0, ret_z1, zi_cl]; rw [if_pos h3]; exact ⟨hQ1, hQ2, hQ3⟩
      · simp (disch := omega) only [ne_eq, Nat.not_lt_zero, Nat.zero_le, eq_self, not_true_eq_false, not_false_eq_true, decide_true, decide_false, Bool.not_true, Bool.not_false, Bool.true_and, Bool.false_and, Bool.and_true, Bool.and_false, Bool.or_true, Bool.true_or, Bool.false_or, Bool.or_false, Nat.beq_refl, bind_s, as_I, as_J, as_R, as_V, cnd_t, cnd_f, bz_ret, bzp_0, bzp_1, bzp_z0, bzp_z1, dec_bf, dec_bt, dec_nbf, dec_nbt, Bool.false_eq_true, Bool.true_eq_false, ret_0, ret_1, ret_z0, ret_z1, zi_cl]; rw [if_pos h3]
    · simp (disch := omega) only [ne_eq, Nat.not_lt_zero, Nat.zero_le, eq_self, not_true_eq_false, not_false_eq_true, decide_true, decide_false, Bool.not_true, Bool.not_false, Bool.true_and, Bool.false_and, Bool.and_true, Bool.and_false, Bool.or_true, Bool.true_or, Bool.false_or, Bool.or_false, Nat.beq_refl, bind_s, as_I, as_J, as_R, as_V, cnd_t, cnd_f, bz_ret, bzp_0, bzp_1, bzp_z0, bzp_z1, dec_bf, dec_bt, dec_nbf, dec_nbt, Bool.false_eq_true, Bool.true_eq_false, ret_0, ret_1, ret_z0, ret_z1, zi_cl]
      rw [if_neg h3]
      refine ⟨up2 (up2 mi 115 r (zi (qn Q r - 1))) 114 60 (bz false), ?_, ⟨?_, fun b hb => ?_, fun b p hb hp => ?_⟩, Or.inl ⟨fun a h => ?_, fun a h => ?_, fun a h h' => ?_, fun a h h' => ?_, fun f h h1 h2 => ?_, ?_⟩⟩
      · simp (disch := omega) only [gm51 hM, am115 hM, wm115 hM, pm60 hM, pm60o hM, pm60l hM, km hM, ne_eq, Nat.not_lt_zero, Nat.zero_le, eq_self, not_true_eq_false, not_false_eq_true, decide_true, decide_false, Bool.not_true, Bool.not_false, Bool.true_and, Bool.false_and, Bool.and_true, Bool.and_false, Bool.or_true, Bool.true_or, Bool.false_or, Bool.or_false, Nat.beq_refl, bind_s, as_I, as_J, as_R, as_V, cnd_t, cnd_f, bz_ret, bzp_0, bzp_1, bzp_z0, bzp_z1, dec_bf, dec_bt, dec_nbf, dec_nbt, Bool.false_eq_true, Bool.true_eq_false, ret_0, ret_1, ret_z0, ret_z1, zi_lit, zi_add, zi_mul, zi_lt, zi_le, zi_eq, zi_sub, zi_cl, hQ2 r (by omega), eq_false h3, up2_s, up2_n, up1_s]
      · simp (disch := omega) only [up2_s, up2_n, up1_n]; exact hQ1
      · simp (disch := omega) only [up2_s, up2_n]
        show up1 (mi 115) r (zi (qn Q r - 1)) b = zi (up1 (qn Q) r (qn Q r - 1) b)
        by_cases e : b = r
        · rw [e, up1_s, up1_s]
        · rw [up1_n _ _ e, up1_n _ _ e]; exact hQ2 b hb
      · have hp' : p < qn Q b := by
          have hp2 : p < up1 (qn Q) r (qn Q r - 1) b := hp
          by_cases e : b = r
          · rw [e, up1_s] at hp2; rw [e]; omega
          · rw [up1_n _ _ e] at hp2; exact hp2
        simp (disch := omega) only [up2_n]; exact hQ3 b p hb hp'
      · simp (disch := omega) only [up2_n]
      · simp (disch := omega) only [up2_n]
      · simp (disch := omega) only [up2_n]
      · simp (disch := omega) only [up2_n]
      · simp (disch := omega) only [up2_s, up2_n, up1_n]
      · simp (disch := omega) only [up2_s, up1_s]