/-! the model's rows of polynomials -/
def smT : List Int32 := [0, 60, 0, 0, 0, 0, 0, 30, 30, 0, 0, 0, 0, 10, 30, 20, 0, 0, 0, 0, 15, 30, 15, 0, 0, -2, 0, 20, 30, 12]
def MTab (mi : Nat → Nat → Int32) : Prop := (∀ k v, k < 252 → v < 5 → mi 122 (5 * k + v) = zi (cd k / 6 ^ v % 6)) ∧ (∀ c, c < 7776 → mi 123 c = if degc c < 6 then zi (rk c) else -zi 1) ∧ (∀ i, i < 30 → mi 132 i = smT.getD i 0)
def MPo (i : Nat) (P : Po) (ml : Nat → Nat → Int64) : Prop := ∀ k, k < 252 → ml 126 (252 * i + k) = P (cd k)
/-- no row but those from i to under j has changed -/
def RF (i j : Nat) (ml ml' : Nat → Nat → Int64) : Prop := (∀ x, x < 252 * i ∨ 252 * j ≤ x → ml' 126 x = ml 126 x) ∧ ∀ a, a ≠ 126 → ml' a = ml a
theorem RF_refl (i j ml) : RF i j ml ml := ⟨fun _ _ => rfl, fun _ _ => rfl⟩
theorem RF_trans {i j a b c} (h : RF i j a b) (h' : RF i j b c) : RF i j a c := ⟨fun x hx => (h'.1 x hx).trans (h.1 x hx), fun x hx => (h'.2 x hx).trans (h.2 x hx)⟩
theorem RF_mono {i j i' j' a b} (h : RF i j a b) (h1 : i' ≤ i) (h2 : j ≤ j') : RF i' j' a b := ⟨fun x hx => h.1 x (by omega), h.2⟩
theorem RF_up {i j x : Nat} {v : Int64} {ml : Nat → Nat → Int64} (h1 : 252 * i ≤ x) (h2 : x < 252 * j) : RF i j ml (up2 ml 126 x v) := ⟨fun y hy => by rw [up2_s, up1_n _ _ (by omega)], fun a ha => up2_n _ _ ha⟩
theorem MPo_RF {i j u : Nat} {P : Po} {a b} (h : MPo u P a) (hf : RF i j a b) (hu : u < i ∨ j ≤ u) : MPo u P b := fun k hk => by rw [hf.1 _ (by omega)]; exact h k hk
theorem MPo_congr {u : Nat} {P R : Po} {a} (h : MPo u P a) (e : peq P R) : MPo u R a := fun k hk => (h k hk).trans (e _ (rk_cd hk).1)
def inr (x : Int64) : Bool := decide (-8640000000 ≤ x) && decide (x ≤ 8640000000)
def gdn (P : Po) : Nat → Bool
  | 0 => true
  | k + 1 => gdn P k && inr (P (cd k))
theorem gdn_congr {P R : Po} (h : peq P R) : ∀ {n : Nat}, n ≤ 252 → gdn P n = gdn R n
  | 0, _ => rfl
  | n + 1, hn => by
    unfold gdn
    rw [gdn_congr h (by omega), h _ (rk_cd (by omega)).1]
theorem cd_sum {c : Nat} (h : c < 7776) : 6 * (6 * (6 * (6 * (6 * 0 + c / 6 ^ 4 % 6) + c / 6 ^ 3 % 6) + c / 6 ^ 2 % 6) + c / 6 ^ 1 % 6) + c / 6 ^ 0 % 6 = c := by
  have e4 : c / 6 ^ 4 % 6 = c / 6 / 6 / 6 / 6 := by show c / 1296 % 6 = _; rw [← dv1296]; omega
  have e3 : c / 6 ^ 3 = c / 6 / 6 / 6 := dv216 c
  have e2 : c / 6 ^ 2 = c / 6 / 6 := dv36 c
  have e1 : c / 6 ^ 1 = c / 6 := rfl
  have e0 : c / 6 ^ 0 = c := Nat.div_one c
  rw [e4, e3, e2, e1, e0]
  omega
theorem m160 {G : AG} (hG : FIX G) {s : Nat → Nat × Nat} {mr : Nat → Nat → Nat} (hM : MS s mr) {n : Nat × Nat} {mi : Nat → Nat → Int32} {ml : Nat → Nat → Int64} (hT : MTab mi) {k : Nat} (hk : k < 252) : G 160 0 [some (.inr (.inr 114)), some (.inl (zi k)), none, none] [] (s, n, mi, ml, mr) = some (some (.inl (zi (cd k))), (s, n, mi, ml, mr)) := by
  have st : ∀ x v, v < 5 → G 160 4 [some (.inr (.inr 114)), some (.inl (zi k)), some (.inl (zi x)), some (.inl (zi v))] [] (s, n, mi, ml, mr) = G 160 4 [some (.inr (.inr 114)), some (.inl (zi k)), some (.inl (zi (6 * x + cd k / 6 ^ v % 6))), some (.inl (zi v + -zi 1))] [] (s, n, mi, ml, mr) := by
    intro x v hv
    rw [b160_4 hG]
    simp (disch := omega) only [gm61 hM, am122 hM, wm122 hM, ne_eq, Nat.not_lt_zero, Nat.zero_le, eq_self, not_true_eq_false, not_false_eq_true, decide_true, decide_false, Bool.not_true, Bool.not_false, Bool.true_and, Bool.false_and, Bool.and_true, Bool.and_false, Bool.or_true, Bool.true_or, Bool.false_or, Bool.or_false, Nat.beq_refl, bind_s, as_I, as_J, as_R, as_V, cnd_t, cnd_f, bz_ret, bzp_0, bzp_1, bzp_z0, bzp_z1, dec_bf, dec_bt, dec_nbf, dec_nbt, Bool.false_eq_true, Bool.true_eq_false, ret_0, ret_1, ret_z0, ret_z1, zi_lit, zi_add, zi_mul, zi_lt, zi_le, zi_eq, zi_sub, hT.1 k v hk hv]
  have d : ∀ v, zi (v + 1) + -zi 1 = zi v := zi_dec
  have e0 : decide (zi 0 + -zi 1 < 0) = true := by decide
  rw [b160_0 hG]
  show G 160 4 [some (.inr (.inr 114)), some (.inl (zi k)), some (.inl (zi 0)), some (.inl (zi 4))] [] (s, n, mi, ml, mr) = _
  rw [st 0 4 (by decide), d 3, st _ 3 (by decide), d 2, st _ 2 (by decide), d 1, st _ 1 (by decide), d 0, st _ 0 (by decide), b160_4 hG, e0, cnd_t, cd_sum (rk_cd hk).1.1]
theorem m162 {G : AG} (hG : FIX G) {s : Nat → Nat × Nat} {mr : Nat → Nat → Nat} (hM : MS s mr) {n : Nat × Nat} {mi : Nat → Nat → Int32} {ml : Nat → Nat → Int64} (hT : MTab mi) {k : Nat} (hk : k < 252) : G 162 0 [some (.inr (.inr 114)), some (.inl (zi k)), none, none] [] (s, n, mi, ml, mr) = some (some (.inl (zi (degc (cd k)))), (s, n, mi, ml, mr)) := by
  have st : ∀ x v, v < 5 → G 162 4 [some (.inr (.inr 114)), some (.inl (zi k)), some (.inl (zi x)), some (.inl (zi v))] [] (s, n, mi, ml, mr) = G 162 4 [some (.inr (.inr 114)), some (.inl (zi k)), some (.inl (zi (x + cd k / 6 ^ v % 6))), some (.inl (zi (v + 1)))] [] (s, n, mi, ml, mr) := by
    intro x v hv
    rw [b162_4 hG]
    simp (disch := omega) only [gm61 hM, am122 hM, wm122 hM, ne_eq, Nat.not_lt_zero, Nat.zero_le, eq_self, not_true_eq_false, not_false_eq_true, decide_true, decide_false, Bool.not_true, Bool.not_false, Bool.true_and, Bool.false_and, Bool.and_true, Bool.and_false, Bool.or_true, Bool.true_or, Bool.false_or, Bool.or_false, Nat.beq_refl, bind_s, as_I, as_J, as_R, as_V, cnd_t, cnd_f, bz_ret, bzp_0, bzp_1, bzp_z0, bzp_z1, dec_bf, dec_bt, dec_nbf, dec_nbt, Bool.false_eq_true, Bool.true_eq_false, ret_0, ret_1, ret_z0, ret_z1, zi_lit, zi_add, zi_mul, zi_lt, zi_le, zi_eq, zi_sub, hT.1 k v hk hv, eq_false (by omega : ¬ 5 ≤ v)]
  have e0 : decide ((5 : Int32) ≤ zi (4 + 1)) = true := by decide
  rw [b162_0 hG]
  show G 162 4 [some (.inr (.inr 114)), some (.inl (zi k)), some (.inl (zi 0)), some (.inl (zi 0))] [] (s, n, mi, ml, mr) = _
  rw [st 0 0 (by decide), st _ (0 + 1) (by decide), st _ (0 + 1 + 1) (by decide), st _ (0 + 1 + 1 + 1) (by decide), st _ (0 + 1 + 1 + 1 + 1) (by decide), b162_4 hG]
  rw [show decide ((5 : Int32) ≤ zi (0 + 1 + 1 + 1 + 1 + 1)) = true from by decide, cnd_t]
  have e : 0 + cd k / 6 ^ 0 % 6 + cd k / 6 ^ (0 + 1) % 6 + cd k / 6 ^ (0 + 1 + 1) % 6 + cd k / 6 ^ (0 + 1 + 1 + 1) % 6 + cd k / 6 ^ (0 + 1 + 1 + 1 + 1) % 6 = degc (cd k) := by
    show 0 + cd k / 1 % 6 + cd k / 6 % 6 + cd k / 36 % 6 + cd k / 216 % 6 + cd k / 1296 % 6 = _
    rw [Nat.div_one, Nat.zero_add]; rfl
  rw [e]
theorem m155L {G : AG} (hG : FIX G) {s : Nat → Nat × Nat} {mr : Nat → Nat → Nat} (hM : MS s mr) {n : Nat × Nat} {mi : Nat → Nat → Int32} {i : Nat} (hi : i < 70) : ∀ (d k : Nat) (ml : Nat → Nat → Int64), k + d = 252 → ∃ ml', G 155 2 [some (.inr (.inr 114)), some (.inl (zi i)), some (.inl (zi k))] [] (s, n, mi, ml, mr) = some (none, (s, n, mi, ml', mr)) ∧ (∀ x, k ≤ x → x < 252 → ml' 126 (252 * i + x) = 0) ∧ (∀ x, x < 252 * i + k ∨ 252 * i + 252 ≤ x → ml' 126 x = ml 126 x) ∧ (∀ a, a ≠ 126 → ml' a = ml a)
  | 0, k, ml, hk => by
    have e : k = 252 := by omega
    subst e
    refine ⟨ml, ?_, fun x h1 h2 => by omega, fun _ _ => rfl, fun _ _ => rfl⟩
    rw [b155_2 hG]
    simp (disch := omega) only [ne_eq, Nat.not_lt_zero, Nat.zero_le, eq_self, not_true_eq_false, not_false_eq_true, decide_true, decide_false, Bool.not_true, Bool.not_false, Bool.true_and, Bool.false_and, Bool.and_true, Bool.and_false, Bool.or_true, Bool.true_or, Bool.false_or, Bool.or_false, Nat.beq_refl, bind_s, as_I, as_J, as_R, as_V, cnd_t, cnd_f, bz_ret, bzp_0, bzp_1, bzp_z0, bzp_z1, dec_bf, dec_bt, dec_nbf, dec_nbt, Bool.false_eq_true, Bool.true_eq_false, ret_0, ret_1, ret_z0, ret_z1, zi_lit, zi_add, zi_mul, zi_lt, zi_le, zi_eq, zi_sub, Nat.le_refl]
  | d + 1, k, ml, hk => by
    obtain ⟨ml', e', r1, r2, r3⟩ := m155L hG hM (s := s) (mr := mr) (n := n) (mi := mi) hi d (k + 1) (up2 ml 126 (252 * i + k) 0) (by omega)
    refine ⟨ml', ?_, fun x h1 h2 => ?_, fun x hx => ?_, fun a ha => ?_⟩
    · rw [b155_2 hG]
      simp (disch := omega) only [gm67 hM, am126 hM, wm126 hM, ne_eq, Nat.not_lt_zero, Nat.zero_le, eq_self, not_true_eq_false, not_false_eq_true, decide_true, decide_false, Bool.not_true, Bool.not_false, Bool.true_and, Bool.false_and, Bool.and_true, Bool.and_false, Bool.or_true, Bool.true_or, Bool.false_or, Bool.or_false, Nat.beq_refl, bind_s, as_I, as_J, as_R, as_V, cnd_t, cnd_f, bz_ret, bzp_0, bzp_1, bzp_z0, bzp_z1, dec_bf, dec_bt, dec_nbf, dec_nbt, Bool.false_eq_true, Bool.true_eq_false, ret_0, ret_1, ret_z0, ret_z1, zi_lit, zi_add, zi_mul, zi_lt, zi_le, zi_eq, zi_sub, eq_false (by omega : ¬ 252 ≤ k)]
      exact e'
    · by_cases e : x = k
      · rw [r2 _ (by omega), e, up2_s, up1_s]
      · exact r1 x (by omega) h2
    · rw [r2 x (by omega), up2_s, up1_n _ _ (by omega)]
    · rw [r3 a ha, up2_n _ _ ha]
theorem m155 {G : AG} (hG : FIX G) {s : Nat → Nat × Nat} {mr : Nat → Nat → Nat} (hM : MS s mr) {n : Nat × Nat} {mi : Nat → Nat → Int32} {ml : Nat → Nat → Int64} {i : Nat} (hi : i < 70) : ∃ ml', G 155 0 [some (.inr (.inr 114)), some (.inl (zi i)), none] [] (s, n, mi, ml, mr) = some (none, (s, n, mi, ml', mr)) ∧ MPo i (fun _ => 0) ml' ∧ RF i (i + 1) ml ml' := by
  obtain ⟨ml', e', r1, r2, r3⟩ := m155L hG hM (n := n) (mi := mi) hi 252 0 ml (by omega)
  refine ⟨ml', ?_, fun k hk => r1 k (Nat.zero_le _) hk, fun x hx => r2 x (by omega), r3⟩
  rw [b155_0 hG]
  exact e'
theorem m157L {G : AG} (hG : FIX G) {s : Nat → Nat × Nat} {mr : Nat → Nat → Nat} (hM : MS s mr) {n : Nat × Nat} {mi : Nat → Nat → Int32} {ml : Nat → Nat → Int64} {i : Nat} {P : Po} (hi : i < 70) (hP : MPo i P ml) : ∀ (d k : Nat), k + d = 252 → G 157 4 [some (.inr (.inr 114)), some (.inl (zi i)), some (.inl (bz (gdn P k))), some (.inl (zi k))] [] (s, n, mi, ml, mr) = some (some (.inl (bz (gdn P 252))), (s, n, mi, ml, mr))
  | 0, k, hk => by
    have e : k = 252 := by omega
    subst e
    rw [b157_4 hG]
    simp (disch := omega) only [ne_eq, Nat.not_lt_zero, Nat.zero_le, eq_self, not_true_eq_false, not_false_eq_true, decide_true, decide_false, Bool.not_true, Bool.not_false, Bool.true_and, Bool.false_and, Bool.and_true, Bool.and_false, Bool.or_true, Bool.true_or, Bool.false_or, Bool.or_false, Nat.beq_refl, bind_s, as_I, as_J, as_R, as_V, cnd_t, cnd_f, bz_ret, bzp_0, bzp_1, bzp_z0, bzp_z1, dec_bf, dec_bt, dec_nbf, dec_nbt, Bool.false_eq_true, Bool.true_eq_false, ret_0, ret_1, ret_z0, ret_z1, zi_lit, zi_add, zi_mul, zi_lt, zi_le, zi_eq, zi_sub, Nat.le_refl]
  | d + 1, k, hk => by
    have ih := m157L hG hM (s := s) (mr := mr) (n := n) (mi := mi) (ml := ml) hi hP d (k + 1) (by omega)
    unfold gdn at ih
    rw [b157_4 hG]
    cases hg : gdn P k
    · rw [hg] at ih
      simp (disch := omega) only [b157_43 hG, b157_44 hG, gm67 hM, am126 hM, wm126 hM, ne_eq, Nat.not_lt_zero, Nat.zero_le, eq_self, not_true_eq_false, not_false_eq_true, decide_true, decide_false, Bool.not_true, Bool.not_false, Bool.true_and, Bool.false_and, Bool.and_true, Bool.and_false, Bool.or_true, Bool.true_or, Bool.false_or, Bool.or_false, Nat.beq_refl, bind_s, as_I, as_J, as_R, as_V, cnd_t, cnd_f, bz_ret, bzp_0, bzp_1, bzp_z0, bzp_z1, dec_bf, dec_bt, dec_nbf, dec_nbt, Bool.false_eq_true, Bool.true_eq_false, ret_0, ret_1, ret_z0, ret_z1, zi_lit, zi_add, zi_mul, zi_lt, zi_le, zi_eq, zi_sub, eq_false (by omega : ¬ 252 ≤ k)]
      exact ih
    · rw [hg] at ih
      have e1 : (decide (-8640000000 ≤ P (cd k)) && decide (P (cd k) ≤ 8640000000)) = inr (P (cd k)) := rfl
      simp (disch := omega) only [b157_43 hG, b157_44 hG, gm67 hM, am126 hM, wm126 hM, ne_eq, Nat.not_lt_zero, Nat.zero_le, eq_self, not_true_eq_false, not_false_eq_true, decide_true, decide_false, Bool.not_true, Bool.not_false, Bool.true_and, Bool.false_and, Bool.and_true, Bool.and_false, Bool.or_true, Bool.true_or, Bool.false_or, Bool.or_false, Nat.beq_refl, bind_s, as_I, as_J, as_R, as_V, cnd_t, cnd_f, bz_ret, bzp_0, bzp_1, bzp_z0, bzp_z1, dec_bf, dec_bt, dec_nbf, dec_nbt, Bool.false_eq_true, Bool.true_eq_false, ret_0, ret_1, ret_z0, ret_z1, zi_lit, zi_add, zi_mul, zi_lt, zi_le, zi_eq, zi_sub, eq_false (by omega : ¬ 252 ≤ k), hP k (by omega), m130 hG, e1]
      cases hn : inr (P (cd k))
      · rw [hn] at ih
        simp (disch := omega) only [b157_43 hG, b157_44 hG, gm67 hM, am126 hM, wm126 hM, ne_eq, Nat.not_lt_zero, Nat.zero_le, eq_self, not_true_eq_false, not_false_eq_true, decide_true, decide_false, Bool.not_true, Bool.not_false, Bool.true_and, Bool.false_and, Bool.and_true, Bool.and_false, Bool.or_true, Bool.true_or, Bool.false_or, Bool.or_false, Nat.beq_refl, bind_s, as_I, as_J, as_R, as_V, cnd_t, cnd_f, bz_ret, bzp_0, bzp_1, bzp_z0, bzp_z1, dec_bf, dec_bt, dec_nbf, dec_nbt, Bool.false_eq_true, Bool.true_eq_false, ret_0, ret_1, ret_z0, ret_z1, zi_lit, zi_add, zi_mul, zi_lt, zi_le, zi_eq, zi_sub]
        exact ih
      · rw [hn] at ih
        simp (disch := omega) only [b157_43 hG, b157_44 hG, gm67 hM, am126 hM, wm126 hM, ne_eq, Nat.not_lt_zero, Nat.zero_le, eq_self, not_true_eq_false, not_false_eq_true, decide_true, decide_false, Bool.not_true, Bool.not_false, Bool.true_and, Bool.false_and, Bool.and_true, Bool.and_false, Bool.or_true, Bool.true_or, Bool.false_or, Bool.or_false, Nat.beq_refl, bind_s, as_I, as_J, as_R, as_V, cnd_t, cnd_f, bz_ret, bzp_0, bzp_1, bzp_z0, bzp_z1, dec_bf, dec_bt, dec_nbf, dec_nbt, Bool.false_eq_true, Bool.true_eq_false, ret_0, ret_1, ret_z0, ret_z1, zi_lit, zi_add, zi_mul, zi_lt, zi_le, zi_eq, zi_sub]
        exact ih
theorem m157 {G : AG} (hG : FIX G) {s : Nat → Nat × Nat} {mr : Nat → Nat → Nat} (hM : MS s mr) {n : Nat × Nat} {mi : Nat → Nat → Int32} {ml : Nat → Nat → Int64} {i : Nat} {P : Po} (hi : i < 70) (hP : MPo i P ml) : G 157 0 [some (.inr (.inr 114)), some (.inl (zi i)), none, none] [] (s, n, mi, ml, mr) = some (some (.inl (bz (gdn P 252))), (s, n, mi, ml, mr)) := by
  rw [b157_0 hG]
  exact m157L hG hM hi hP 252 0 (by omega)
theorem m156L {G : AG} (hG : FIX G) {s : Nat → Nat × Nat} {mr : Nat → Nat → Nat} (hM : MS s mr) {n : Nat × Nat} {mi : Nat → Nat → Int32} {i o : Nat} {P R : Po} (hi : i < 70) (ho : o < 70) (hne : i ≠ o) : ∀ (d k : Nat) (ml : Nat → Nat → Int64), k + d = 252 → (∀ x, x < 252 → ml 126 (252 * i + x) = if x < k then P (cd x) + R (cd x) else P (cd x)) → MPo o R ml →
    ∃ ml', G 156 12 [some (.inr (.inr 114)), some (.inl (zi i)), some (.inl (zi o)), some (.inl (zi k))] [] (s, n, mi, ml, mr) = some (some (.inl (bz (gdn (fun c => P c + R c) 252))), (s, n, mi, ml', mr)) ∧ MPo i (fun c => P c + R c) ml' ∧ RF i (i + 1) ml ml'
  | 0, k, ml, hk, hP, hR => by
    have e : k = 252 := by omega
    subst e
    have hP' : MPo i (fun c => P c + R c) ml := fun x hx => by rw [hP x hx, if_pos hx]
    refine ⟨ml, ?_, hP', RF_refl _ _ _⟩
    rw [b156_12 hG]
    simp (disch := omega) only [km hM, gm67 hM, am126 hM, wm126 hM, ne_eq, Nat.not_lt_zero, Nat.zero_le, eq_self, not_true_eq_false, not_false_eq_true, decide_true, decide_false, Bool.not_true, Bool.not_false, Bool.true_and, Bool.false_and, Bool.and_true, Bool.and_false, Bool.or_true, Bool.true_or, Bool.false_or, Bool.or_false, Nat.beq_refl, bind_s, as_I, as_J, as_R, as_V, cnd_t, cnd_f, bz_ret, bzp_0, bzp_1, bzp_z0, bzp_z1, dec_bf, dec_bt, dec_nbf, dec_nbt, Bool.false_eq_true, Bool.true_eq_false, ret_0, ret_1, ret_z0, ret_z1, zi_lit, zi_add, zi_mul, zi_lt, zi_le, zi_eq, zi_sub, Nat.le_refl, m157 hG hM hi hP']
  | d + 1, k, ml, hk, hP, hR => by
    have hPk := hP k (by omega)
    rw [if_neg (Nat.lt_irrefl k)] at hPk
    obtain ⟨ml', e', r1, r2⟩ := m156L hG hM (s := s) (mr := mr) (n := n) (mi := mi) hi ho hne d (k + 1) (up2 ml 126 (252 * i + k) (P (cd k) + R (cd k))) (by omega) (fun x hx => by
        rw [up2_s]
        by_cases e : x = k
        · rw [e, up1_s, if_pos (Nat.lt_succ_self k)]
        · rw [up1_n _ _ (by omega), hP x hx]
          by_cases h : x < k
          · rw [if_pos h, if_pos (by omega)]
          · rw [if_neg h, if_neg (by omega)]) (fun x hx => by rw [up2_s, up1_n _ _ (by omega)]; exact hR x hx)
    refine ⟨ml', ?_, r1, RF_trans (RF_up (by omega) (by omega)) r2⟩
    rw [b156_12 hG]
    simp (disch := omega) only [km hM, gm67 hM, am126 hM, wm126 hM, ne_eq, Nat.not_lt_zero, Nat.zero_le, eq_self, not_true_eq_false, not_false_eq_true, decide_true, decide_false, Bool.not_true, Bool.not_false, Bool.true_and, Bool.false_and, Bool.and_true, Bool.and_false, Bool.or_true, Bool.true_or, Bool.false_or, Bool.or_false, Nat.beq_refl, bind_s, as_I, as_J, as_R, as_V, cnd_t, cnd_f, bz_ret, bzp_0, bzp_1, bzp_z0, bzp_z1, dec_bf, dec_bt, dec_nbf, dec_nbt, Bool.false_eq_true, Bool.true_eq_false, ret_0, ret_1, ret_z0, ret_z1, zi_lit, zi_add, zi_mul, zi_lt, zi_le, zi_eq, zi_sub, eq_false (by omega : ¬ 252 ≤ k), hPk, hR k (by omega)]
    exact e'
theorem m156 {G : AG} (hG : FIX G) {s : Nat → Nat × Nat} {mr : Nat → Nat → Nat} (hM : MS s mr) {n : Nat × Nat} {mi : Nat → Nat → Int32} {ml : Nat → Nat → Int64} {i o : Nat} {P R : Po} (hi : i < 70) (ho : o < 70) (hne : i ≠ o) (hP : MPo i P ml) (hR : MPo o R ml) : ∃ ml', G 156 0 [some (.inr (.inr 114)), some (.inl (zi i)), some (.inl (zi o)), none] [] (s, n, mi, ml, mr) = some (some (.inl (bz (gdn R 252 && gdn (fun c => P c + R c) 252))), (s, n, mi, ml', mr)) ∧ (gdn R 252 = true → MPo i (fun c => P c + R c) ml') ∧ RF i (i + 1) ml ml' := by
  rw [b156_0 hG]
  cases hg : gdn R 252
  · refine ⟨ml, ?_, fun h => (by cases h), RF_refl _ _ _⟩
    simp (disch := omega) only [km hM, gm67 hM, am126 hM, wm126 hM, ne_eq, Nat.not_lt_zero, Nat.zero_le, eq_self, not_true_eq_false, not_false_eq_true, decide_true, decide_false, Bool.not_true, Bool.not_false, Bool.true_and, Bool.false_and, Bool.and_true, Bool.and_false, Bool.or_true, Bool.true_or, Bool.false_or, Bool.or_false, Nat.beq_refl, bind_s, as_I, as_J, as_R, as_V, cnd_t, cnd_f, bz_ret, bzp_0, bzp_1, bzp_z0, bzp_z1, dec_bf, dec_bt, dec_nbf, dec_nbt, Bool.false_eq_true, Bool.true_eq_false, ret_0, ret_1, ret_z0, ret_z1, m157 hG hM ho hR, hg]
  · obtain ⟨ml', e', r1, r2⟩ := m156L hG hM (n := n) (mi := mi) (P := P) (R := R) hi ho hne 252 0 ml (by omega) (fun x hx => by rw [if_neg (Nat.not_lt_zero _)]; exact hP x hx) hR
    refine ⟨ml', ?_, fun _ => r1, r2⟩
    simp (disch := omega) only [km hM, gm67 hM, am126 hM, wm126 hM, ne_eq, Nat.not_lt_zero, Nat.zero_le, eq_self, not_true_eq_false, not_false_eq_true, decide_true, decide_false, Bool.not_true, Bool.not_false, Bool.true_and, Bool.false_and, Bool.and_true, Bool.and_false, Bool.or_true, Bool.true_or, Bool.false_or, Bool.or_false, Nat.beq_refl, bind_s, as_I, as_J, as_R, as_V, cnd_t, cnd_f, bz_ret, bzp_0, bzp_1, bzp_z0, bzp_z1, dec_bf, dec_bt, dec_nbf, dec_nbt, Bool.false_eq_true, Bool.true_eq_false, ret_0, ret_1, ret_z0, ret_z1, m157 hG hM ho hR, hg, zi_lit]
    exact e'