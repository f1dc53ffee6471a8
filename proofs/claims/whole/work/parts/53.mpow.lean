/-! the model: powers of an expression -/
/-- what product K adds by variable u -/
def adt (e : Nat → Int64) (w : Int64) (K u c : Nat) : Int64 := if degc (cd K) + degc (sv u) < 6 ∧ c = cd K + sv u then e u * w else 0
/-- of a product with an expression: what the products under K give -/
def prt (e : Nat → Int64) (d : Nat) (P : Po) (K : Nat) : Po := fun c => sm (3 + d) (fun u => e u * (if sb (sv u) c ∧ rk (c - sv u) < K then P (c - sv u) else 0))
theorem prt_0 (e d P c) : prt e d P 0 c = 0 := sm_zero (fun u _ => by
  show e u * (if sb (sv u) c ∧ rk (c - sv u) < 0 then P (c - sv u) else 0) = 0
  rw [if_neg (fun h => Nat.not_lt_zero _ h.2), Int64.mul_zero])
theorem prt_all {e d P} (hd : d ≤ 3) : peq (prt e d P 252) (mulE e d P) := by
  intro c hc
  refine sm_congr (fun u hu => ?_)
  show e u * (if sb (sv u) c ∧ rk (c - sv u) < 252 then P (c - sv u) else 0) = e u * (if sb (sv u) c then P (c - sv u) else 0)
  by_cases h : sb (sv u) c
  · rw [if_pos h, if_pos ⟨h, (cd_rk (vc_sub (sv_lt (by omega)) hc h)).2⟩]
  · rw [if_neg h, if_neg (fun h' => h h'.1)]
theorem prt_S {e d P} (hd : d ≤ 3) {K : Nat} (hK : K < 252) : peq (prt e d P (K + 1)) (fun c => prt e d P K c + sm (3 + d) (fun u => adt e (P (cd K)) K u c)) := by
  intro c hc
  show prt e d P (K + 1) c = prt e d P K c + sm (3 + d) (fun u => adt e (P (cd K)) K u c)
  unfold prt
  rw [← sm_add]
  refine sm_congr (fun u hu => ?_)
  show e u * (if sb (sv u) c ∧ rk (c - sv u) < K + 1 then P (c - sv u) else 0) = e u * (if sb (sv u) c ∧ rk (c - sv u) < K then P (c - sv u) else 0) + adt e (P (cd K)) K u c
  have hu7 := sv_lt (v := u) (by omega)
  obtain ⟨hv, hr⟩ := rk_cd hK
  have key : (sb (sv u) c ∧ rk (c - sv u) = K) ↔ (degc (cd K) + degc (sv u) < 6 ∧ c = cd K + sv u) := by
    constructor
    · rintro ⟨h1, h2⟩
      have h3 := (cd_rk (vc_sub hu7 hc h1)).1
      rw [h2] at h3
      have h4 := degc_sub hu7 hc.1 h1
      have h5 := (sbq_dg hu7 hc.1 h1).1
      rw [h3]
      exact ⟨by rw [h4]; exact hc.2, by rw [Nat.sub_add_cancel h5]⟩
    · rintro ⟨h1, h2⟩
      obtain ⟨-, h3, -⟩ := sb_add hu7 hv.1 (by rw [Nat.add_comm]; exact h1)
      rw [Nat.add_comm] at h3
      rw [h2, Nat.add_sub_cancel]
      exact ⟨h3, hr⟩
  unfold adt
  by_cases h1 : sb (sv u) c
  · by_cases h2 : rk (c - sv u) < K
    · have hn : ¬ (degc (cd K) + degc (sv u) < 6 ∧ c = cd K + sv u) := fun h => by have := (key.mpr h).2; omega
      rw [if_pos ⟨h1, by omega⟩, if_pos ⟨h1, h2⟩, if_neg hn, Int64.add_zero]
    · by_cases h3 : rk (c - sv u) = K
      · have hy := key.mp ⟨h1, h3⟩
        have hc2 : c - sv u = cd K := by rw [hy.2, Nat.add_sub_cancel]
        rw [if_pos ⟨h1, by omega⟩, if_neg (fun h => h2 h.2), if_pos hy, hc2, Int64.mul_zero, Int64.zero_add]
      · have hn : ¬ (degc (cd K) + degc (sv u) < 6 ∧ c = cd K + sv u) := fun h => h3 (key.mpr h).2
        rw [if_neg (fun h => by have := h.2; omega), if_neg (fun h => h2 h.2), if_neg hn, Int64.mul_zero, Int64.add_zero]
  · have hn : ¬ (degc (cd K) + degc (sv u) < 6 ∧ c = cd K + sv u) := fun h => h1 (key.mpr h).1
    rw [if_neg (fun h => h1 h.1), if_neg (fun h => h1 h.1), if_neg hn, Int64.mul_zero, Int64.add_zero]
theorem cmpz (x y : Int64) : (lg_cmp x y = zi 0) = (x = y) := propext (decide_eq_decide.mp (cmp_eq0 x y))
theorem six_lt {v : Nat} (h : v < 5) : 6 ^ v ≤ 1296 := by
  have h' : v = 0 ∨ v = 1 ∨ v = 2 ∨ v = 3 ∨ v = 4 := by omega
  rcases h' with rfl | rfl | rfl | rfl | rfl <;> decide
theorem six_deg {v : Nat} (h : v < 5) : degc (6 ^ v) = 1 := by
  have h' : v = 0 ∨ v = 1 ∨ v = 2 ∨ v = 3 ∨ v = 4 := by omega
  rcases h' with rfl | rfl | rfl | rfl | rfl <;> decide
theorem cd_inj {i j : Nat} (hi : i < 252) (hj : j < 252) (h : cd i = cd j) : i = j := by
  rw [← (rk_cd hi).2, h, (rk_cd hj).2]
theorem m161v {G : AG} (hG : FIX G) {s : Nat → Nat × Nat} {mr : Nat → Nat → Nat} (hM : MS s mr) {n : Nat × Nat} {mi : Nat → Nat → Int32} (hT : MTab mi) {op w at_ : Nat} {t : Nat → Nat} (ho : op < 192) (hw : w < 2) (hA : at_ ≤ 64) (ht : ∀ q, q < 6 → mi 119 (12 * op + 6 * w + q) = zi (t q)) (hb : ∀ q, t q ≤ 2) {d K j : Nat} {W : Int64} {B : Po} (hd : d ≤ 3) (hK : K < 252) (hj : j < 6) : ∀ (f v : Nat) (o12 : Option AV) (ml : Nat → Nat → Int64), v + f = 2 + d → (∀ k, k < 252 → ml 126 (252 * (at_ + j) + k) = B (cd k) + sm (1 + v) (fun u => adt (fun q => zl (t q)) W K u (cd k))) →
    ∃ ml' o5 o11 o12', G 161 126 [some (.inr (.inr 114)), some (.inl (zi at_)), some (.inl (zi op)), some (.inl (zi w)), some (.inl (zi d)), some (.inl (zi (6 ^ v))), some (.inl (zi j)), some (.inl (zi K)), some (.inr (.inl W)), none, some (.inl (zi (cd K))), some (.inl (zi v)), o12] [] (s, n, mi, ml, mr) = G 161 40 [some (.inr (.inr 114)), some (.inl (zi at_)), some (.inl (zi op)), some (.inl (zi w)), some (.inl (zi d)), some (.inl o5), some (.inl (zi j)), some (.inl (zi (K + 1))), some (.inr (.inl W)), none, some (.inl (zi (cd K))), o11, o12'] [] (s, n, mi, ml', mr) ∧
      (∀ k, k < 252 → ml' 126 (252 * (at_ + j) + k) = B (cd k) + sm (3 + d) (fun u => adt (fun q => zl (t q)) W K u (cd k))) ∧ RF (at_ + j) (at_ + j + 1) ml ml'
  | 0, v, o12, ml, hv, hB => by
    have e : v = 2 + d := by omega
    subst e
    refine ⟨ml, zi (6 ^ (2 + d)), some (.inl (zi (2 + d))), o12, ?_, fun k hk => by rw [hB k hk]; exact congrArg (B (cd k) + ·) (congrArg (sm · _) (by omega)), RF_refl _ _ _⟩
    rw [b161_126 hG]
    simp (disch := omega) only [b161_159 hG, b161_208 hG, b161_221 hG, gm67 hM, am126 hM, wm126 hM, km hM, gm55 hM, am119 hM, wm119 hM, gm62 hM, am123 hM, wm123 hM, ne_eq, Nat.not_lt_zero, Nat.zero_le, eq_self, not_true_eq_false, not_false_eq_true, decide_true, decide_false, Bool.not_true, Bool.not_false, Bool.true_and, Bool.false_and, Bool.and_true, Bool.and_false, Bool.or_true, Bool.true_or, Bool.false_or, Bool.or_false, Nat.beq_refl, bind_s, as_I, as_J, as_R, as_V, cnd_t, cnd_f, bz_ret, bzp_0, bzp_1, bzp_z0, bzp_z1, dec_bf, dec_bt, dec_nbf, dec_nbt, Bool.false_eq_true, Bool.true_eq_false, ret_0, ret_1, ret_z0, ret_z1, zi_lit, zi_add, zi_mul, zi_lt, zi_le, zi_eq, zi_sub, Nat.le_refl]
  | f + 1, v, o12, ml, hv, hB => by
    have hv5 : v < 5 := by omega
    have h6 := six_lt hv5
    have hdeg := six_deg hv5
    obtain ⟨hvK, hrK⟩ := rk_cd hK
    have hcd7 := hvK.1
    have h6v : zi (6 ^ v) * zi 6 = zi (6 ^ (v + 1)) := by rw [zi_mul, Nat.pow_succ]
    have e162 := m162 hG hM (n := n) (mi := mi) (ml := ml) hT hK
    have hdK := hvK.2
    have eS : ∀ c, sm (1 + (v + 1)) (fun u => adt (fun q => zl (t q)) W K u c) = sm (1 + v) (fun u => adt (fun q => zl (t q)) W K u c) + adt (fun q => zl (t q)) W K (v + 1) c := by
      intro c
      rw [show 1 + (v + 1) = (1 + v) + 1 by omega]
      show sm (1 + v) _ + adt _ W K (1 + v) c = _
      rw [Nat.add_comm 1 v]
    by_cases h5 : 5 ≤ degc (cd K)
    · obtain ⟨ml', o5, o11, o12', e', r1, r2⟩ := m161v hG hM hT ho hw hA ht hb (s := s) (mr := mr) (n := n) (mi := mi) (op := op) (t := t) hd hK hj f (v + 1) (some (.inl (-zi 1))) ml (by omega) (fun k hk => by
        rw [hB k hk, eS]
        have : adt (fun q => zl (t q)) W K (v + 1) (cd k) = 0 := by
          unfold adt
          rw [if_neg]
          intro h
          have h1 := h.1
          have h2 : degc (sv (v + 1)) = 1 := hdeg
          rw [h2] at h1
          omega
        rw [this, Int64.add_zero])
      refine ⟨ml', o5, o11, o12', ?_, r1, r2⟩
      have em : decide (-zi 1 < 0) = true := by decide
      rw [b161_126 hG]
      simp (disch := omega) only [km hM, Nat.beq_refl, cnd_t, cnd_f, bind_s, as_I, zi_lit, zi_add, zi_le, e162, decide_false, decide_true, eq_false (by omega : ¬ 2 + d ≤ v), eq_true h5]
      rw [b161_159 hG, em, cnd_t, b161_208 hG]
      simp only [zi_lit, zi_add, h6v]
      exact e'
    · have hsum : degc (cd K) + degc (6 ^ v) < 6 := by rw [hdeg]; omega
      obtain ⟨hvc, -, -⟩ := sb_add (r := 6 ^ v) (e := cd K) (by omega) hcd7 (by rw [Nat.add_comm]; exact hsum)
      rw [Nat.add_comm] at hvc
      obtain ⟨c1, c2⟩ := cd_rk hvc
      have hrow : mi 123 (cd K + 6 ^ v) = zi (rk (cd K + 6 ^ v)) := by rw [hT.2.1 _ hvc.1, if_pos hvc.2]
      have htk := ht (1 + v) (by omega)
      have hbk := hb (1 + v)
      have htk' : mi 119 (12 * op + 6 * w + 1 + v) = zi (t (1 + v)) := by rw [← htk]; exact congrArg _ (by omega)
      obtain ⟨ml', o5, o11, o12', e', r1, r2⟩ := m161v hG hM hT ho hw hA ht hb (s := s) (mr := mr) (n := n) (mi := mi) (op := op) (t := t) hd hK hj f (v + 1) (some (.inl (zi (rk (cd K + 6 ^ v))))) (up2 ml 126 (252 * (at_ + j) + rk (cd K + 6 ^ v)) (B (cd (rk (cd K + 6 ^ v))) + sm (1 + v) (fun u => adt (fun q => zl (t q)) W K u (cd (rk (cd K + 6 ^ v)))) + W * zl (t (1 + v)))) (by omega) (fun k hk => by
        rw [eS, ← Int64.add_assoc, up2_s]
        by_cases e : k = rk (cd K + 6 ^ v)
        · rw [e, up1_s]
          have : adt (fun q => zl (t q)) W K (v + 1) (cd (rk (cd K + 6 ^ v))) = W * zl (t (1 + v)) := by
            unfold adt
            rw [if_pos ⟨hsum, c1⟩, Int64.mul_comm, Nat.add_comm 1 v]
          rw [this]
        · rw [up1_n _ _ (by omega), hB k hk]
          have : adt (fun q => zl (t q)) W K (v + 1) (cd k) = 0 := by
            unfold adt
            rw [if_neg]
            intro h
            exact e (by rw [← (rk_cd hk).2, h.2]; rfl)
          rw [this, Int64.add_zero])
      refine ⟨ml', o5, o11, o12', ?_, r1, RF_trans (RF_up (by omega) (by omega)) r2⟩
      rw [b161_126 hG]
      simp (disch := omega) only [km hM, Nat.beq_refl, cnd_t, cnd_f, bind_s, as_I, zi_lit, zi_add, zi_le, e162, decide_false, decide_true, eq_false (by omega : ¬ 2 + d ≤ v), eq_false h5, gm62 hM, am123 hM, hrow]
      rw [b161_159 hG]
      have ef : decide (zi (rk (cd K + 6 ^ v)) < 0) = false := decide_eq_false (Int32.not_lt.mpr (zi_ge0 (by omega)))
      rw [ef, cnd_f]
      simp (disch := omega) only [bind_s, gm67 hM, gm55 hM, zi_lit, zi_add, zi_mul, am126 hM, am119 hM, wm126 hM, hB _ c2, htk', zi_64]
      rw [b161_208 hG]
      simp only [zi_lit, zi_add, h6v]
      exact e'
theorem m161K {G : AG} (hG : FIX G) {s : Nat → Nat × Nat} {mr : Nat → Nat → Nat} (hM : MS s mr) {n : Nat × Nat} {mi : Nat → Nat → Int32} (hT : MTab mi) {op w at_ : Nat} {t : Nat → Nat} (ho : op < 192) (hw : w < 2) (hA : at_ ≤ 64) (ht : ∀ q, q < 6 → mi 119 (12 * op + 6 * w + q) = zi (t q)) (hb : ∀ q, t q ≤ 2) {d j : Nat} {P : Po} (hd : d ≤ 3) (hj1 : 1 ≤ j) (hj : j < 6) : ∀ (f K : Nat) (x5 : Int32) (o8 o10 o11 o12 : Option AV) (ml : Nat → Nat → Int64), K + f = 252 → MPo (at_ + j - 1) P ml → (∀ k, k < 252 → ml 126 (252 * (at_ + j) + k) = prt (fun q => zl (t q)) d P K (cd k)) →
    ∃ ml' y5 p7 p8 p10 p11 p12, G 161 40 [some (.inr (.inr 114)), some (.inl (zi at_)), some (.inl (zi op)), some (.inl (zi w)), some (.inl (zi d)), some (.inl x5), some (.inl (zi j)), some (.inl (zi K)), o8, none, o10, o11, o12] [] (s, n, mi, ml, mr) = G 161 22 [some (.inr (.inr 114)), some (.inl (zi at_)), some (.inl (zi op)), some (.inl (zi w)), some (.inl (zi d)), some (.inl y5), some (.inl (zi (j + 1))), p7, p8, none, p10, p11, p12] [] (s, n, mi, ml', mr) ∧
      MPo (at_ + j) (mulE (fun q => zl (t q)) d P) ml' ∧ RF (at_ + j) (at_ + j + 1) ml ml'
  | 0, K, x5, o8, o10, o11, o12, ml, hK, hP, hB => by
    have e : K = 252 := by omega
    subst e
    refine ⟨ml, x5, some (.inl (zi 252)), o8, o10, o11, o12, ?_, fun k hk => by rw [hB k hk]; exact prt_all hd _ (rk_cd hk).1, RF_refl _ _ _⟩
    rw [b161_40 hG]
    simp (disch := omega) only [ne_eq, Nat.not_lt_zero, Nat.zero_le, eq_self, not_true_eq_false, not_false_eq_true, decide_true, decide_false, Bool.not_true, Bool.not_false, Bool.true_and, Bool.false_and, Bool.and_true, Bool.and_false, Bool.or_true, Bool.true_or, Bool.false_or, Bool.or_false, Nat.beq_refl, bind_s, as_I, as_J, as_R, as_V, cnd_t, cnd_f, bz_ret, bzp_0, bzp_1, bzp_z0, bzp_z1, dec_bf, dec_bt, dec_nbf, dec_nbt, Bool.false_eq_true, Bool.true_eq_false, ret_0, ret_1, ret_z0, ret_z1, zi_lit, zi_add, zi_mul, zi_lt, zi_le, zi_eq, zi_sub, Nat.le_refl]
  | f + 1, K, x5, o8, o10, o11, o12, ml, hK, hP, hB => by
    have hK2 : K < 252 := by omega
    have hPK := hP K hK2
    have hidx : zi 252 * (zi (at_ + j) - zi 1) + zi K = zi (252 * (at_ + j - 1) + K) := by
      rw [zi_sub (by omega), zi_mul, zi_add]
    have hS := prt_S (e := fun q => zl (t q)) (P := P) hd hK2
    by_cases h0 : P (cd K) = 0
    · obtain ⟨ml', y5, p7, p8, p10, p11, p12, e', r1, r2⟩ := m161K hG hM hT ho hw hA ht hb (s := s) (mr := mr) (n := n) (mi := mi) (op := op) (t := t) hd hj1 hj f (K + 1) x5 (some (.inr (.inl 0))) o10 o11 o12 ml (by omega) hP (fun k hk => by
        rw [hB k hk]
        refine Eq.trans ?_ (hS _ (rk_cd hk).1).symm
        show _ = prt (fun q => zl (t q)) d P K (cd k) + sm (3 + d) (fun u => adt (fun q => zl (t q)) (P (cd K)) K u (cd k))
        have : sm (3 + d) (fun u => adt (fun q => zl (t q)) (P (cd K)) K u (cd k)) = 0 := sm_zero (fun u _ => by
          unfold adt
          rw [h0, Int64.mul_zero]
          split <;> rfl)
        rw [this, Int64.add_zero])
      refine ⟨ml', y5, p7, p8, p10, p11, p12, ?_, r1, r2⟩
      rw [b161_40 hG]
      simp (disch := omega) only [km hM, Nat.beq_refl, bind_s, gm67 hM, zi_lit, zi_add, zi_le, hidx, am126 hM, hPK, cmpz, eq_true h0, decide_true, decide_false, cnd_t, cnd_f, eq_false (by omega : ¬ 252 ≤ K)]
      rw [b161_221 hG, h0]
      simp only [zi_lit, zi_add]
      exact e'
    · obtain ⟨ml1, y5, q11, q12, e1, r1, r2⟩ := m161v hG hM hT ho hw hA ht hb (n := n) (W := P (cd K)) (B := prt (fun q => zl (t q)) d P K) hd hK2 hj (2 + d) 0 o12 (up2 ml 126 (252 * (at_ + j) + K) (prt (fun q => zl (t q)) d P K (cd K) + P (cd K) * zl (t 0))) (by omega) (fun k hk => by
        show _ = _ + (0 + adt (fun q => zl (t q)) (P (cd K)) K 0 (cd k))
        rw [Int64.zero_add, up2_s]
        by_cases e : k = K
        · rw [e, up1_s]
          unfold adt
          rw [if_pos ⟨(rk_cd hK2).1.2, rfl⟩, Int64.mul_comm]
        · rw [up1_n _ _ (by omega), hB k hk]
          have : adt (fun q => zl (t q)) (P (cd K)) K 0 (cd k) = 0 := by
            unfold adt
            rw [if_neg]
            intro h
            exact e (cd_inj hk hK2 h.2)
          rw [this, Int64.add_zero])
      have hRF : RF (at_ + j) (at_ + j + 1) ml ml1 := RF_trans (RF_up (by omega) (by omega)) r2
      obtain ⟨ml', z5, p7, p8, p10, p11, p12, e', s1, s2⟩ := m161K hG hM hT ho hw hA ht hb (s := s) (mr := mr) (n := n) (mi := mi) (op := op) (t := t) hd hj1 hj f (K + 1) y5 (some (.inr (.inl (P (cd K))))) (some (.inl (zi (cd K)))) q11 q12 ml1 (by omega) (MPo_RF hP hRF (by omega)) (fun k hk => by rw [r1 k hk, hS _ (rk_cd hk).1])
      refine ⟨ml', z5, p7, p8, p10, p11, p12, ?_, s1, RF_trans hRF s2⟩
      have ht0 : mi 119 (12 * op + 6 * w) = zi (t 0) := ht 0 (by omega)
      have hb0 := hb 0
      have e160 := m160 hG hM (n := n) (mi := mi) (ml := ml) hT hK2
      rw [b161_40 hG]
      simp (disch := omega) only [km hM, Nat.beq_refl, bind_s, as_I, gm67 hM, gm55 hM, zi_lit, zi_add, zi_mul, zi_le, zi_64, hidx, am126 hM, wm126 hM, am119 hM, hPK, cmpz, eq_false h0, e160, hB K hK2, ht0, decide_true, decide_false, cnd_t, cnd_f, eq_false (by omega : ¬ 252 ≤ K)]
      exact e1.trans e'
theorem m161J {G : AG} (hG : FIX G) {s : Nat → Nat × Nat} {mr : Nat → Nat → Nat} (hM : MS s mr) {n : Nat × Nat} {mi : Nat → Nat → Int32} (hT : MTab mi) {op w at_ : Nat} {t : Nat → Nat} (ho : op < 192) (hw : w < 2) (hA : at_ ≤ 64) (ht : ∀ q, q < 6 → mi 119 (12 * op + 6 * w + q) = zi (t q)) (hb : ∀ q, t q ≤ 2) {d : Nat} (hd : d ≤ 3) : ∀ (f j : Nat) (x5 : Int32) (o7 o8 o10 o11 o12 : Option AV) (ml : Nat → Nat → Int64), j + f = 6 → 1 ≤ j → (∀ i, i < j → MPo (at_ + i) (pwE (fun q => zl (t q)) d i (del 0)) ml) →
    ∃ ml', G 161 22 [some (.inr (.inr 114)), some (.inl (zi at_)), some (.inl (zi op)), some (.inl (zi w)), some (.inl (zi d)), some (.inl x5), some (.inl (zi j)), o7, o8, none, o10, o11, o12] [] (s, n, mi, ml, mr) = some (none, (s, n, mi, ml', mr)) ∧ (∀ i, i < 6 → MPo (at_ + i) (pwE (fun q => zl (t q)) d i (del 0)) ml') ∧ RF at_ (at_ + 6) ml ml'
  | 0, j, x5, o7, o8, o10, o11, o12, ml, hj, h1, hP => by
    have e : j = 6 := by omega
    subst e
    refine ⟨ml, ?_, hP, RF_refl _ _ _⟩
    rw [b161_22 hG]
    simp (disch := omega) only [ne_eq, Nat.not_lt_zero, Nat.zero_le, eq_self, not_true_eq_false, not_false_eq_true, decide_true, decide_false, Bool.not_true, Bool.not_false, Bool.true_and, Bool.false_and, Bool.and_true, Bool.and_false, Bool.or_true, Bool.true_or, Bool.false_or, Bool.or_false, Nat.beq_refl, bind_s, as_I, as_J, as_R, as_V, cnd_t, cnd_f, bz_ret, bzp_0, bzp_1, bzp_z0, bzp_z1, dec_bf, dec_bt, dec_nbf, dec_nbt, Bool.false_eq_true, Bool.true_eq_false, ret_0, ret_1, ret_z0, ret_z1, zi_lit, zi_add, zi_mul, zi_lt, zi_le, zi_eq, zi_sub, Nat.le_refl]
  | f + 1, j, x5, o7, o8, o10, o11, o12, ml, hj, h1, hP => by
    obtain ⟨m1, e1, z1, z2⟩ := m155 hG hM (n := n) (mi := mi) (ml := ml) (i := at_ + j) (by omega)
    have hP1 : ∀ i, i < j → MPo (at_ + i) (pwE (fun q => zl (t q)) d i (del 0)) m1 := fun i hi => MPo_RF (hP i hi) z2 (by omega)
    have hPp : MPo (at_ + j - 1) (pwE (fun q => zl (t q)) d (j - 1) (del 0)) m1 := by
      have := hP1 (j - 1) (by omega)
      rw [show at_ + (j - 1) = at_ + j - 1 by omega] at this
      exact this
    obtain ⟨m2, y5, p7, p8, p10, p11, p12, e2, r1, r2⟩ := m161K hG hM hT ho hw hA ht hb (n := n) hd h1 (by omega : j < 6) 252 0 x5 o8 o10 o11 o12 m1 (by omega) hPp (fun k hk => by rw [z1 k hk, prt_0])
    have ej : pwE (fun q => zl (t q)) d j (del 0) = mulE (fun q => zl (t q)) d (pwE (fun q => zl (t q)) d (j - 1) (del 0)) := by
      obtain ⟨i, rfl⟩ : ∃ i, j = i + 1 := ⟨j - 1, by omega⟩
      rfl
    obtain ⟨m3, e3, s1, s2⟩ := m161J hG hM hT ho hw hA ht hb (s := s) (mr := mr) (n := n) (mi := mi) (op := op) (t := t) hd f (j + 1) y5 p7 p8 p10 p11 p12 m2 (by omega) (by omega) (fun i hi => by
      by_cases e : i = j
      · rw [e, ej]; exact r1
      · exact MPo_RF (hP1 i (by omega)) r2 (by omega))
    refine ⟨m3, ?_, s1, RF_trans (RF_trans (RF_mono z2 (by omega) (by omega)) (RF_mono r2 (by omega) (by omega))) s2⟩
    rw [b161_22 hG]
    simp (disch := omega) only [b161_159 hG, b161_208 hG, b161_221 hG, gm67 hM, am126 hM, wm126 hM, km hM, gm55 hM, am119 hM, wm119 hM, gm62 hM, am123 hM, wm123 hM, ne_eq, Nat.not_lt_zero, Nat.zero_le, eq_self, not_true_eq_false, not_false_eq_true, decide_true, decide_false, Bool.not_true, Bool.not_false, Bool.true_and, Bool.false_and, Bool.and_true, Bool.and_false, Bool.or_true, Bool.true_or, Bool.false_or, Bool.or_false, Nat.beq_refl, bind_s, as_I, as_J, as_R, as_V, cnd_t, cnd_f, bz_ret, bzp_0, bzp_1, bzp_z0, bzp_z1, dec_bf, dec_bt, dec_nbf, dec_nbt, Bool.false_eq_true, Bool.true_eq_false, ret_0, ret_1, ret_z0, ret_z1, zi_lit, zi_add, zi_le, e1, eq_false (by omega : ¬ 6 ≤ j)]
    exact e2.trans e3
theorem m161 {G : AG} (hG : FIX G) {s : Nat → Nat × Nat} {mr : Nat → Nat → Nat} (hM : MS s mr) {n : Nat × Nat} {mi : Nat → Nat → Int32} (hT : MTab mi) {op w at_ : Nat} {t : Nat → Nat} (ho : op < 192) (hw : w < 2) (hA : at_ ≤ 64) (ht : ∀ q, q < 6 → mi 119 (12 * op + 6 * w + q) = zi (t q)) (hb : ∀ q, t q ≤ 2) {d : Nat} {ml : Nat → Nat → Int64} (hd : d ≤ 3) : ∃ ml', G 161 0 [some (.inr (.inr 114)), some (.inl (zi at_)), some (.inl (zi op)), some (.inl (zi w)), some (.inl (zi d)), none, none, none, none, none, none, none, none] [] (s, n, mi, ml, mr) = some (none, (s, n, mi, ml', mr)) ∧ (∀ i, i < 6 → MPo (at_ + i) (pwE (fun q => zl (t q)) d i (del 0)) ml') ∧ RF at_ (at_ + 6) ml ml' := by
  obtain ⟨m1, e1, z1, z2⟩ := m155 hG hM (n := n) (mi := mi) (ml := ml) (i := at_) (by omega)
  have h0 : MPo (at_ + 0) (pwE (fun q => zl (t q)) d 0 (del 0)) (up2 m1 126 (252 * at_) 1) := by
    intro k hk
    show _ = del 0 (cd k)
    unfold del
    rw [up2_s, Nat.add_zero]
    by_cases e : k = 0
    · subst e
      rw [Nat.add_zero, up1_s, if_pos (by decide)]
    · rw [up1_n _ _ (by omega), z1 k hk, if_neg]
      intro h
      exact e (cd_inj hk (by decide) (h.trans (by decide)))
  obtain ⟨m3, e3, s1, s2⟩ := m161J hG hM hT ho hw hA ht hb (n := n) hd 5 1 (zi 1) none none none none none (up2 m1 126 (252 * at_) 1) (by omega) (Nat.le_refl _) (fun i hi => by
    have : i = 0 := by omega
    subst this
    exact h0)
  refine ⟨m3, ?_, s1, RF_trans (RF_trans (RF_mono z2 (by omega) (by omega)) (RF_up (by omega) (by omega))) s2⟩
  rw [b161_0 hG]
  simp (disch := omega) only [b161_159 hG, b161_208 hG, b161_221 hG, gm67 hM, am126 hM, wm126 hM, km hM, gm55 hM, am119 hM, wm119 hM, gm62 hM, am123 hM, wm123 hM, ne_eq, Nat.not_lt_zero, Nat.zero_le, eq_self, not_true_eq_false, not_false_eq_true, decide_true, decide_false, Bool.not_true, Bool.not_false, Bool.true_and, Bool.false_and, Bool.and_true, Bool.and_false, Bool.or_true, Bool.true_or, Bool.false_or, Bool.or_false, Nat.beq_refl, bind_s, as_I, as_J, as_R, as_V, cnd_t, cnd_f, bz_ret, bzp_0, bzp_1, bzp_z0, bzp_z1, dec_bf, dec_bt, dec_nbf, dec_nbt, Bool.false_eq_true, Bool.true_eq_false, ret_0, ret_1, ret_z0, ret_z1, zi_lit, zi_mul, e1]
  exact e3