/-! the model: the outer loop of a sum with an expression -/
def tS (P : Po) (e : Nat → Int64) (d v x : Nat) : Po := fun c => sm (dgv (cd x) v + 1) (fun j => P (cd x) * smL (dgv (cd x) v) (j + 1) * Sh (rst (cd x) v) (pwE e d (j + 1) (del 0)) c)
def h5 (P : Po) : Nat → Bool
  | 0 => false
  | k + 1 => h5 P k || (!decide (P (cd k) = 0) && decide (degc (cd k) = 5))
theorem h5_mono {P : Po} {a : Nat} (h : h5 P a = true) : ∀ {b : Nat}, a ≤ b → h5 P b = true
  | 0, hb => by
    have : a = 0 := by omega
    subst this
    exact h
  | b + 1, hb => by
    by_cases e : a = b + 1
    · rw [← e]; exact h
    · unfold h5
      rw [h5_mono h (by omega), Bool.true_or]
theorem m159 {G : AG} (hG : FIX G) {v : Nat} (hv : v < 5) (H : Hp) : G 159 0 [some (.inl (zi v)), none, none] [] H = some (some (.inl (zi (6 ^ v))), H) := by
  have st : ∀ (f k : Nat), k + f = v → G 159 4 [some (.inl (zi v)), some (.inl (zi (6 ^ k))), some (.inl (zi k))] [] H = some (some (.inl (zi (6 ^ v))), H) := by
    intro f
    induction f with
    | zero =>
      intro k hk
      have e : k = v := by omega
      subst e
      rw [b159_4 hG]
      simp (disch := omega) only [zi_le, Nat.le_refl, decide_true, cnd_t]
    | succ f ih =>
      intro k hk
      rw [b159_4 hG]
      simp (disch := omega) only [zi_lit, zi_le, zi_mul, zi_add, eq_false (by omega : ¬ v ≤ k), decide_false, cnd_f]
      rw [← Nat.pow_succ]
      exact ih (k + 1) (by omega)
  rw [b159_0 hG]
  exact st v 0 (by omega)
theorem m158K {G : AG} (hG : FIX G) {s : Nat → Nat × Nat} {mr : Nat → Nat → Nat} (hM : MS s mr) {n : Nat × Nat} {mi : Nat → Nat → Int32} (hT : MTab mi) {y2 y3 y6 : Int32} {i v d : Nat} {P : Po} {e : Nat → Int64} (hi : i < 58) (hv : v < 5) (hd : d ≤ 3) : ∀ (f K : Nat) (o8 o10 o11 o12 o13 o15 o16 : Option AV) (ml : Nat → Nat → Int64), K + f = 252 → h5 P K = false → MPo i P ml → (∀ j, j < 6 → MPo (58 + j) (pwE e d j (del 0)) ml) → (∀ k, k < 252 → ml 130 k = sm K (fun x => tS P e d v x (cd k))) →
    ∃ ml', MD ml ml' ∧ ((h5 P 252 = true ∧ G 158 236 [some (.inr (.inr 114)), some (.inl (zi i)), some (.inl y2), some (.inl y3), some (.inl (zi v)), some (.inl (zi (6 ^ v))), some (.inl y6), some (.inl (zi K)), o8, none, o10, o11, o12, o13, none, o15, o16, none] [] (s, n, mi, ml, mr) = some (some (.inl (bz false)), (s, n, mi, ml', mr))) ∨ (h5 P 252 = false ∧ (∃ p8 p10 p11 p12 p13 p15 p16, G 158 236 [some (.inr (.inr 114)), some (.inl (zi i)), some (.inl y2), some (.inl y3), some (.inl (zi v)), some (.inl (zi (6 ^ v))), some (.inl y6), some (.inl (zi K)), o8, none, o10, o11, o12, o13, none, o15, o16, none] [] (s, n, mi, ml, mr) = G 158 429 [some (.inr (.inr 114)), some (.inl (zi i)), some (.inl y2), some (.inl y3), some (.inl (zi v)), some (.inl (zi (6 ^ v))), some (.inl y6), some (.inl (zi 0)), p8, none, p10, p11, p12, p13, none, p15, p16, none] [] (s, n, mi, ml', mr)) ∧ ∀ k, k < 252 → ml' 130 k = sm 252 (fun x => tS P e d v x (cd k))))
  | 0, K, o8, o10, o11, o12, o13, o15, o16, ml, hK, h5K, hP, hE, hB => by
    have e : K = 252 := by omega
    subst e
    refine ⟨ml, fun _ _ => rfl, Or.inr ⟨h5K, ⟨o8, o10, o11, o12, o13, o15, o16, ?_⟩, hB⟩⟩
    rw [b158_236 hG]
    simp (disch := omega) only [zi_lit, zi_le, Nat.le_refl, decide_true, cnd_t]
  | f + 1, K, o8, o10, o11, o12, o13, o15, o16, ml, hK, h5K, hP, hE, hB => by
    have hK2 : K < 252 := by omega
    have hPK := hP K hK2
    obtain ⟨vK, -⟩ := rk_cd hK2
    have h5S : h5 P (K + 1) = (!decide (P (cd K) = 0) && decide (degc (cd K) = 5)) := by
      show (h5 P K || _) = _
      rw [h5K, Bool.false_or]
    by_cases h0 : P (cd K) = 0
    · obtain ⟨ml', r1, r2⟩ := m158K hG hM (s := s) (mr := mr) (n := n) (mi := mi) hT hi hv hd f (K + 1) (some (.inr (.inl (P (cd K))))) o10 o11 o12 o13 o15 o16 ml (by omega) (by rw [h5S, decide_eq_true h0]; rfl) hP hE (fun k hk => by
        rw [hB k hk]
        show _ = sm K (fun x => tS P e d v x (cd k)) + tS P e d v K (cd k)
        have : tS P e d v K (cd k) = 0 := by
          refine sm_zero (fun j _ => ?_)
          rw [h0, Int64.zero_mul, Int64.zero_mul]
        rw [this, Int64.add_zero])
      have est : G 158 236 [some (.inr (.inr 114)), some (.inl (zi i)), some (.inl y2), some (.inl y3), some (.inl (zi v)), some (.inl (zi (6 ^ v))), some (.inl y6), some (.inl (zi K)), o8, none, o10, o11, o12, o13, none, o15, o16, none] [] (s, n, mi, ml, mr) = G 158 236 [some (.inr (.inr 114)), some (.inl (zi i)), some (.inl y2), some (.inl y3), some (.inl (zi v)), some (.inl (zi (6 ^ v))), some (.inl y6), some (.inl (zi (K + 1))), some (.inr (.inl (P (cd K)))), none, o10, o11, o12, o13, none, o15, o16, none] [] (s, n, mi, ml, mr) := by
        rw [b158_236 hG]
        simp (disch := omega) only [zi_lit, zi_le, zi_add, zi_mul, bind_s, gm67 hM, am126 hM, hPK, cmpz, eq_true h0, eq_false (by omega : ¬ 252 ≤ K), decide_true, decide_false, cnd_t, cnd_f]
        rw [b158_420 hG]
        simp only [zi_lit, zi_add]
      rw [est]
      exact ⟨ml', r1, r2⟩
    · have e162 := m162 hG hM (n := n) (mi := mi) (ml := ml) hT hK2
      have hdl := vK.2
      by_cases h5d : degc (cd K) = 5
      · refine ⟨ml, fun _ _ => rfl, Or.inl ⟨h5_mono (a := K + 1) (by rw [h5S, decide_eq_false h0, decide_eq_true h5d]; rfl) (by omega), ?_⟩⟩
        rw [b158_236 hG]
        simp (disch := omega) only [km hM, Nat.beq_refl, as_I, ne_eq, zi_lit, zi_le, zi_add, zi_mul, bind_s, gm67 hM, am126 hM, hPK, cmpz, eq_false h0, eq_false (by omega : ¬ 252 ≤ K), decide_true, decide_false, cnd_t, cnd_f, e162, h5d, not_true_eq_false, ret_z0]
      · obtain ⟨q1, q2, q3, q4⟩ := rst_ok vK hv
        have hp5 : dgv (cd K) v ≤ 4 := by omega
        have tv : mi 122 (5 * K + v) = zi (dgv (cd K) v) := hT.1 K v hK2 hv
        have e160 := m160 hG hM (n := n) (mi := mi) (ml := ml) hT hK2
        have hrs : zi (cd K) - zi (dgv (cd K) v) * zi (6 ^ v) = zi (rst (cd K) v) := by rw [zi_mul, zi_sub q1]; rfl
        obtain ⟨m1, p10, p11, p12, p13, p15, p16, e1, r1, r2⟩ := m158I hG hM hT (n := n) (y1 := zi i) (y2 := y2) (y3 := y3) (y4 := zi v) (y5 := zi (6 ^ v)) (y6 := y6) (y7 := zi K) (e := e) (w := P (cd K)) (B := fun c => sm K (fun x => tS P e d v x c)) q2 hp5 hd (by omega) (dgv (cd K) v + 1) 0 o13 o15 o16 ml (by omega) hE (fun k hk => by
          rw [hB k hk]
          show _ = _ + (0 : Int64)
          rw [Int64.add_zero])
        obtain ⟨ml', s1, s2⟩ := m158K hG hM (s := s) (mr := mr) (n := n) (mi := mi) hT hi hv hd f (K + 1) (some (.inr (.inl (P (cd K))))) p10 p11 p12 p13 p15 p16 m1 (by omega) (by rw [h5S, decide_eq_false h5d, Bool.and_false]) (MPo_MD hP r2) (fun j hj => MPo_MD (hE j hj) r2) (fun k hk => by
          rw [r1 k hk]
          rfl)
        have ey : zi K + 1 = zi (K + 1) := zi_add K 1
        rw [ey] at e1
        have est : G 158 236 [some (.inr (.inr 114)), some (.inl (zi i)), some (.inl y2), some (.inl y3), some (.inl (zi v)), some (.inl (zi (6 ^ v))), some (.inl y6), some (.inl (zi K)), o8, none, o10, o11, o12, o13, none, o15, o16, none] [] (s, n, mi, ml, mr) = G 158 236 [some (.inr (.inr 114)), some (.inl (zi i)), some (.inl y2), some (.inl y3), some (.inl (zi v)), some (.inl (zi (6 ^ v))), some (.inl y6), some (.inl (zi (K + 1))), some (.inr (.inl (P (cd K)))), none, p10, p11, p12, p13, none, p15, p16, none] [] (s, n, mi, m1, mr) := by
          rw [b158_236 hG]
          simp (disch := omega) only [km hM, Nat.beq_refl, as_I, ne_eq, zi_lit, zi_le, zi_eq, zi_add, bind_s, gm67 hM, gm61 hM, am126 hM, am122 hM, zi_mul, hPK, cmpz, eq_false h0, eq_false (by omega : ¬ 252 ≤ K), decide_true, decide_false, cnd_t, cnd_f, e162, eq_false h5d, not_false_eq_true, tv, e160]
          rw [← zi_mul, hrs]
          exact e1
        rw [est]
        exact ⟨ml', MD_trans r2 s1, s2⟩