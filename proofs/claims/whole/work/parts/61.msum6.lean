/-! the model: sumUp of a loop whose number is fixed: its outer loop -/
def fxS (P : Po) (t0 v x : Nat) : Po := fun c => if c = rst (cd x) v then sm t0 (fun i => P (cd x) * ipw (zl (i + 1)) (dgv (cd x) v)) else 0
theorem m158F {G : AG} (hG : FIX G) {s : Nat → Nat × Nat} {mr : Nat → Nat → Nat} (hM : MS s mr) {n : Nat × Nat} {mi : Nat → Nat → Int32} (hT : MTab mi) {y3 y6 : Int32} {i op v t0 : Nat} {P : Po} (hi : i < 58) (ho : op < 192) (hv : v < 5) (ht0 : mi 119 (12 * op) = zi t0) (ht2 : t0 ≤ 2) : ∀ (f K : Nat) (o8 o10 o11 o12 o13 o15 : Option AV) (ml : Nat → Nat → Int64), K + f = 252 → MPo i P ml → (∀ k, k < 252 → ml 130 k = sm K (fun x => fxS P t0 v x (cd k))) →
    ∃ ml' p8 p10 p11 p12 p13 p15, G 158 94 [some (.inr (.inr 114)), some (.inl (zi i)), some (.inl (zi op)), some (.inl y3), some (.inl (zi v)), some (.inl (zi (6 ^ v))), some (.inl y6), some (.inl (zi K)), o8, none, o10, o11, o12, o13, none, o15, none, none] [] (s, n, mi, ml, mr) = G 158 474 [some (.inr (.inr 114)), some (.inl (zi i)), some (.inl (zi op)), some (.inl y3), some (.inl (zi v)), some (.inl (zi (6 ^ v))), some (.inl y6), some (.inl (zi 252)), p8, none, p10, p11, p12, p13, none, p15, none, none] [] (s, n, mi, ml', mr) ∧ (∀ k, k < 252 → ml' 130 k = sm 252 (fun x => fxS P t0 v x (cd k))) ∧ MD ml ml'
  | 0, K, o8, o10, o11, o12, o13, o15, ml, hK, hP, hB => by
    have e : K = 252 := by omega
    subst e
    refine ⟨ml, o8, o10, o11, o12, o13, o15, ?_, hB, fun _ _ => rfl⟩
    rw [b158_94 hG]
    simp (disch := omega) only [zi_lit, zi_le, Nat.le_refl, decide_true, cnd_t]
  | f + 1, K, o8, o10, o11, o12, o13, o15, ml, hK, hP, hB => by
    have hK2 : K < 252 := by omega
    have hPK := hP K hK2
    obtain ⟨vK, -⟩ := rk_cd hK2
    obtain ⟨q1, q2, q3, q4⟩ := rst_ok vK hv
    obtain ⟨c1, c2⟩ := cd_rk q2
    have hp6 : dgv (cd K) v < 6 := Nat.mod_lt _ (by decide)
    have tv : mi 122 (5 * K + v) = zi (dgv (cd K) v) := hT.1 K v hK2 hv
    have e160 := m160 hG hM (n := n) (mi := mi) (ml := ml) hT hK2
    have hrs : zi (cd K) - zi (dgv (cd K) v * 6 ^ v) = zi (rst (cd K) v) := by rw [zi_sub q1]; rfl
    have hrow : mi 123 (rst (cd K) v) = zi (rk (rst (cd K) v)) := by rw [hT.2.1 _ q2.1, if_pos q2.2]
    have hlt := q2.1
    obtain ⟨m1, p10, p11, p12, p13, p15, e1, r1, r2, r3⟩ := m158S hG hM (n := n) (mi := mi) (y1 := zi i) (y3 := y3) (y4 := zi v) (y5 := zi (6 ^ v)) (y6 := y6) (w := P (cd K)) (b0 := ml 130 (rk (rst (cd K) v))) ho hK2 hp6 c2 ht0 ht2 t0 0 o13 o15 ml (by omega) (by show _ = _ + (0 : Int64); rw [Int64.add_zero])
    obtain ⟨ml', p8, q10, q11, q12, q13, q15, e', s1, s2⟩ := m158F hG hM (s := s) (mr := mr) (n := n) (mi := mi) hT hi ho hv ht0 ht2 f (K + 1) (some (.inr (.inl (P (cd K))))) p10 p11 p12 p13 p15 m1 (by omega) (MPo_MD hP r3) (fun k hk => by
      show _ = sm K (fun x => fxS P t0 v x (cd k)) + fxS P t0 v K (cd k)
      unfold fxS
      by_cases e : k = rk (rst (cd K) v)
      · rw [e, r1, hB _ c2, c1, if_pos rfl]
        rfl
      · rw [r2 k e, hB k hk, if_neg (fun h => e (by rw [← h, (rk_cd hk).2])), Int64.add_zero]
        rfl)
    refine ⟨ml', p8, q10, q11, q12, q13, q15, ?_, s1, MD_trans r3 s2⟩
    refine (b158_94 hG ..).trans ?_
    have hc : decide ((252 : Int32) ≤ zi K) = false := decide_eq_false (by show ¬ zi 252 ≤ zi K; rw [zi_le (by omega) (by omega)]; omega)
    rw [hc, cnd_f]
    simp (disch := omega) only [km hM, Nat.beq_refl, cnd_t, as_I, bind_s, gm67 hM, gm61 hM, gm62 hM, am126 hM, am122 hM, am123 hM, zi_lit, zi_add, zi_mul, hPK, tv, e160, hrs, hrow]
    exact e1.trans e'