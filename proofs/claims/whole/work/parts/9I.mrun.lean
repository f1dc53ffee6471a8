/-! the model: runs: looking for what closes; worth of what is told; looks -/
/-- what is open stays below -/
theorem opn_T {K : Nat → Nat} {n q : Nat} (hW : WF K n) (hq : K q = 3 ∨ K q = 5) : ∀ {d : Nat}, q + 1 + d ≤ n → (∀ x, q < x → x < q + 1 + d → ¬ ((K x = 6 ∨ K x = 8) ∧ hdp (stk K x) = q)) → ∃ T y, stk K (q + 1 + d) = T ++ (q, y) :: stk K q
  | 0, _, _ => by
    have e0 : stk K (q + 1) = stq (K q) q (stk K q) := rfl
    rcases hq with h | h
    · exact ⟨[], 0, by rw [Nat.add_zero, e0, h, stq_3]; rfl⟩
    · exact ⟨[], 1, by rw [Nat.add_zero, e0, h, stq_5]; rfl⟩
  | d + 1, h1, h2 => by
    obtain ⟨T, y, e⟩ := opn_T hW hq (d := d) (by omega) (fun x hx hx2 => h2 x hx (by omega))
    have e0 : stk K (q + 1 + (d + 1)) = stq (K (q + 1 + d)) (q + 1 + d) (stk K (q + 1 + d)) := rfl
    rw [e0]
    have hx := h2 (q + 1 + d) (by omega) (by omega)
    rcases stq_ok (p := q + 1 + d) (hW (q + 1 + d) (by omega)) with ⟨-, e1⟩ | ⟨-, e1⟩ | ⟨-, e1⟩ | ⟨a, T', hS, hk6, e1⟩ | ⟨a, T', hS, -, e1⟩ | ⟨a, T', hS, hk8, e1⟩ <;> rw [e1]
    · exact ⟨T, y, e⟩
    · exact ⟨_ :: T, y, by rw [e]; rfl⟩
    · exact ⟨_ :: T, y, by rw [e]; rfl⟩
    · cases T with
      | nil => exact absurd ⟨Or.inl hk6, by rw [e]; rfl⟩ hx
      | cons b T => rw [e] at hS; cases hS; exact ⟨T, y, rfl⟩
    · cases T with
      | nil => rw [e] at hS; cases hS; exact ⟨[], 2, rfl⟩
      | cons b T => rw [e] at hS; cases hS; exact ⟨_ :: T, y, rfl⟩
    · cases T with
      | nil => exact absurd ⟨Or.inr hk8, by rw [e]; rfl⟩ hx
      | cons b T => rw [e] at hS; cases hS; exact ⟨T, y, rfl⟩
/-- nothing on top of what is closed -/
theorem opn_0 {K : Nat → Nat} {n q e : Nat} (hW : WF K n) (he : e ≤ n) {T : List (Nat × Nat)} {y : Nat} (hs : stk K e = T ++ (q, y) :: stk K q) (hd : hdp (stk K e) = q) : T = [] := by
  cases T with
  | nil => rfl
  | cons b T =>
    have ht := stk_tls (WF_le hW he)
    rw [hs] at ht hd
    have hb : b.1 = q := hd
    have h1 : stk K b.1 = T ++ (q, y) :: stk K q := ht.1
    rw [hb] at h1
    have := congrArg List.length h1
    rw [List.length_append, List.length_cons] at this
    omega
theorem m176 {G : AG} (hG : FIX G) {s : Nat → Nat × Nat} {mr : Nat → Nat → Nat} (hM : MS s mr) {n : Nat × Nat} {Q : Pg} {mi : Nat → Nat → Int32} {ml : Nat → Nat → Int64} {r q v : Nat} (hW : WP Q) (hD : mdQ Q mi) (hr : r < 8) (hk : qk Q r q = 3 ∨ qk Q r q = 5) (hv : v ≤ 8) (hE : qk Q r (cls (qk Q r) (qn Q r) q v) = v ∧ hdp (stk (qk Q r) (cls (qk Q r) (qn Q r) q v)) = q ∧ q < cls (qk Q r) (qn Q r) q v ∧ cls (qk Q r) (qn Q r) q v < qn Q r) (hx : ∀ x, q < x → x < cls (qk Q r) (qn Q r) q v → ¬ ((qk Q r x = 6 ∨ qk Q r x = 8 ∨ qk Q r x = v) ∧ hdp (stk (qk Q r) x) = q)) : G 176 0 [some (.inr (.inr 114)), some (.inl (zi (24 * r + q))), some (.inl (zi v)), none, none] [] (s, n, mi, ml, mr) = some (some (.inl (zi (24 * r + cls (qk Q r) (qn Q r) q v))), (s, n, mi, ml, mr)) := by
  obtain ⟨E, hEe⟩ : ∃ E, E = cls (qk Q r) (qn Q r) q v := ⟨_, rfl⟩
  rw [← hEe] at hE hx ⊢
  obtain ⟨k1, k2, k3, k4⟩ := hE
  have h24 : qn Q r ≤ 24 := hW.2.1 r
  have hWF := hW.2.2.2.1 r
  have am : ∀ e, e < qn Q r → hAI ((s, n, mi, ml, mr) : Hp) 116 (zi (24 * r + e)) = some (zi (qk Q r e)) := fun e he => by rw [am116 hM (by omega), (hD.2.2 r e hr he).1]
  have L : ∀ (f e : Nat) (T : List (Nat × Nat)) (y : Nat), e + f = E → q < e → stk (qk Q r) e = T ++ (q, y) :: stk (qk Q r) q → G 176 7 [some (.inr (.inr 114)), some (.inl (zi (24 * r + q))), some (.inl (zi v)), some (.inl (zi T.length)), some (.inl (zi (24 * r + e)))] [] (s, n, mi, ml, mr) = some (some (.inl (zi (24 * r + E))), (s, n, mi, ml, mr)) := by
    intro f
    induction f with
    | zero =>
      intro e T y hf hqe hs
      have he : e = E := by omega
      subst he
      have hT := opn_0 hWF (Nat.le_of_lt k4) hs k2
      subst hT
      refine (b176_7 hG ..).trans ?_
      rw [show decide ((0 : Int32) < zi ([] : List (Nat × Nat)).length) = false from by decide, cnd_f, gm52 hM, bind_s, am e k4, bind_s, k1, decide_eq_true rfl, cnd_t]
    | succ f ih =>
      intro e T y hf hqe hs
      have heE : e < E := by omega
      have hen : e < qn Q r := by omega
      have hlen : T.length ≤ 24 := by
        have h1 := stk_len (qk Q r) e
        rw [hs, List.length_append] at h1
        omega
      have nx := hx e hqe heE
      have s22 : G 176 7 [some (.inr (.inr 114)), some (.inl (zi (24 * r + q))), some (.inl (zi v)), some (.inl (zi T.length)), some (.inl (zi (24 * r + e)))] [] (s, n, mi, ml, mr) = G 176 22 [some (.inr (.inr 114)), some (.inl (zi (24 * r + q))), some (.inl (zi v)), some (.inl (zi T.length)), some (.inl (zi (24 * r + e)))] [] (s, n, mi, ml, mr) := by
        refine (b176_7 hG ..).trans ?_
        by_cases hT : 0 < T.length
        · rw [decide_eq_true (by show zi 0 < zi T.length; rw [zi_lt (by omega) (by omega)]; exact hT : (0 : Int32) < zi T.length), cnd_t]
        · rw [decide_eq_false (by show ¬ zi 0 < zi T.length; rw [zi_lt (by omega) (by omega)]; exact hT : ¬ (0 : Int32) < zi T.length), cnd_f, gm52 hM, bind_s, am e hen, bind_s]
          have hT0 : T = [] := List.length_eq_zero_iff.mp (by omega)
          have hne : qk Q r e ≠ v := fun h => nx ⟨Or.inr (Or.inr h), by rw [hs, hT0]; rfl⟩
          have hkb : qk Q r e ≤ 8 := by
            rcases hWF e hen with h | ⟨h, -⟩ | h | h | ⟨h, -⟩ | ⟨h, -⟩ | ⟨h, -⟩ <;> omega
          rw [decide_eq_false (by rw [zi_eq (by omega) (by omega)]; exact hne : ¬ zi (qk Q r e) = zi v), cnd_f]
      have nxt : ∀ d : Int32, G 176 78 [some (.inr (.inr 114)), some (.inl (zi (24 * r + q))), some (.inl (zi v)), some (.inl (zi T.length)), some (.inl (zi (24 * r + e)))] [.inl d, .inl (zi T.length)] (s, n, mi, ml, mr) = G 176 7 [some (.inr (.inr 114)), some (.inl (zi (24 * r + q))), some (.inl (zi v)), some (.inl (zi T.length + d)), some (.inl (zi (24 * r + (e + 1))))] [] (s, n, mi, ml, mr) := by
        intro d
        refine (b176_78 hG ..).trans ?_
        rw [show zi (24 * r + e) + 1 = zi (24 * r + (e + 1)) from zi_add _ 1]
      rw [s22]
      have e0 : stk (qk Q r) (e + 1) = stq (qk Q r e) e (stk (qk Q r) e) := rfl
      have mid : ∀ k : Nat, k ≤ 8 → qk Q r e = k → k ≠ 3 → k ≠ 5 → k ≠ 6 → k ≠ 8 → (∃ T', T'.length = T.length ∧ ∃ y', stk (qk Q r) (e + 1) = T' ++ (q, y') :: stk (qk Q r) q) → G 176 22 [some (.inr (.inr 114)), some (.inl (zi (24 * r + q))), some (.inl (zi v)), some (.inl (zi T.length)), some (.inl (zi (24 * r + e)))] [] (s, n, mi, ml, mr) = some (some (.inl (zi (24 * r + E))), (s, n, mi, ml, mr)) := by
        intro k hk8 hk0 n3 n5 n6 n8 hT
        obtain ⟨T', hl, y', hs'⟩ := hT
        have c : ∀ m : Nat, m ≤ 8 → k ≠ m → ¬ zi (qk Q r e) = zi m := fun m hm hkm => by rw [hk0, zi_eq (by omega) (by omega)]; exact hkm
        refine (b176_22 hG ..).trans ?_
        rw [gm52 hM, bind_s, am e hen, bind_s, show decide (zi (qk Q r e) = (3 : Int32)) = false from decide_eq_false (c 3 (by decide) n3), cnd_f, bind_s, am e hen, bind_s, show decide (zi (qk Q r e) ≠ (5 : Int32)) = true from decide_eq_true (c 5 (by decide) n5), cnd_t, bind_s, am e hen, bind_s, show decide (zi (qk Q r e) = (6 : Int32)) = false from decide_eq_false (c 6 (by decide) n6), cnd_f, bind_s, am e hen, bind_s, show decide (zi (qk Q r e) ≠ (8 : Int32)) = true from decide_eq_true (c 8 (by decide) n8), cnd_t, nxt, Int32.add_zero, ← hl]
        exact ih (e + 1) T' y' (by omega) (by omega) hs'
      have pop : ∀ b T', T = b :: T' → G 176 73 [some (.inr (.inr 114)), some (.inl (zi (24 * r + q))), some (.inl (zi v)), some (.inl (zi T.length)), some (.inl (zi (24 * r + e)))] [.inl (zi T.length)] (s, n, mi, ml, mr) = G 176 7 [some (.inr (.inr 114)), some (.inl (zi (24 * r + q))), some (.inl (zi v)), some (.inl (zi T'.length)), some (.inl (zi (24 * r + (e + 1))))] [] (s, n, mi, ml, mr) := by
        intro b T' hT
        refine (b176_73 hG ..).trans ?_
        rw [nxt, hT, List.length_cons, zi_dec]
      have psh : G 176 45 [some (.inr (.inr 114)), some (.inl (zi (24 * r + q))), some (.inl (zi v)), some (.inl (zi T.length)), some (.inl (zi (24 * r + e)))] [.inl (zi T.length)] (s, n, mi, ml, mr) = G 176 7 [some (.inr (.inr 114)), some (.inl (zi (24 * r + q))), some (.inl (zi v)), some (.inl (zi (T.length + 1))), some (.inl (zi (24 * r + (e + 1))))] [] (s, n, mi, ml, mr) := by
        refine (b176_45 hG ..).trans ?_
        rw [nxt, show zi T.length + 1 = zi (T.length + 1) from zi_add _ 1]
      rcases hWF e hen with h | ⟨h, -⟩ | h | h | ⟨h, a, U, hS⟩ | ⟨h, a, U, hS⟩ | ⟨h, a, U, hS⟩
      · exact mid 1 (by decide) h (by decide) (by decide) (by decide) (by decide) ⟨T, rfl, y, by rw [e0, h, stq_1, hs]⟩
      · refine (b176_22 hG ..).trans ?_
        rw [gm52 hM, bind_s, am e hen, bind_s, h, show decide (zi 3 = (3 : Int32)) = true from by decide, cnd_t, psh]
        exact ih (e + 1) ((e, 0) :: T) y (by omega) (by omega) (by rw [e0, h, stq_3, hs]; rfl)
      · exact mid 4 (by decide) h (by decide) (by decide) (by decide) (by decide) ⟨T, rfl, y, by rw [e0, h, stq_4, hs]⟩
      · refine (b176_22 hG ..).trans ?_
        rw [gm52 hM, bind_s, am e hen, bind_s, h, show decide (zi 5 = (3 : Int32)) = false from by decide, cnd_f, bind_s, am e hen, bind_s, h, show decide (zi 5 ≠ (5 : Int32)) = false from by decide, cnd_f, psh]
        exact ih (e + 1) ((e, 1) :: T) y (by omega) (by omega) (by rw [e0, h, stq_5, hs]; rfl)
      · cases T with
        | nil => exact absurd ⟨Or.inl h, by rw [hs]; rfl⟩ nx
        | cons b T' =>
          refine (b176_22 hG ..).trans ?_
          rw [gm52 hM, bind_s, am e hen, bind_s, h, show decide (zi 6 = (3 : Int32)) = false from by decide, cnd_f, bind_s, am e hen, bind_s, h, show decide (zi 6 ≠ (5 : Int32)) = true from by decide, cnd_t, bind_s, am e hen, bind_s, h, show decide (zi 6 = (6 : Int32)) = true from by decide, cnd_t, pop b T' rfl]
          exact ih (e + 1) T' y (by omega) (by omega) (by rw [e0, h, stq_6, hs]; rfl)
      · cases T with
        | nil => exact mid 7 (by decide) h (by decide) (by decide) (by decide) (by decide) ⟨[], rfl, 2, by rw [e0, h, hs]; rfl⟩
        | cons b T' => exact mid 7 (by decide) h (by decide) (by decide) (by decide) (by decide) ⟨(b.1, 2) :: T', rfl, y, by rw [e0, h, hs]; rfl⟩
      · cases T with
        | nil => exact absurd ⟨Or.inr (Or.inl h), by rw [hs]; rfl⟩ nx
        | cons b T' =>
          refine (b176_22 hG ..).trans ?_
          rw [gm52 hM, bind_s, am e hen, bind_s, h, show decide (zi 8 = (3 : Int32)) = false from by decide, cnd_f, bind_s, am e hen, bind_s, h, show decide (zi 8 ≠ (5 : Int32)) = true from by decide, cnd_t, bind_s, am e hen, bind_s, h, show decide (zi 8 = (6 : Int32)) = false from by decide, cnd_f, bind_s, am e hen, bind_s, h, show decide (zi 8 ≠ (8 : Int32)) = false from by decide, cnd_f, pop b T' rfl]
          exact ih (e + 1) T' y (by omega) (by omega) (by rw [e0, h, stq_8, hs]; rfl)
  refine (b176_0 hG ..).trans ?_
  rw [show (0 : Int32) = zi ([] : List (Nat × Nat)).length from rfl, show zi (24 * r + q) + 1 = zi (24 * r + (q + 1)) from zi_add _ 1]
  have e0 : stk (qk Q r) (q + 1) = stq (qk Q r q) q (stk (qk Q r) q) := rfl
  rcases hk with h | h
  · exact L (E - (q + 1)) (q + 1) [] 0 (by omega) (by omega) (by rw [e0, h, stq_3]; rfl)
  · exact L (E - (q + 1)) (q + 1) [] 1 (by omega) (by omega) (by rw [e0, h, stq_5]; rfl)
theorem m177_t {G : AG} (hG : FIX G) {s : Nat → Nat × Nat} {mr : Nat → Nat → Nat} (hM : MS s mr) {n : Nat × Nat} {mi : Nat → Nat → Int32} {ml : Nat → Nat → Int64} {k : Nat} (h76 : mi 114 76 = zi k) (hk : k < 20000) : G 177 0 [some (.inr (.inr 114))] [] (s, n, mi, ml, mr) = some (some (.inl (bz true)), (s, n, up2 mi 114 76 (zi (k + 1)), ml, mr)) := by
  refine (b177_0 hG ..).trans ?_
  rw [gm76 hM, bind_s, h76, show zi k + 1 = zi (k + 1) from zi_add k 1, pm76 hM, bind_s, gm76 hM, bind_s, up2_s, up1_s, decide_eq_false (by show ¬ zi 20000 < zi (k + 1); rw [zi_lt (by omega) (by omega)]; omega : ¬ (20000 : Int32) < zi (k + 1)), cnd_f]
  exact b177_25 hG ..
theorem m177_f {G : AG} (hG : FIX G) {s : Nat → Nat × Nat} {mr : Nat → Nat → Nat} (hM : MS s mr) {n : Nat × Nat} {mi : Nat → Nat → Int32} {ml : Nat → Nat → Int64} (h76 : mi 114 76 = zi 20000) : G 177 0 [some (.inr (.inr 114))] [] (s, n, mi, ml, mr) = some (some (.inl (bz false)), (s, n, up2 mi 114 76 (zi 20001), ml, mr)) := by
  refine (b177_0 hG ..).trans ?_
  rw [gm76 hM, bind_s, h76, show zi 20000 + 1 = zi 20001 from zi_add 20000 1, pm76 hM, bind_s, gm76 hM, bind_s, up2_s, up1_s, show decide ((20000 : Int32) < zi 20001) = true from by decide, cnd_t]
  exact b177_25 hG ..
theorem m175 {G : AG} (hG : FIX G) {s : Nat → Nat × Nat} {mr : Nat → Nat → Nat} (hM : MS s mr) {n : Nat × Nat} {Q : Pg} {mi : Nat → Nat → Int32} {ml : Nat → Nat → Int64} {r p x0 x1 l sd : Nat} {c : Nat → Nat} (hD : mdQ Q mi) (hW : WP Q) (hr : r < 8) (hp : p < qn Q r) (hs : sd ≤ 1) (h79 : mi 114 79 = zi x0) (h80 : mi 114 80 = zi x1) (h81 : mi 114 81 = zi l) (hl : l ≤ 3) (hc : ∀ j, j < l → mi 135 j = zi (c j)) (hc0 : ∀ j, l ≤ j → c j = 0) : G 175 0 [some (.inr (.inr 114)), some (.inl (zi (24 * r + p))), some (.inl (zi sd)), none, none] [] (s, n, mi, ml, mr) = some (some (.inl (zi (exv (fun q => qt Q r p (6 * sd + q)) x0 x1 c))), (s, n, mi, ml, mr)) := by
  have h24 : qn Q r ≤ 24 := hW.2.1 r
  have am : ∀ q, q < 6 → hAI ((s, n, mi, ml, mr) : Hp) 119 (zi (12 * (24 * r + p) + 6 * sd + q)) = some (zi (qt Q r p (6 * sd + q))) := fun q hq => by
    rw [am119 hM (by omega), show 12 * (24 * r + p) + 6 * sd + q = 12 * (24 * r + p) + (6 * sd + q) by omega, (hD.2.2 r p hr hp).2.2.2 (6 * sd + q) (by omega)]
  have ix : (12 : Int32) * zi (24 * r + p) + 6 * zi sd = zi (12 * (24 * r + p) + 6 * sd) := by
    rw [show (12 : Int32) = zi 12 from rfl, show (6 : Int32) = zi 6 from rfl, zi_mul, zi_mul, zi_add]
  have st : ∀ (v j : Nat), j < l → G 175 62 [some (.inr (.inr 114)), some (.inl (zi (24 * r + p))), some (.inl (zi sd)), some (.inl (zi v)), some (.inl (zi j))] [] (s, n, mi, ml, mr) = G 175 62 [some (.inr (.inr 114)), some (.inl (zi (24 * r + p))), some (.inl (zi sd)), some (.inl (zi (v + qt Q r p (6 * sd + (3 + j)) * c j))), some (.inl (zi (j + 1)))] [] (s, n, mi, ml, mr) := by
    intro v j hj
    refine (b175_62 hG ..).trans ?_
    rw [gm81 hM, bind_s, h81, decide_eq_false (by rw [zi_le (by omega) (by omega)]; omega : ¬ zi l ≤ zi j), cnd_f, gm55 hM, bind_s, ix, show (3 : Int32) = zi 3 from rfl, zi_add, zi_add, show 12 * (24 * r + p) + 6 * sd + 3 + j = 12 * (24 * r + p) + 6 * sd + (3 + j) by omega, am (3 + j) (by omega), bind_s, gm82 hM, bind_s, am135 hM (by omega), bind_s, hc j hj, zi_mul, zi_add, show zi j + 1 = zi (j + 1) from zi_add j 1]
  have en : ∀ (v : Nat), G 175 62 [some (.inr (.inr 114)), some (.inl (zi (24 * r + p))), some (.inl (zi sd)), some (.inl (zi v)), some (.inl (zi l))] [] (s, n, mi, ml, mr) = some (some (.inl (zi v)), (s, n, mi, ml, mr)) := by
    intro v
    refine (b175_62 hG ..).trans ?_
    rw [gm81 hM, bind_s, h81, decide_eq_true (by rw [zi_le (by omega) (by omega)]; omega : zi l ≤ zi l), cnd_t]
  refine (b175_0 hG ..).trans ?_
  rw [gm55 hM, bind_s, ix, am119 hM (by omega), bind_s, bind_s, show zi (12 * (24 * r + p) + 6 * sd) + 1 = zi (12 * (24 * r + p) + 6 * sd + 1) from zi_add _ 1, am 1 (by decide), bind_s, gm79 hM, bind_s, h79, bind_s, show zi (12 * (24 * r + p) + 6 * sd) + 2 = zi (12 * (24 * r + p) + 6 * sd + 2) from zi_add _ 2, am 2 (by decide), bind_s, gm80 hM, bind_s, h80, (hD.2.2 r p hr hp).2.2.2 (6 * sd) (by omega), zi_mul, zi_mul, zi_add, zi_add, show (0 : Int32) = zi 0 from rfl]
  unfold exv
  have hl4 : l = 0 ∨ l = 1 ∨ l = 2 ∨ l = 3 := by omega
  rcases hl4 with h | h | h | h
  · subst h
    rw [en, hc0 0 (by decide), hc0 1 (by decide), hc0 2 (by decide)]
    rfl
  · subst h
    rw [st _ 0 (by decide), en, hc0 1 (by decide), hc0 2 (by decide)]
    rfl
  · subst h
    rw [st _ 0 (by decide), st _ 1 (by decide), en, hc0 2 (by decide)]
    rfl
  · subst h
    rw [st _ 0 (by decide), st _ 1 (by decide), st _ 2 (by decide), en]
    rfl