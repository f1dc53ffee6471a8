/-! the class: what is reached, whether it is whole; refusals -/
theorem zi_or (a b : Nat) : zi a ||| zi b = zi (a ||| b) := (congrArg Int32.ofBitVec (BitVec.ofNat_or (w := 32) (x := a) (y := b))).symm
theorem bit_at : ∀ (a : Fin 256) (d : Fin 8), (zi a.val >>> (zi d.val &&& 31)) &&& 1 = zi (if a.val.testBit d.val then 1 else 0) := by decide +kernel
theorem bit_sh : ∀ d : Fin 8, (1 : Int32) <<< (zi d.val &&& 31) = zi (2 ^ d.val) := by decide +kernel
theorem bit_z {a d : Nat} (ha : a < 256) (hd : d < 8) : decide (((zi a >>> (zi d &&& 31)) &&& 1) = 0) = !(a.testBit d) := by
  have h := bit_at ⟨a, ha⟩ ⟨d, hd⟩
  show decide (((zi a >>> (zi d &&& 31)) &&& 1) = 0) = _
  rw [show ((zi a >>> (zi d &&& 31)) &&& 1) = zi (if a.testBit d then 1 else 0) from h]
  cases a.testBit d <;> rfl
theorem or_256 {a b : Nat} (ha : a < 256) (hb : b < 256) : a ||| b < 256 := Nat.or_lt_two_pow (n := 8) ha hb
/-- the routines that are reached, as bits -/
def rch (Q : Pg) : Nat → Nat → Nat
  | 0, b => b
  | k + 1, b => rch Q k (if b.testBit k then b ||| cbs (qk Q k) (qd Q k) (qn Q k) else b)
theorem cbs_bit {K D : Nat → Nat} {d : Nat} : ∀ {p : Nat}, (cbs K D p).testBit d = true ↔ ∃ q, q < p ∧ K q = 4 ∧ D q = d
  | 0 => by
    rw [cbs, Nat.zero_testBit]
    exact ⟨fun h => Bool.noConfusion h, fun ⟨q, h, _⟩ => absurd h (Nat.not_lt_zero q)⟩
  | p + 1 => by
    rw [cbs]
    by_cases hk : K p = 4
    · rw [if_pos hk, Nat.testBit_or, Bool.or_eq_true, cbs_bit, Nat.testBit_two_pow, decide_eq_true_eq]
      constructor
      · rintro (⟨q, h1, h2, h3⟩ | h)
        · exact ⟨q, by omega, h2, h3⟩
        · exact ⟨p, by omega, hk, h⟩
      · rintro ⟨q, h1, h2, h3⟩
        by_cases e : q = p
        · exact Or.inr (by rw [← e]; exact h3)
        · exact Or.inl ⟨q, by omega, h2, h3⟩
    · rw [if_neg hk, cbs_bit]
      constructor
      · rintro ⟨q, h1, h2, h3⟩
        exact ⟨q, by omega, h2, h3⟩
      · rintro ⟨q, h1, h2, h3⟩
        have e : q ≠ p := fun e => hk (by rw [← e]; exact h2)
        exact ⟨q, by omega, h2, h3⟩
theorem rch_mono {Q : Pg} {d : Nat} : ∀ {k b : Nat}, b.testBit d = true → (rch Q k b).testBit d = true
  | 0, b, h => h
  | k + 1, b, h => by
    rw [rch]
    refine rch_mono ?_
    split
    · rw [Nat.testBit_or, h]; rfl
    · exact h
theorem rch_hi {Q : Pg} (hW : WP Q) {d : Nat} : ∀ {k b : Nat}, k ≤ d → (rch Q k b).testBit d = b.testBit d
  | 0, b, _ => rfl
  | k + 1, b, h => by
    rw [rch, rch_hi hW (by omega)]
    split
    · rw [Nat.testBit_or]
      have hn : (cbs (qk Q k) (qd Q k) (qn Q k)).testBit d = false := by
        cases hc : (cbs (qk Q k) (qd Q k) (qn Q k)).testBit d
        · rfl
        · obtain ⟨q, h1, h2, h3⟩ := cbs_bit.mp hc
          have := hW.2.2.2.2.2.1 k q h1 h2
          omega
      rw [hn, Bool.or_false]
    · rfl
theorem rch_cl {Q : Pg} (hW : WP Q) : ∀ {k b j p : Nat}, j < k → (rch Q k b).testBit j = true → p < qn Q j → qk Q j p = 4 → (rch Q k b).testBit (qd Q j p) = true
  | 0, b, j, p, hj, _, _, _ => by omega
  | k + 1, b, j, p, hj, h, hp, hk => by
    rw [rch] at h ⊢
    by_cases e : j = k
    · subst e
      rw [rch_hi hW (Nat.le_refl _)] at h
      have hb : b.testBit j = true := by
        split at h
        · rename_i hb; exact hb
        · exact h
      rw [if_pos hb]
      refine rch_mono ?_
      rw [Nat.testBit_or, cbs_bit.mpr ⟨p, hp, hk, rfl⟩, Bool.or_true]
    · exact rch_cl hW (by omega) h hp hk
theorem rch_whl {Q : Pg} (hW : WP Q) : ∀ {k b : Nat}, k ≤ 8 → (∀ d, b.testBit d = true → whl Q d = true ∧ d < 8) → ∀ d, (rch Q k b).testBit d = true → whl Q d = true ∧ d < 8
  | 0, b, _, h => h
  | k + 1, b, hk, h => by
    rw [rch]
    refine rch_whl hW (by omega) (fun d hd => ?_)
    split at hd
    · rename_i hb
      rw [Nat.testBit_or, Bool.or_eq_true] at hd
      rcases hd with hd | hd
      · exact h d hd
      · obtain ⟨q, h1, h2, h3⟩ := cbs_bit.mp hd
        have hl := hW.2.2.2.2.2.1 k q h1 h2
        rw [← h3]
        exact ⟨whl_call hW (by omega) (h k hb).1 h1 h2, by omega⟩
    · exact h d hd
theorem rch_lt {Q : Pg} (hW : WP Q) : ∀ {k b : Nat}, k ≤ 8 → b < 256 → rch Q k b < 256
  | 0, b, _, h => h
  | k + 1, b, hk, h => by
    rw [rch]
    refine rch_lt hW (by omega) ?_
    split
    · exact or_256 h (cbs_lt (fun q hq hk4 => by have := hW.2.2.2.2.2.1 k q hq hk4; omega))
    · exact h
def rcd (Q : Pg) (r : Nat) : Nat := rch Q (r + 1) (2 ^ r)
theorem two_lt {r : Nat} (hr : r < 8) : 2 ^ r < 256 := by
  have h : 2 ^ r ≤ 2 ^ 7 := Nat.pow_le_pow_right (by decide) (by omega)
  have : (2 : Nat) ^ 7 = 128 := rfl
  omega
theorem rcd_lt {Q : Pg} (hW : WP Q) {r : Nat} (hr : r < 8) : rcd Q r < 256 := rch_lt hW (by omega) (two_lt hr)
theorem rcd_self (Q : Pg) (r : Nat) : (rcd Q r).testBit r = true := rch_mono Nat.testBit_two_pow_self
theorem rcd_le {Q : Pg} (hW : WP Q) {r d : Nat} (hd : (rcd Q r).testBit d = true) : d ≤ r := by
  by_cases h : d ≤ r
  · exact h
  · unfold rcd at hd
    rw [rch_hi hW (by omega), Nat.testBit_two_pow, decide_eq_true_eq] at hd
    omega
/-- all that are reached are closed: it is whole -/
def alw (Q : Pg) (b : Nat) : Nat → Bool
  | 0 => true
  | k + 1 => alw Q b k && (!(b.testBit k) || (stk (qk Q k) (qn Q k)).isEmpty)
theorem alw_at {Q : Pg} {b : Nat} : ∀ {n k : Nat}, alw Q b n = true → k < n → b.testBit k = true → (stk (qk Q k) (qn Q k)).isEmpty = true
  | 0, k, _, hk, _ => by omega
  | n + 1, k, h, hk, hb => by
    unfold alw at h
    rw [Bool.and_eq_true] at h
    by_cases e : k = n
    · subst e
      have := h.2
      rw [hb] at this; exact this
    · exact alw_at h.1 (by omega) hb
theorem alw_of {Q : Pg} {b : Nat} : ∀ {n : Nat}, (∀ k, k < n → b.testBit k = true → (stk (qk Q k) (qn Q k)).isEmpty = true) → alw Q b n = true
  | 0, _ => rfl
  | n + 1, h => by
    unfold alw
    rw [alw_of (fun k hk => h k (by omega)), Bool.true_and]
    cases hb : b.testBit n
    · rfl
    · rw [h n (by omega) hb]; rfl
theorem alw_mono {Q : Pg} {b a : Nat} (h : alw Q b a = false) : ∀ d, alw Q b (a + d) = false
  | 0 => h
  | d + 1 => by show (alw Q b (a + d) && _) = false; rw [alw_mono h d]; rfl
theorem rcd_alw {Q : Pg} (hW : WP Q) {r : Nat} (hr : r < 8) : alw Q (rcd Q r) 8 = whl Q r := by
  rw [Bool.eq_iff_iff]
  constructor
  · intro h
    have key : ∀ d, d < 8 → (rcd Q r).testBit d = true → whl Q d = true := by
      intro d
      induction d using Nat.strongRecOn with
      | _ d ih =>
        intro hd8 hd
        have hcl := alw_at h hd8 hd
        have hle := rcd_le hW hd
        rw [whl_eq hW hd8]
        have hp : ∀ p, p ≤ qn Q d → whp Q d p = true := by
          intro p
          induction p with
          | zero => exact fun _ => hcl
          | succ p ihp =>
            intro hpn
            rw [whp, ihp (by omega), Bool.true_and]
            by_cases hk : qk Q d p = 4
            · have hl := hW.2.2.2.2.2.1 d p (by omega) hk
              rw [ih _ hl (by omega) (rch_cl hW (by omega) hd (by omega) hk), Bool.or_true]
            · rw [decide_eq_true hk]; rfl
        exact hp _ (Nat.le_refl _)
    exact key r hr (rcd_self Q r)
  · intro h
    refine alw_of (fun k hk hb => ?_)
    have := rch_whl hW (k := r + 1) (b := 2 ^ r) (by omega) (fun d hd => by
      rw [Nat.testBit_two_pow, decide_eq_true_eq] at hd
      rw [← hd]; exact ⟨h, hr⟩) k hb
    rw [whl_nil hW hk this.1]; rfl
theorem c68 {G : AG} (hG : FIX G) {s : Nat → Nat × Nat} {mr : Nat → Nat → Nat} (hC : CS s mr) {n : Nat × Nat} {mi : Nat → Nat → Int32} {Q : Pg} {N : Nat} (hQ : CQ Q N s mi mr) (hW : WP Q) {r : Nat} {ml : Nat → Nat → Int64} (hr : r < 8) : G 68 0 [some (.inr (.inr 4)), some (.inr (.inr (42 + 9 * r))), none, none] [] (s, n, mi, ml, mr) = some (some (.inl (zi (rcd Q r))), (s, n, mi, ml, mr)) := by
  have h21 := (hQ.2.1 r hr).1
  have L : ∀ (k b : Nat), k ≤ 8 → b < 256 → G 68 12 [some (.inr (.inr 4)), some (.inr (.inr (42 + 9 * r))), some (.inl (zi b)), some (.inl (zi k + (-1)))] [] (s, n, mi, ml, mr) = some (some (.inl (zi (rch Q k b))), (s, n, mi, ml, mr)) := by
    intro k
    induction k with
    | zero =>
      intro b _ _
      refine (b68_12 hG ..).trans ?_
      rw [lt0_m1, cnd_t]; rfl
    | succ k ih =>
      intro b hk hb
      rw [zi_dec]
      refine (b68_12 hG ..).trans ?_
      have c0 : decide (zi k < 0) = false := decide_eq_false (Int32.not_lt.mpr (zi_ge0 (by omega)))
      have h26 := (hQ.2.1 k (by omega)).2.2.2.2.1
      have hc := cbs_lt (K := qk Q k) (D := qd Q k) (p := qn Q k) (fun q hq hk4 => by have := hW.2.2.2.2.2.1 k q hq hk4; omega)
      rw [c0, cnd_f, bit_z hb (by omega), rch]
      cases ht : b.testBit k
      · rw [Bool.not_false, cnd_t]
        refine (b68_36 hG ..).trans ?_
        exact ih b (by omega) hb
      · rw [Bool.not_true, cnd_f, gc43 hC, bind_s, ac5 hC (by omega), bind_s, gc26 hC (by omega), bind_s, h26, zi_or]
        refine (b68_36 hG ..).trans ?_
        exact ih _ (by omega) (or_256 hb hc)
  refine (b68_0 hG ..).trans ?_
  rw [gc21 hC hr, bind_s, bind_s, h21, bit_sh ⟨r, hr⟩]
  have := L (r + 1) (2 ^ r) (by omega) (two_lt hr)
  rw [zi_dec] at this
  exact this
theorem c70 {G : AG} (hG : FIX G) {s : Nat → Nat × Nat} {mr : Nat → Nat → Nat} (hC : CS s mr) {n : Nat × Nat} {mi : Nat → Nat → Int32} {Q : Pg} {N : Nat} (hQ : CQ Q N s mi mr) (hW : WP Q) {r : Nat} {ml : Nat → Nat → Int64} (hr : r < 8) : G 70 0 [some (.inr (.inr (42 + 9 * r)))] [] (s, n, mi, ml, mr) = some (some (.inl (bz (stk (qk Q r) (qn Q r)).isEmpty)), (s, n, mi, ml, mr)) := by
  have h25 := (hQ.2.1 r hr).2.2.1
  have hln := stk_len (qk Q r) (qn Q r)
  have h24 : qn Q r ≤ 24 := hW.2.1 r
  refine (b70_0 hG ..).trans ?_
  rw [gc25 hC hr, bind_s, h25]
  cases hs : stk (qk Q r) (qn Q r) with
  | nil =>
    rw [show decide (zi ([] : List (Nat × Nat)).length ≠ 0) = false from by decide, cnd_f]
    exact b70_12 hG ..
  | cons a T =>
    rw [hs, List.length_cons] at hln
    rw [List.length_cons, decide_eq_true (by show zi (T.length + 1) ≠ zi 0; rw [zi_ne (by omega) (by omega)]; omega : zi (T.length + 1) ≠ 0), cnd_t]
    exact b70_12 hG ..
theorem c69 {G : AG} (hG : FIX G) {s : Nat → Nat × Nat} {mr : Nat → Nat → Nat} (hC : CS s mr) {n : Nat × Nat} {mi : Nat → Nat → Int32} {Q : Pg} {N : Nat} (hQ : CQ Q N s mi mr) (hW : WP Q) {b : Nat} {ml : Nat → Nat → Int64} (hb : b < 256) : G 69 0 [some (.inr (.inr 4)), some (.inl (zi b)), none] [] (s, n, mi, ml, mr) = some (some (.inl (bz (alw Q b 8))), (s, n, mi, ml, mr)) := by
  have L : ∀ (f k : Nat), k + f = 8 → alw Q b k = true → G 69 2 [some (.inr (.inr 4)), some (.inl (zi b)), some (.inl (zi k))] [] (s, n, mi, ml, mr) = some (some (.inl (bz (alw Q b 8))), (s, n, mi, ml, mr)) := by
    intro f
    induction f with
    | zero =>
      intro k hk ha
      have e : k = 8 := by omega
      subst e
      refine (b69_2 hG ..).trans ?_
      rw [show decide ((8 : Int32) ≤ zi 8) = true from by decide, cnd_t, ha]; rfl
    | succ f ih =>
      intro k hk ha
      have c0 : decide ((8 : Int32) ≤ zi k) = false := decide_eq_false (by show ¬ zi 8 ≤ zi k; rw [zi_le (by omega) (by omega)]; omega)
      have hb7 : Nat.beq (s (42 + 9 * k)).1 7 = true := by rw [kc42 hC (by omega)]; rfl
      have e30 : G 69 30 [some (.inr (.inr 4)), some (.inl (zi b)), some (.inl (zi k))] [] (s, n, mi, ml, mr) = G 69 2 [some (.inr (.inr 4)), some (.inl (zi b)), some (.inl (zi (k + 1)))] [] (s, n, mi, ml, mr) := by
        refine (b69_30 hG ..).trans ?_
        rw [show zi k + 1 = zi (k + 1) from zi_add k 1]
      refine (b69_2 hG ..).trans ?_
      rw [c0, cnd_f, bit_z hb (by omega)]
      cases ht : b.testBit k
      · rw [Bool.not_false, cnd_t, e30]
        exact ih (k + 1) (by omega) (by rw [alw, ha, ht]; rfl)
      · rw [Bool.not_true, cnd_f, gc43 hC, bind_s, ac5 hC (by omega), bind_s, hb7, cnd_t, c70 hG hC hQ hW (by omega), bind_s, as_I, bind_s, bz_n0]
        cases he : (stk (qk Q k) (qn Q k)).isEmpty
        · rw [cnd_f]
          have h0 : alw Q b (k + 1) = false := by rw [alw, ht, he]; simp
          have := alw_mono h0 f
          rw [show k + 1 + f = 8 by omega] at this
          rw [this]; rfl
        · rw [cnd_t, e30]
          exact ih (k + 1) (by omega) (by rw [alw, ha, ht, he]; rfl)
  refine (b69_0 hG ..).trans ?_
  exact L 8 0 (by omega) rfl