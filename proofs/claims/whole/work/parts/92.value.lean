/-! value: numbers -/
theorem ti0 : (0 : Int64).toInt = 0 := rfl
theorem nneg_xor (a : Int64) : decide (0 ≤ (a ^^^ 8640)) = decide (0 ≤ a) := by
  have h : ∀ x : Int64, decide (0 ≤ x) = !x.toBitVec.msb := by
    intro x
    rw [BitVec.msb_eq_toInt, ← decide_not]
    exact decide_eq_decide.mpr (by rw [Int64.le_iff_toInt_le, ti0]; show 0 ≤ x.toBitVec.toInt ↔ ¬ x.toBitVec.toInt < 0; omega)
  rw [h, h]
  have e : (a ^^^ 8640).toBitVec = a.toBitVec ^^^ (8640 : Int64).toBitVec := rfl
  rw [e, BitVec.msb_xor, show (8640 : Int64).toBitVec.msb = false from rfl, Bool.xor_false]
def vR (sd : Nat) (a : Int64) : Int64 := a / 8640 + (if sd = 1 then (if a - a / 8640 * 8640 < 0 then -1 else 0) else (if 0 < a - a / 8640 * 8640 then 1 else 0))
theorem dv_ti (a : Int64) : (a / 8640).toInt = a.toInt.tdiv 8640 ∧ (a / 8640 * 8640).toInt = a.toInt.tdiv 8640 * 8640 ∧ (a - a / 8640 * 8640).toInt = a.toInt.tmod 8640 := by
  have h0 := Int64.le_toInt a
  have h1 := Int64.toInt_lt a
  have e8 : (8640 : Int64).toInt = 8640 := rfl
  obtain ⟨A, hA⟩ : ∃ A, A = a.toInt := ⟨_, rfl⟩
  rw [← hA] at h0 h1
  have hm := Int.mul_tdiv_add_tmod A 8640
  have hb : A.tdiv 8640 ≤ 9223372036854775807 ∧ -9223372036854775808 ≤ A.tdiv 8640 ∧ A.tdiv 8640 * 8640 ≤ 9223372036854775807 ∧ -9223372036854775808 ≤ A.tdiv 8640 * 8640 ∧ A.tmod 8640 < 8640 ∧ -8640 < A.tmod 8640 := by
    rcases Int.le_total 0 A with hp | hrn
    · have h2 := Int.tmod_nonneg 8640 hp
      have h3 := Int.tmod_lt_of_pos A (by decide : (0 : Int) < 8640)
      have h4 : (0 : Int) ≤ A.tdiv 8640 := Int.tdiv_nonneg hp (by decide)
      omega
    · have h2 : (-A).tmod 8640 = -(A.tmod 8640) := Int.neg_tmod A 8640
      have h3 := Int.tmod_nonneg 8640 (by omega : 0 ≤ -A)
      have h4 := Int.tmod_lt_of_pos (-A) (by decide : (0 : Int) < 8640)
      have h5 : (-A).tdiv 8640 = -(A.tdiv 8640) := Int.neg_tdiv A 8640
      have h6 : (0 : Int) ≤ (-A).tdiv 8640 := Int.tdiv_nonneg (by omega) (by decide)
      omega
  have q1 : (a / 8640).toInt = A.tdiv 8640 := by
    rw [Int64.toInt_div, e8, ← hA]
    exact Int.bmod_eq_of_le (by omega) (by omega)
  have q2 : (a / 8640 * 8640).toInt = A.tdiv 8640 * 8640 := by
    rw [Int64.toInt_mul, q1, e8]
    exact Int.bmod_eq_of_le (by omega) (by omega)
  refine ⟨by rw [q1, hA], by rw [q2, hA], ?_⟩
  rw [Int64.toInt_sub, q2, ← hA]
  have : A - A.tdiv 8640 * 8640 = A.tmod 8640 := by omega
  rw [this]
  exact Int.bmod_eq_of_le (by omega) (by omega)
theorem c104 {G : AG} (hG : FIX G) (a : Int64) (H : Hp) : G 104 0 [some (.inr (.inl a)), none, some (.inr (.inl 8640)), none, none, none] [] H = some (some (.inr (.inl (vR 1 a))), H) := by
  obtain ⟨d1, d2, d3⟩ := dv_ti a
  refine (b104_0 hG ..).trans ?_
  rw [if_neg (by decide : ¬ (8640 : Int64) = 0), bind_s, cmp_0le, nneg_xor, cmp_eq0]
  unfold vR
  rw [if_pos rfl]
  by_cases hp : 0 ≤ a
  · rw [decide_eq_true hp, cnd_t]
    have hr : ¬ a - a / 8640 * 8640 < 0 := by
      rw [Int64.lt_iff_toInt_lt, ti0, d3]
      rw [Int64.le_iff_toInt_le, ti0] at hp
      have := Int.tmod_nonneg 8640 hp
      omega
    rw [if_neg hr, Int64.add_zero]
    exact b104_27 hG ..
  · rw [decide_eq_false hp, cnd_f]
    rw [Int64.le_iff_toInt_le, ti0] at hp
    have hm := Int.mul_tdiv_add_tmod a.toInt 8640
    have h2 : (-a.toInt).tmod 8640 = -(a.toInt.tmod 8640) := Int.neg_tmod _ 8640
    have h3 := Int.tmod_nonneg 8640 (by omega : 0 ≤ -a.toInt)
    by_cases he : a / 8640 * 8640 = a
    · rw [decide_eq_true he, cnd_t]
      have hr : ¬ a - a / 8640 * 8640 < 0 := by
        rw [he, Int64.sub_self]; decide
      rw [if_neg hr, Int64.add_zero]
      exact b104_27 hG ..
    · rw [decide_eq_false he, cnd_f]
      have hr : a - a / 8640 * 8640 < 0 := by
        rw [Int64.lt_iff_toInt_lt, ti0, d3]
        have h4 : a.toInt.tmod 8640 ≠ 0 := fun h5 => he (by rw [← Int64.toInt_inj, d2]; omega)
        omega
      rw [if_pos hr, Int64.sub_eq_add_neg]
theorem vR_neg {a : Int64} (h : a.toInt.natAbs < 9223372036854775808) : -(vR 1 (-a)) = vR 0 a := by
  obtain ⟨d1, d2, d3⟩ := dv_ti a
  obtain ⟨n1, n2, n3⟩ := dv_ti (-a)
  rw [neg_ti h, Int.neg_tdiv] at n1
  rw [neg_ti h, Int.neg_tmod] at n3
  have e1 : (-a) / 8640 = -(a / 8640) := by
    rw [← Int64.toInt_inj, n1, neg_ti (by rw [d1]; have := Int.natAbs_tdiv_le_natAbs a.toInt 8640; omega), d1]
  unfold vR
  rw [if_pos rfl, if_neg (by decide : ¬ (0 : Nat) = 1), e1]
  have hc : ((-a) - -(a / 8640) * 8640 < 0) ↔ (0 < a - a / 8640 * 8640) := by
    rw [← e1, Int64.lt_iff_toInt_lt, Int64.lt_iff_toInt_lt, ti0, n3, d3]; omega
  by_cases hp : 0 < a - a / 8640 * 8640
  · rw [if_pos (hc.mpr hp), if_pos hp, Int64.neg_add, Int64.neg_neg, Int64.sub_eq_add_neg]
    rfl
  · rw [if_neg (fun h => hp (hc.mp h)), if_neg hp, Int64.add_zero, Int64.add_zero, Int64.neg_neg]
/-- a bound -/
def BD (M : Nat) (x : Int64) : Prop := x.toInt.natAbs ≤ M
theorem BD_add {M N : Nat} {x y : Int64} (hx : BD M x) (hy : BD N y) (h : M + N < 9223372036854775808) : BD (M + N) (x + y) := by
  unfold BD at *
  rw [Int64.toInt_add, Int.bmod_eq_of_le (by omega) (by omega)]
  omega
theorem BD_mul {M N : Nat} {x y : Int64} (hx : BD M x) (hy : BD N y) (h : M * N < 9223372036854775808) : BD (M * N) (x * y) := by
  unfold BD at *
  have h1 : (x.toInt * y.toInt).natAbs ≤ M * N := by rw [Int.natAbs_mul]; exact Nat.mul_le_mul hx hy
  rw [Int64.toInt_mul, Int.bmod_eq_of_le (by omega) (by omega)]
  exact h1
theorem BD_mono {M N : Nat} {x : Int64} (h : BD M x) (hm : M ≤ N) : BD N x := Nat.le_trans h hm
theorem BD_sm {M : Nat} {f : Nat → Int64} : ∀ {n : Nat}, (∀ i, i < n → BD M (f i)) → n * M < 9223372036854775808 → BD (n * M) (sm n f)
  | 0, _, _ => by show (0 : Int64).toInt.natAbs ≤ _; rw [ti0]; exact Nat.zero_le _
  | n + 1, h, hb => by
    have e : (n + 1) * M = n * M + M := Nat.succ_mul n M
    rw [e] at hb ⊢
    exact BD_add (BD_sm (fun i hi => h i (by omega)) (by omega)) (h n (by omega)) hb
theorem BD_ipw {x : Nat} (hx : x ≤ 20) : ∀ {p : Nat}, p ≤ 5 → BD (20 ^ p) (ipw (zl x) p)
  | 0, _ => by show (1 : Int64).toInt.natAbs ≤ 1; decide
  | p + 1, hp => by
    have ih := BD_ipw hx (p := p) (by omega)
    have h20 : 20 ^ p ≤ 20 ^ 5 := Nat.pow_le_pow_right (by decide) (by omega)
    have e5 : (20 : Nat) ^ 5 = 3200000 := rfl
    have hz : BD 20 (zl x) := by show (zl x).toInt.natAbs ≤ 20; rw [zl_ti (by omega)]; omega
    rw [Nat.pow_succ]
    exact BD_mul ih hz (by omega)
def vS (P : Po) (x0 x1 : Int64) : Int64 := sm 6 (fun a => sm 6 (fun b => F36 P (a * 6 + b) * ipw x1 b) * ipw x0 a)
theorem vS_eq (P : Po) (x0 x1 : Int64) : vS P x0 x1 = sm 6 (fun a => sm 6 (fun b => F36 P (a * 6 + b) * ipw x1 b * ipw x0 a)) := by
  refine sm_congr (fun a _ => ?_)
  rw [Int64.mul_comm, sm_mul]
  exact sm_congr (fun b _ => Int64.mul_comm _ _)
theorem vS_bd {P : Po} {x0 x1 : Nat} (hg : gdn P 252 = true) (h0 : x0 ≤ 20) (h1 : x1 ≤ 20) : BD 995328000000000000 (vS P (zl x0) (zl x1)) := by
  rw [vS_eq]
  have ht : ∀ a, a < 6 → ∀ b, b < 6 → BD 27648000000000000 (F36 P (a * 6 + b) * ipw (zl x1) b * ipw (zl x0) a) := by
    intro a ha b hb
    by_cases h : a + b ≤ 5
    · have hf : BD 8640000000 (F36 P (a * 6 + b)) := inr_abs (F36_good hg _)
      have e5 : (20 : Nat) ^ 5 = 3200000 := rfl
      have hb5 : 20 ^ b ≤ 20 ^ 5 := Nat.pow_le_pow_right (by decide) (by omega)
      have hab : 20 ^ b * 20 ^ a ≤ 20 ^ 5 := by rw [← Nat.pow_add]; exact Nat.pow_le_pow_right (by decide) (by omega)
      have m1 : 8640000000 * 20 ^ b ≤ 8640000000 * 3200000 := Nat.mul_le_mul_left _ (by omega)
      have b1 := BD_mul hf (BD_ipw h1 (p := b) (by omega)) (by omega)
      have m2 : 8640000000 * 20 ^ b * 20 ^ a ≤ 8640000000 * 3200000 := by rw [Nat.mul_assoc]; exact Nat.mul_le_mul_left _ (by omega)
      exact BD_mono (BD_mul b1 (BD_ipw h0 (p := a) (by omega)) (by omega)) (by omega)
    · rw [F36_at hb, if_neg h, Int64.zero_mul, Int64.zero_mul]
      show (0 : Int64).toInt.natAbs ≤ _
      rw [ti0]; exact Nat.zero_le _
  have hi : ∀ a, a < 6 → BD (6 * 27648000000000000) (sm 6 (fun b => F36 P (a * 6 + b) * ipw (zl x1) b * ipw (zl x0) a)) := fun a ha => BD_sm (ht a ha) (by decide)
  exact BD_sm hi (by decide)
/-- Horner -/
def hrn (f : Nat → Int64) (x : Int64) : Nat → Int64
  | 0 => 0
  | k + 1 => hrn (fun i => f (i + 1)) x k * x + f 0
theorem hrn_sm (x : Int64) : ∀ (k : Nat) (f : Nat → Int64), hrn f x k = sm k (fun i => f i * ipw x i)
  | 0, _ => rfl
  | k + 1, f => by
    rw [hrn, hrn_sm x k, sm_head, Int64.add_comm]
    congr 1
    · exact (Int64.mul_one _).symm
    · rw [Int64.mul_comm, sm_mul]
      exact sm_congr (fun i _ => by show x * (f (i + 1) * ipw x i) = f (i + 1) * (ipw x i * x); rw [Int64.mul_comm, Int64.mul_assoc])
