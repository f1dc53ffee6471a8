/-! numbers: an int that is a natural number, booleans, ranges -/
def zi (n : Nat) : Int32 := Int32.ofNat n
theorem zi_lit (n : Nat) : (OfNat.ofNat n : Int32) = zi n := rfl
theorem zi_cl {n : Nat} (h : n < 2147483648) : (zi n).toNatClampNeg = n := Int32.toNatClampNeg_ofNat_of_lt h
theorem zi_ti {n : Nat} (h : n < 2147483648) : (zi n).toInt = n := Int32.toInt_ofNat_of_lt h
theorem zi_add (a b : Nat) : zi a + zi b = zi (a + b) := (Int32.ofNat_add a b).symm
theorem zi_mul (a b : Nat) : zi a * zi b = zi (a * b) := (Int32.ofNat_mul a b).symm
theorem zi_sub {a b : Nat} (h : b ≤ a) : zi a - zi b = zi (a - b) := (Int32.ofNat_sub a b h).symm
theorem zi_dec (a : Nat) : zi (a + 1) + (-1) = zi a := by
  rw [← zi_add]
  show zi a + 1 + (-1) = zi a
  rw [Int32.add_assoc, show (1 : Int32) + (-1) = 0 from rfl, Int32.add_zero]
theorem zi_dec' {a : Nat} (h : 0 < a) : zi a + (-1) = zi (a - 1) := by
  obtain ⟨b, rfl⟩ : ∃ b, a = b + 1 := ⟨a - 1, by omega⟩
  exact zi_dec b
theorem zi_lt {a b : Nat} (ha : a < 2147483648) (hb : b < 2147483648) : (zi a < zi b) = (a < b) := by
  rw [Int32.lt_iff_toInt_lt, zi_ti ha, zi_ti hb]; exact propext Int.ofNat_lt
theorem zi_le {a b : Nat} (ha : a < 2147483648) (hb : b < 2147483648) : (zi a ≤ zi b) = (a ≤ b) := by
  rw [Int32.le_iff_toInt_le, zi_ti ha, zi_ti hb]; exact propext Int.ofNat_le
theorem zi_eq {a b : Nat} (ha : a < 2147483648) (hb : b < 2147483648) : (zi a = zi b) = (a = b) := by
  rw [← Int32.toInt_inj, zi_ti ha, zi_ti hb]; exact propext Int.ofNat_inj
theorem zi_ne {a b : Nat} (ha : a < 2147483648) (hb : b < 2147483648) : (zi a ≠ zi b) = (a ≠ b) := by
  rw [ne_eq, zi_eq ha hb]
theorem zi_of {x : Int32} (h : 0 ≤ x) : ∃ n : Nat, n < 2147483648 ∧ x = zi n := by
  refine ⟨x.toNatClampNeg, x.toNatClampNeg_lt, ?_⟩
  rw [← Int32.toInt_inj, zi_ti x.toNatClampNeg_lt]
  rw [Int32.le_iff_toInt_le] at h
  have h0 : (0 : Int32).toInt = 0 := rfl
  show x.toInt = (x.toInt.toNat : Int)
  omega
theorem zi_ge0 {a : Nat} (ha : a < 2147483648) : (0 : Int32) ≤ zi a := by
  show zi 0 ≤ zi a
  rw [zi_le (by omega) ha]; omega
theorem inb_zi {i n : Nat} (h : i < n) (hn : n ≤ 2147483648) : inb (zi i) n = true := by
  unfold inb
  have h0 : ¬ zi i < 0 := by
    show ¬ zi i < zi 0
    rw [zi_lt (by omega) (by omega)]; omega
  rw [zi_cl (by omega), decide_eq_false h0]
  have h1 : Nat.ble n i = false := by
    rw [← Bool.not_eq_true, Nat.ble_eq]; omega
  rw [h1]; rfl
/-- a truth as a number -/
def bz (b : Bool) : Int32 := bif b then 1 else 0
theorem bz_ret (b : Bool) (H : Hp) : retZ (bz b) H = some (some (.inl (bz b)), H) := by cases b <;> rfl
theorem bz_0 (b : Bool) : decide (bz b = 0) = !b := by cases b <;> rfl
theorem bz_n0 (b : Bool) : decide (bz b ≠ 0) = b := by cases b <;> rfl
theorem bz_1 (b : Bool) : decide (bz b = 1) = b := by cases b <;> rfl
theorem bz_z0 (b : Bool) : decide (bz b = zi 0) = !b := by cases b <;> rfl
theorem bz_zn0 (b : Bool) : decide (¬ bz b = zi 0) = b := by cases b <;> rfl
theorem bz_z1 (b : Bool) : decide (bz b = zi 1) = b := by cases b <;> rfl
theorem bz_nn0 (b : Bool) : decide (¬ bz b = 0) = b := by cases b <;> rfl
theorem bzp_0 (b : Bool) : (bz b = 0) = (b = false) := by cases b <;> exact propext ⟨fun h => by first | rfl | exact absurd h (by decide), fun h => by first | rfl | cases h⟩
theorem bzp_1 (b : Bool) : (bz b = 1) = (b = true) := by cases b <;> exact propext ⟨fun h => by first | rfl | exact absurd h (by decide), fun h => by first | rfl | cases h⟩
theorem bzp_z0 (b : Bool) : (bz b = zi 0) = (b = false) := bzp_0 b
theorem bzp_z1 (b : Bool) : (bz b = zi 1) = (b = true) := bzp_1 b
theorem dec_bf (b : Bool) (i : Decidable (b = false)) : @decide (b = false) i = !b := by
  cases b
  · exact decide_eq_true rfl
  · exact decide_eq_false (fun h => Bool.noConfusion h)
theorem dec_bt (b : Bool) (i : Decidable (b = true)) : @decide (b = true) i = b := by
  cases b
  · exact decide_eq_false (fun h => Bool.noConfusion h)
  · exact decide_eq_true rfl
theorem dec_nbf (b : Bool) (i : Decidable (¬ b = false)) : @decide (¬ b = false) i = b := by
  cases b
  · exact decide_eq_false (fun h => h rfl)
  · exact decide_eq_true (fun h => Bool.noConfusion h)
theorem dec_nbt (b : Bool) (i : Decidable (¬ b = true)) : @decide (¬ b = true) i = !b := by
  cases b
  · exact decide_eq_true (fun h => Bool.noConfusion h)
  · exact decide_eq_false (fun h => h rfl)
theorem ret_1 (H : Hp) : retZ 1 H = some (some (.inl (bz true)), H) := rfl
theorem ret_0 (H : Hp) : retZ 0 H = some (some (.inl (bz false)), H) := rfl
theorem ret_z1 (H : Hp) : retZ (zi 1) H = some (some (.inl (bz true)), H) := rfl
theorem ret_z0 (H : Hp) : retZ (zi 0) H = some (some (.inl (bz false)), H) := rfl
theorem as_I (v : Int32) : asI (some (.inl v)) = some v := rfl
theorem as_J (v : Int64) : asJ (some (.inr (.inl v))) = some v := rfl
theorem as_R (v : Nat) : asR (some (.inr (.inr v))) = some v := rfl
theorem as_V : asV none = some () := rfl
theorem bind_s {α β : Type} (v : α) (f : α → Option β) : (some v).bind f = f v := rfl
theorem cnd_t {α : Type} (a b : α) : (bif true then a else b) = a := rfl
theorem cnd_f {α : Type} (a b : α) : (bif false then a else b) = b := rfl
/-- a number from 0 to under c -/
def isN (x : Int32) (c : Nat) : Bool := decide (0 ≤ x.toInt) && decide (x.toInt < c)
theorem isN_t {x : Int32} {c : Nat} (h : isN x c = true) : ∃ r : Nat, r < c ∧ r < 2147483648 ∧ x = zi r := by
  unfold isN at h
  rw [Bool.and_eq_true, decide_eq_true_eq, decide_eq_true_eq] at h
  obtain ⟨n, hn, rfl⟩ := zi_of (x := x) (by rw [Int32.le_iff_toInt_le]; exact h.1)
  rw [zi_ti hn] at h
  exact ⟨n, by omega, hn, rfl⟩
theorem isN_zi {r c : Nat} (hr : r < 2147483648) : isN (zi r) c = decide (r < c) := by
  unfold isN
  rw [zi_ti hr, decide_eq_true (by omega : (0 : Int) ≤ (r : Int)), Bool.true_and]
  exact decide_eq_decide.mpr Int.ofNat_lt
/-- compares of longs and ints -/
theorem cmp_lt0 (x y : Int64) : decide (lg_cmp x y < 0) = decide (x < y) := by
  unfold lg_cmp
  by_cases h : x > y
  · rw [if_pos h, decide_eq_false (by decide : ¬ ((1 : Int32) < 0))]
    refine (decide_eq_false fun h2 => ?_).symm
    rw [gt_iff_lt, Int64.lt_iff_toInt_lt] at h; rw [Int64.lt_iff_toInt_lt] at h2; omega
  · rw [if_neg h]
    by_cases h2 : x = y
    · rw [if_pos h2]; subst h2
      refine (decide_eq_false (by decide)).trans (decide_eq_false fun h3 => ?_).symm
      rw [Int64.lt_iff_toInt_lt] at h3; omega
    · rw [if_neg h2]
      refine (decide_eq_true (by decide)).trans (decide_eq_true ?_).symm
      rw [gt_iff_lt, Int64.lt_iff_toInt_lt] at h; rw [← Int64.toInt_inj] at h2; rw [Int64.lt_iff_toInt_lt]; omega
theorem cmp_0lt (x y : Int64) : decide (0 < lg_cmp x y) = decide (y < x) := by
  unfold lg_cmp
  by_cases h : x > y
  · rw [if_pos h]; exact (decide_eq_true (by decide)).trans (decide_eq_true h).symm
  · rw [if_neg h, show decide (y < x) = false from decide_eq_false h]
    by_cases h2 : x = y
    · rw [if_pos h2]; rfl
    · rw [if_neg h2]; rfl
theorem cmp_eq0 (x y : Int64) : decide (lg_cmp x y = 0) = decide (x = y) := by
  unfold lg_cmp
  by_cases h : x > y
  · rw [if_pos h]
    refine (decide_eq_false (by decide)).trans (decide_eq_false fun h2 => ?_).symm
    rw [h2, gt_iff_lt, Int64.lt_iff_toInt_lt] at h; omega
  · rw [if_neg h]
    by_cases h2 : x = y
    · rw [if_pos h2]; exact (decide_eq_true rfl).trans (decide_eq_true h2).symm
    · rw [if_neg h2]; exact (decide_eq_false (by decide)).trans (decide_eq_false h2).symm
theorem cmp_ne0 (x y : Int64) : decide (lg_cmp x y ≠ 0) = decide (x ≠ y) := by
  have h := cmp_eq0 x y
  rw [decide_not, decide_not, h]
theorem cmp_le0 (x y : Int64) : decide (lg_cmp x y ≤ 0) = decide (x ≤ y) := by
  have h := cmp_0lt x y
  have e1 : decide (lg_cmp x y ≤ 0) = !decide (0 < lg_cmp x y) := by
    rw [← decide_not]; exact decide_eq_decide.mpr Int32.not_lt.symm
  have e2 : decide (x ≤ y) = !decide (y < x) := by
    rw [← decide_not]; exact decide_eq_decide.mpr Int64.not_lt.symm
  rw [e1, e2, h]
theorem cmp_0le (x y : Int64) : decide (0 ≤ lg_cmp x y) = decide (y ≤ x) := by
  have h := cmp_lt0 x y
  have e1 : decide (0 ≤ lg_cmp x y) = !decide (lg_cmp x y < 0) := by
    rw [← decide_not]; exact decide_eq_decide.mpr Int32.not_lt.symm
  have e2 : decide (y ≤ x) = !decide (x < y) := by
    rw [← decide_not]; exact decide_eq_decide.mpr Int64.not_lt.symm
  rw [e1, e2, h]
/-! the longs that come of ints -/
def zl (n : Nat) : Int64 := Int64.ofNat n
theorem zl_lit (n : Nat) : (OfNat.ofNat n : Int64) = zl n := rfl
theorem zl_ti {n : Nat} (h : n < 9223372036854775808) : (zl n).toInt = n := Int64.toInt_ofNat_of_lt h
theorem zi_64 {n : Nat} (h : n < 2147483648) : (zi n).toInt64 = zl n := by
  rw [← Int64.toInt_inj, Int32.toInt_toInt64, zi_ti h, zl_ti (by omega)]
theorem zl_add (a b : Nat) : zl a + zl b = zl (a + b) := (Int64.ofNat_add a b).symm
theorem zl_mul (a b : Nat) : zl a * zl b = zl (a * b) := (Int64.ofNat_mul a b).symm
theorem zl_lt {a b : Nat} (ha : a < 9223372036854775808) (hb : b < 9223372036854775808) : (zl a < zl b) = (a < b) := by
  rw [Int64.lt_iff_toInt_lt, zl_ti ha, zl_ti hb]; exact propext Int.ofNat_lt
theorem zl_le {a b : Nat} (ha : a < 9223372036854775808) (hb : b < 9223372036854775808) : (zl a ≤ zl b) = (a ≤ b) := by
  rw [Int64.le_iff_toInt_le, zl_ti ha, zl_ti hb]; exact propext Int.ofNat_le
theorem zl_eq {a b : Nat} (ha : a < 9223372036854775808) (hb : b < 9223372036854775808) : (zl a = zl b) = (a = b) := by
  rw [← Int64.toInt_inj, zl_ti ha, zl_ti hb]; exact propext Int.ofNat_inj
theorem le64 (x : Int32) (a : Int64) : (a ≤ x.toInt64) = (a.toInt ≤ x.toInt) := by
  rw [Int64.le_iff_toInt_le, Int32.toInt_toInt64]
theorem ge64 (x : Int32) (a : Int64) : (x.toInt64 ≤ a) = (x.toInt ≤ a.toInt) := by
  rw [Int64.le_iff_toInt_le, Int32.toInt_toInt64]
/-! memories after a change -/
theorem up1_s {α : Type} (f : Nat → α) (k : Nat) (v : α) : up1 f k v k = v := if_pos rfl
theorem up1_n {α : Type} (f : Nat → α) {k j : Nat} (v : α) (h : j ≠ k) : up1 f k v j = f j := if_neg h
theorem up2_s {α : Type} (f : Nat → Nat → α) (r k : Nat) (v : α) : up2 f r k v r = up1 (f r) k v := if_pos rfl
theorem up2_n {α : Type} (f : Nat → Nat → α) {r k a : Nat} (v : α) (h : a ≠ r) : up2 f r k v a = f a := if_neg h
theorem up2_ap {α : Type} (f : Nat → Nat → α) (r k : Nat) (v : α) (a b : Nat) : up2 f r k v a b = if a = r then (if b = k then v else f r b) else f a b := by
  unfold up2 up1
  by_cases h : a = r
  · rw [if_pos h, if_pos h]
  · rw [if_neg h, if_neg h]
theorem up1_ap {α : Type} (f : Nat → α) (k : Nat) (v : α) (b : Nat) : up1 f k v b = if b = k then v else f b := rfl
