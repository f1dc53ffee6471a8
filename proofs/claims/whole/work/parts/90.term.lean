/-! term: numbers, the greatest common divisor, the place of a term -/
theorem zl_div {a b : Nat} (ha : a < 9223372036854775808) (hb : b < 9223372036854775808) : zl a / zl b = zl (a / b) := by
  have h1 : a / b < 9223372036854775808 := Nat.lt_of_le_of_lt (Nat.div_le_self a b) ha
  rw [← Int64.toInt_inj, Int64.toInt_div, zl_ti ha, zl_ti hb, zl_ti h1]
  rw [← Int.ofNat_tdiv]
  obtain ⟨q, hq⟩ : ∃ q, q = a / b := ⟨_, rfl⟩
  rw [← hq] at h1 ⊢
  clear hq
  exact Int.bmod_eq_of_le (by omega) (by omega)
theorem zl_sub {a b : Nat} (h : b ≤ a) : zl a - zl b = zl (a - b) := (Int64.ofNat_sub a b h).symm
theorem zl_mod {a b : Nat} (ha : a < 9223372036854775808) (hb : b < 9223372036854775808) : zl a - zl a / zl b * zl b = zl (a % b) := by
  have h2 : a / b * b ≤ a := Nat.div_mul_le_self a b
  rw [zl_div ha hb, zl_mul, zl_sub h2]
  congr 1
  have := Nat.div_add_mod a b
  rw [Nat.mul_comm] at this
  omega
theorem inr_abs {v : Int64} (h : inr v = true) : v.toInt.natAbs ≤ 8640000000 := by
  unfold inr at h
  rw [Bool.and_eq_true, decide_eq_true_eq, decide_eq_true_eq, Int64.le_iff_toInt_le, Int64.le_iff_toInt_le] at h
  have h1 : (-8640000000 : Int64).toInt = -8640000000 := rfl
  have h2 : (8640000000 : Int64).toInt = 8640000000 := rfl
  rw [h1, h2] at h
  omega
theorem neg_ti {v : Int64} (h : v.toInt.natAbs < 9223372036854775808) : (-v).toInt = -v.toInt := by
  rw [Int64.toInt_neg]
  exact Int.bmod_eq_of_le (by omega) (by omega)
theorem abs_zl {v : Int64} (h : v.toInt.natAbs < 9223372036854775808) : (if 0 < v then v else -v) = zl v.toInt.natAbs ∧ (bif decide (0 ≤ v) then v else -v) = zl v.toInt.natAbs := by
  have h0 : (0 : Int64).toInt = 0 := rfl
  constructor
  · rw [← Int64.toInt_inj, zl_ti h]
    split
    · rename_i hp; rw [Int64.lt_iff_toInt_lt, h0] at hp; omega
    · rename_i hp; rw [Int64.lt_iff_toInt_lt, h0] at hp; rw [neg_ti h]; omega
  · rw [← Int64.toInt_inj, zl_ti h]
    by_cases hp : 0 ≤ v
    · rw [decide_eq_true hp, cnd_t]; rw [Int64.le_iff_toInt_le, h0] at hp; omega
    · rw [decide_eq_false hp, cnd_f, neg_ti h]; rw [Int64.le_iff_toInt_le, h0] at hp; omega
def eu : Nat → Nat → Nat → Nat
  | 0, x, _ => x
  | f + 1, x, y => if y = 0 then x else eu f y (x % y)
theorem eu_S (f x y) : eu (f + 1) x y = if y = 0 then x else eu f y (x % y) := rfl
def gS (v : Int64) : Int64 := zl (eu 64 8640 (v.toInt.natAbs % 8640))
def fnd (f : Nat → Int64) : Nat → Nat → Option Nat
  | 0, _ => none
  | w + 1, t => if f w = 0 then fnd f w t else if t = 0 then some w else fnd f w (t - 1)
theorem fnd_S (f w t) : fnd f (w + 1) t = if f w = 0 then fnd f w t else if t = 0 then some w else fnd f w (t - 1) := rfl
theorem fnd_lt {f : Nat → Int64} : ∀ {w t i : Nat}, fnd f w t = some i → i < w ∧ f i ≠ 0
  | 0, t, i, h => by cases h
  | w + 1, t, i, h => by
    rw [fnd_S] at h
    split at h
    · have := fnd_lt h; exact ⟨by omega, this.2⟩
    · split at h
      · cases h; rename_i h1 h2; exact ⟨Nat.lt_succ_self _, h1⟩
      · have := fnd_lt h; exact ⟨by omega, this.2⟩
theorem fnd_skip {f : Nat → Int64} {a t : Nat} : ∀ d, (∀ i, a ≤ i → i < a + d → f i = 0) → fnd f (a + d) t = fnd f a t
  | 0, _ => rfl
  | d + 1, h => by
    show fnd f (a + d + 1) t = _
    rw [fnd_S, if_pos (h _ (by omega) (by omega))]
    exact fnd_skip d (fun i h1 h2 => h i h1 (by omega))
def tmv (P : Po) (w : Nat) : Option Nat → Int64
  | none => -1000001
  | some i => if w = 0 then F36 P i / gS (F36 P i) else if w = 1 then 8640 / gS (F36 P i) else if w = 2 then zl (i / 6) else zl (i % 6)
def rTerm (Q : Pg) (x y t w : Int32) : Int64 := bif isN x (qc Q) && (isN y 2 && (decide (0 ≤ t) && isN w 4)) then (bif whl Q x.toNatClampNeg then (match fml Q y.toNatClampNeg x.toNatClampNeg with
  | none => -1000003
  | some P => tmv P w.toNatClampNeg (fnd (F36 P) 36 t.toNatClampNeg)) else -1000002) else -1000001
theorem F36_good {P : Po} (hg : gdn P 252 = true) (i : Nat) : inr (F36 P i) = true := by
  unfold F36
  split
  · rename_i h
    obtain ⟨h1, -, -, -, -⟩ := code_ab h
    obtain ⟨r1, r2⟩ := cd_rk h1
    have := gdn_at hg r2
    rw [r1] at this; exact this
  · rfl
theorem eu_run {G : AG} (hG : FIX G) (H : Hp) : ∀ (k x y : Nat), y < x → x < 2 ^ k → k ≤ 20 → ∃ g, 0 < g ∧ g < 9223372036854775808 ∧ (∀ m, eu (2 * k + m) x y = g) ∧ (∀ (a b : Int64) (o8 : Option AV), G 167 17 [some (.inr (.inl a)), none, some (.inr (.inl b)), none, some (.inr (.inl (zl x))), none, some (.inr (.inl (zl y))), none, o8, none] [] H = some (some (.inr (.inl (zl g))), H)) ∧ (∀ (a : Int64) (tn : Nat) (o7 : Option AV), tn + 2 * k ≤ 63 → G 99 17 [some (.inr (.inl a)), none, some (.inr (.inl (zl x))), none, some (.inr (.inl (zl y))), none, some (.inl (zi tn)), o7, none] [] H = some (some (.inr (.inl (zl g))), H)) := by
  intro k
  have zz : zl 0 = 0 := rfl
  have end1 : ∀ (x : Nat) (a b : Int64) (o8 : Option AV), G 167 17 [some (.inr (.inl a)), none, some (.inr (.inl b)), none, some (.inr (.inl (zl x))), none, some (.inr (.inl (zl 0))), none, o8, none] [] H = some (some (.inr (.inl (zl x))), H) := by
    intro x a b o8
    refine (b167_17 hG ..).trans ?_
    rw [cmp_eq0, decide_eq_true zz, cnd_t]
  have end2 : ∀ (x : Nat) (a : Int64) (tn : Nat) (o7 : Option AV), 0 < x → x < 9223372036854775808 → tn ≤ 63 → G 99 17 [some (.inr (.inl a)), none, some (.inr (.inl (zl x))), none, some (.inr (.inl (zl 0))), none, some (.inl (zi tn)), o7, none] [] H = some (some (.inr (.inl (zl x))), H) := by
    intro x a tn o7 hx hx2 ht
    refine (b99_17 hG ..).trans ?_
    have c1 : decide ((64 : Int32) ≤ zi tn) = false := decide_eq_false (by show ¬ zi 64 ≤ zi tn; rw [zi_le (by omega) (by omega)]; omega)
    rw [c1, cnd_f, cmp_eq0, decide_eq_true zz, cnd_t]
    refine (b99_50 hG ..).trans ?_
    by_cases h1 : 1 < x
    · rw [if_pos (by show zl 1 < zl x; rw [zl_lt (by omega) hx2]; exact h1)]
    · have e : x = 1 := by omega
      subst e
      rw [if_neg (by decide)]; rfl
  have stp1 : ∀ (x y : Nat) (a b : Int64) (o8 : Option AV), 0 < y → x < 9223372036854775808 → y < 9223372036854775808 → G 167 17 [some (.inr (.inl a)), none, some (.inr (.inl b)), none, some (.inr (.inl (zl x))), none, some (.inr (.inl (zl y))), none, o8, none] [] H = G 167 17 [some (.inr (.inl a)), none, some (.inr (.inl b)), none, some (.inr (.inl (zl y))), none, some (.inr (.inl (zl (x % y)))), none, some (.inr (.inl (zl (x % y)))), none] [] H := by
    intro x y a b o8 hy hx hy2
    refine (b167_17 hG ..).trans ?_
    have hn : ¬ zl y = 0 := by show ¬ zl y = zl 0; rw [zl_eq hy2 (by omega)]; omega
    rw [cmp_eq0, decide_eq_false hn, cnd_f, if_neg hn, bind_s, zl_mod hx hy2]
  have stp2 : ∀ (x y : Nat) (a : Int64) (tn : Nat) (o7 : Option AV), 0 < y → x < 9223372036854775808 → y < 9223372036854775808 → tn ≤ 63 → G 99 17 [some (.inr (.inl a)), none, some (.inr (.inl (zl x))), none, some (.inr (.inl (zl y))), none, some (.inl (zi tn)), o7, none] [] H = G 99 17 [some (.inr (.inl a)), none, some (.inr (.inl (zl y))), none, some (.inr (.inl (zl (x % y)))), none, some (.inl (zi (tn + 1))), some (.inr (.inl (zl (x % y)))), none] [] H := by
    intro x y a tn o7 hy hx hy2 ht
    refine (b99_17 hG ..).trans ?_
    have hn : ¬ zl y = 0 := by show ¬ zl y = zl 0; rw [zl_eq hy2 (by omega)]; omega
    have c1 : decide ((64 : Int32) ≤ zi tn) = false := decide_eq_false (by show ¬ zi 64 ≤ zi tn; rw [zi_le (by omega) (by omega)]; omega)
    rw [c1, cnd_f, cmp_eq0, decide_eq_false hn, cnd_f, if_neg hn, bind_s, zl_mod hx hy2, show zi tn + 1 = zi (tn + 1) from zi_add tn 1]
  have p20 : ∀ k : Nat, k ≤ 20 → (2 : Nat) ^ k < 9223372036854775808 := fun k hk => Nat.lt_of_le_of_lt (Nat.pow_le_pow_right (by decide) hk) (by decide)
  induction k with
  | zero =>
    intro x y hy hx _
    rw [Nat.pow_zero] at hx
    omega
  | succ k ih =>
    intro x y hy hx hk
    have hb := p20 (k + 1) hk
    by_cases hy0 : y = 0
    · subst hy0
      refine ⟨x, by omega, by omega, fun m => ?_, fun a b o8 => end1 x a b o8, fun a tn o7 ht => end2 x a tn o7 (by omega) (by omega) (by omega)⟩
      rw [show 2 * (k + 1) + m = (2 * k + 1 + m) + 1 by omega, eu_S, if_pos rfl]
    · have hr1 : x % y < y := Nat.mod_lt _ (by omega)
      by_cases hr0 : x % y = 0
      · refine ⟨y, by omega, by omega, fun m => ?_, fun a b o8 => ?_, fun a tn o7 ht => ?_⟩
        · rw [show 2 * (k + 1) + m = (2 * k + m) + 1 + 1 by omega, eu_S, if_neg hy0, eu_S, if_pos hr0]
        · rw [stp1 x y a b o8 (by omega) (by omega) (by omega), hr0]; exact end1 y a b _
        · rw [stp2 x y a tn o7 (by omega) (by omega) (by omega) (by omega), hr0]; exact end2 y a _ _ (by omega) (by omega) (by omega)
      · have hr2 : x % y < 2 ^ k := by
          have h1 := Nat.div_add_mod x y
          have h2 : 1 ≤ x / y := (Nat.one_le_div_iff (by omega)).mpr (by omega)
          have h3 : y * 1 ≤ y * (x / y) := Nat.mul_le_mul_left y h2
          rw [Nat.pow_succ] at hx
          omega
        obtain ⟨g, g1, g2, g3, g4, g5⟩ := ih (x % y) (y % (x % y)) (Nat.mod_lt _ (by omega)) hr2 (by omega)
        refine ⟨g, g1, g2, fun m => ?_, fun a b o8 => ?_, fun a tn o7 ht => ?_⟩
        · rw [show 2 * (k + 1) + m = (2 * k + m) + 1 + 1 by omega, eu_S, if_neg hy0, eu_S, if_neg hr0]; exact g3 m
        · rw [stp1 x y a b o8 (by omega) (by omega) (by omega), stp1 y (x % y) a b _ (by omega) (by omega) (by omega)]; exact g4 a b _
        · rw [stp2 x y a tn o7 (by omega) (by omega) (by omega) (by omega), stp2 y (x % y) a (tn + 1) _ (by omega) (by omega) (by omega) (by omega)]; exact g5 a _ _ (by omega)
theorem m167 {G : AG} (hG : FIX G) {v : Int64} (h : inr v = true) (H : Hp) : G 167 0 [some (.inr (.inl v)), none, some (.inr (.inl 8640)), none, none, none, none, none, none, none] [] H = some (some (.inr (.inl (gS v))), H) := by
  have ha := inr_abs h
  obtain ⟨g, g1, g2, g3, g4, -⟩ := eu_run hG H 14 8640 (v.toInt.natAbs % 8640) (Nat.mod_lt _ (by decide)) (by decide) (by decide)
  have e1 : gS v = zl g := by unfold gS; rw [← g3 36]
  rw [e1]
  refine (b167_0 hG ..).trans ?_
  rw [cmp_0le]
  have e2 : (bif decide (0 ≤ v) then G 167 12 [some (.inr (.inl v)), none, some (.inr (.inl 8640)), none, none, none, none, none, none, none] [.inr (.inl v)] H else G 167 12 [some (.inr (.inl v)), none, some (.inr (.inl 8640)), none, none, none, none, none, none, none] [.inr (.inl (-v))] H) = G 167 12 [some (.inr (.inl v)), none, some (.inr (.inl 8640)), none, none, none, none, none, none, none] [.inr (.inl (bif decide (0 ≤ v) then v else -v))] H := by
    cases decide (0 ≤ v) <;> rfl
  rw [e2, (abs_zl (by omega : v.toInt.natAbs < 9223372036854775808)).2]
  refine (b167_12 hG ..).trans ?_
  refine (b167_17 hG ..).trans ?_
  rw [show (8640 : Int64) = zl 8640 from rfl, cmp_eq0, decide_eq_false (by decide : ¬ zl 8640 = 0), cnd_f, if_neg (by decide : ¬ zl 8640 = 0), bind_s, zl_mod (by omega) (by decide)]
  exact g4 _ _ _
theorem c99 {G : AG} (hG : FIX G) {v : Int64} (h : inr v = true) (H : Hp) : G 99 0 [some (.inr (.inl v)), none, none, none, none, none, none, none, none] [] H = some (some (.inr (.inl (gS v))), H) := by
  have ha := inr_abs h
  obtain ⟨g, g1, g2, g3, -, g5⟩ := eu_run hG H 14 8640 (v.toInt.natAbs % 8640) (Nat.mod_lt _ (by decide)) (by decide) (by decide)
  have e1 : gS v = zl g := by unfold gS; rw [← g3 36]
  rw [e1]
  refine (b99_0 hG ..).trans ?_
  rw [if_neg (by decide : ¬ (8640 : Int64) = 0), bind_s, (abs_zl (by omega : v.toInt.natAbs < 9223372036854775808)).1, show (8640 : Int64) = zl 8640 from rfl, zl_mod (by omega) (by decide)]
  exact g5 _ 0 _ (by decide)
theorem gS_ne {G : AG} (hG : FIX G) {v : Int64} (h : inr v = true) : ¬ gS v = 0 := by
  obtain ⟨g, g1, g2, g3, -, -⟩ := eu_run hG (fun _ => (0, 0), (0, 0), fun _ _ => 0, fun _ _ => 0, fun _ _ => 0) 14 8640 (v.toInt.natAbs % 8640) (Nat.mod_lt _ (by decide)) (by decide) (by decide)
  have e1 : gS v = zl g := by unfold gS; rw [← g3 36]
  rw [e1]
  show ¬ zl g = zl 0
  rw [zl_eq g2 (by omega)]
  omega