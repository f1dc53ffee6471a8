/-! value: both sides -/
def rVal (Q : Pg) (x y a b : Int32) : Int64 := bif isN x (qc Q) && (isN y 2 && (isN a 21 && isN b 21)) then (bif whl Q x.toNatClampNeg then (match fml Q y.toNatClampNeg x.toNatClampNeg with
  | none => -1000003
  | some P => vR y.toNatClampNeg (vS P (zl a.toNatClampNeg) (zl b.toNatClampNeg))) else -1000002) else -1000001
theorem isN_cmp (x : Int32) {m : Nat} {y : Int32} (hy : y.toInt = m) : (!decide (x < 0) && !decide (y < x)) = isN x (m + 1) := by
  unfold isN
  congr 1
  · rw [← decide_not]; exact decide_eq_decide.mpr (by rw [Int32.not_lt, Int32.le_iff_toInt_le]; rfl)
  · rw [← decide_not]; exact decide_eq_decide.mpr (by rw [Int32.not_lt, Int32.le_iff_toInt_le, hy]; omega)
theorem m169 {G : AG} (hG : FIX G) {s : Nat → Nat × Nat} {mr : Nat → Nat → Nat} (hM : MS s mr) (a b : Int32) (H : Hp) : G 169 0 [some (.inl a), some (.inl b)] [] H = some (some (.inl (bz (isN a 21 && isN b 21))), H) := by
  have hin : ∀ y : Int32, (decide ((0 : Int64) ≤ y.toInt64) && decide (y.toInt64 ≤ (20 : Int64))) = isN y 21 := fun y => (in_zl y (by decide : 0 < 9223372036854775808) (by decide : 20 < 9223372036854775808)).trans (isB_0 y 20)
  refine (b169_0 hG ..).trans ?_
  simp only [m130 hG, bind_s, as_I, hin, bzp_0, dec_bf, b169_28 hG, b169_29 hG]
  cases isN a 21 <;> cases isN b 21 <;> rfl
theorem m170 {G : AG} (hG : FIX G) {s : Nat → Nat × Nat} {mr : Nat → Nat → Nat} (hM : MS s mr) {n : Nat × Nat} {mi : Nat → Nat → Int32} {ml : Nat → Nat → Int64} (hT : MTab mi) {r sd x0 x1 : Nat} {P : Po} (hr : r < 8) (hs : sd < 2) (hx0 : x0 ≤ 20) (hx1 : x1 ≤ 20) (hP : MPo (2 * r + sd) P ml) :
    G 170 0 [some (.inr (.inr 114)), some (.inl (zi r)), some (.inl (zi sd)), some (.inl (zi x0)), some (.inl (zi x1)), none, none, none, none, none, none, none, none] [] (s, n, mi, ml, mr) = some (some (.inr (.inl (vR sd (vS P (zl x0) (zl x1))))), (s, n, mi, ml, mr)) := by
  have LQ : ∀ (p : Nat) (A : Int64), p < 6 → ∀ (f q : Nat), q + f = 6 - p → G 170 23 [some (.inr (.inr 114)), some (.inl (zi r)), some (.inl (zi sd)), some (.inl (zi x0)), some (.inl (zi x1)), some (.inr (.inl (A + sm q (fun q => P (p + 6 * q) * (ipw (zl x0) p * ipw (zl x1) q))))), none, some (.inr (.inl (ipw (zl x0) p))), none, some (.inl (zi p)), some (.inr (.inl (ipw (zl x0) p * ipw (zl x1) q))), none, some (.inl (zi q))] [] (s, n, mi, ml, mr) = G 170 9 [some (.inr (.inr 114)), some (.inl (zi r)), some (.inl (zi sd)), some (.inl (zi x0)), some (.inl (zi x1)), some (.inr (.inl (A + sm (6 - p) (fun q => P (p + 6 * q) * (ipw (zl x0) p * ipw (zl x1) q))))), none, some (.inr (.inl (ipw (zl x0) (p + 1)))), none, some (.inl (zi (p + 1))), some (.inr (.inl (ipw (zl x0) p * ipw (zl x1) (6 - p)))), none, some (.inl (zi (6 - p)))] [] (s, n, mi, ml, mr) := by
    intro p A hp f
    induction f with
    | zero =>
      intro q hq
      have e : q = 6 - p := by omega
      subst e
      refine (b170_23 hG ..).trans ?_
      rw [decide_eq_true (by rw [zi_add]; show zi 6 ≤ zi (p + (6 - p)); rw [zi_le (by omega) (by omega)]; omega : (6 : Int32) ≤ zi p + zi (6 - p)), cnd_t, zi_64 (by omega), show zi p + 1 = zi (p + 1) from zi_add p 1]
      rfl
    | succ f ih =>
      intro q hq
      obtain ⟨v1, v2, -, -, v5⟩ := code_ab (by omega : p + q ≤ 5)
      obtain ⟨r1, r2⟩ := cd_rk v1
      refine Eq.trans ?_ (ih (q + 1) (by omega))
      refine (b170_23 hG ..).trans ?_
      have hrd : hAJ ((s, n, mi, ml, mr) : Hp) 126 (252 * ((2 * zi r) + zi sd) + zi (rk (p + 6 * q))) = some (P (p + 6 * q)) := by
        rw [show (252 : Int32) * ((2 * zi r) + zi sd) + zi (rk (p + 6 * q)) = zi (252 * (2 * r + sd) + rk (p + 6 * q)) from by rw [show (252 : Int32) = zi 252 from rfl, show (2 : Int32) = zi 2 from rfl, zi_mul, zi_add, zi_mul, zi_add], am126 hM (by omega), hP _ r2, r1]
      rw [decide_eq_false (by rw [zi_add]; show ¬ zi 6 ≤ zi (p + q); rw [zi_le (by omega) (by omega)]; omega : ¬ (6 : Int32) ≤ zi p + zi q), cnd_f, gm67 hM, bind_s, km hM, Nat.beq_refl, cnd_t, m166 hG hM hT (by omega), bind_s, as_I, bind_s, hrd, bind_s, zi_64 (by omega), show zi q + 1 = zi (q + 1) from zi_add q 1, Int64.mul_assoc (ipw (zl x0) p), Int64.add_assoc A]
      rfl
  have LP : ∀ (f p : Nat) (o10 o12 : Option AV), p + f = 6 → ∃ q10 q12, G 170 9 [some (.inr (.inr 114)), some (.inl (zi r)), some (.inl (zi sd)), some (.inl (zi x0)), some (.inl (zi x1)), some (.inr (.inl (sm p (fun p => sm (6 - p) (fun q => P (p + 6 * q) * (ipw (zl x0) p * ipw (zl x1) q)))))), none, some (.inr (.inl (ipw (zl x0) p))), none, some (.inl (zi p)), o10, none, o12] [] (s, n, mi, ml, mr) = G 170 9 [some (.inr (.inr 114)), some (.inl (zi r)), some (.inl (zi sd)), some (.inl (zi x0)), some (.inl (zi x1)), some (.inr (.inl (sm 6 (fun p => sm (6 - p) (fun q => P (p + 6 * q) * (ipw (zl x0) p * ipw (zl x1) q)))))), none, some (.inr (.inl (ipw (zl x0) 6))), none, some (.inl (zi 6)), q10, none, q12] [] (s, n, mi, ml, mr) := by
    intro f
    induction f with
    | zero =>
      intro p o10 o12 hp
      have e : p = 6 := by omega
      subst e
      exact ⟨o10, o12, rfl⟩
    | succ f ih =>
      intro p o10 o12 hp
      have hp6 : p < 6 := by omega
      obtain ⟨q10, q12, e1⟩ := ih (p + 1) (some (.inr (.inl (ipw (zl x0) p * ipw (zl x1) (6 - p))))) (some (.inl (zi (6 - p)))) (by omega)
      refine ⟨q10, q12, Eq.trans ?_ e1⟩
      refine (b170_9 hG ..).trans ?_
      rw [decide_eq_false (by show ¬ zi 6 ≤ zi p; rw [zi_le (by omega) (by omega)]; omega : ¬ (6 : Int32) ≤ zi p), cnd_f]
      have h0 := LQ p (sm p (fun p => sm (6 - p) (fun q => P (p + 6 * q) * (ipw (zl x0) p * ipw (zl x1) q)))) hp6 (6 - p) 0 (by omega)
      rw [show sm 0 (fun q => P (p + 6 * q) * (ipw (zl x0) p * ipw (zl x1) q)) = 0 from rfl, Int64.add_zero, show ipw (zl x1) 0 = 1 from rfl, Int64.mul_one] at h0
      exact h0
  have hall : sm 6 (fun p => sm (6 - p) (fun q => P (p + 6 * q) * (ipw (zl x0) p * ipw (zl x1) q))) = vS P (zl x0) (zl x1) := by
    rw [vS_eq]
    refine sm_congr (fun a ha => ?_)
    refine Eq.trans ?_ (sm_tail (k := 6 - a) (n := 6) (by omega) (fun b h1 h2 => by rw [F36_at h2, if_neg (by omega), Int64.zero_mul, Int64.zero_mul])).symm
    refine sm_congr (fun b hb => ?_)
    rw [F36_at (by omega), if_pos (by omega), Int64.mul_assoc, Int64.mul_comm (ipw (zl x0) a)]
  obtain ⟨q10, q12, e1⟩ := LP 6 0 none none (by omega)
  refine (b170_0 hG ..).trans ?_
  refine Eq.trans e1 ?_
  rw [hall]
  refine (b170_9 hG ..).trans ?_
  obtain ⟨V, hV⟩ : ∃ V, V = vS P (zl x0) (zl x1) := ⟨_, rfl⟩
  rw [← hV]
  rw [show decide ((6 : Int32) ≤ zi 6) = true from by decide, cnd_t, if_neg (by decide : ¬ (8640 : Int64) = 0), if_neg (by decide : ¬ (8640 : Int64) = 0), bind_s, bind_s, cmp_le0, cmp_0le]
  unfold vR
  have h01 : sd = 0 ∨ sd = 1 := by omega
  rcases h01 with rfl | rfl
  · rw [show decide (zi 0 ≠ (1 : Int32)) = true from by decide, cnd_t, if_neg (by decide : ¬ (0 : Nat) = 1)]
    by_cases hp : V - V / 8640 * 8640 ≤ 0
    · rw [decide_eq_true hp, cnd_t, if_neg (Int64.not_lt.mpr hp)]
      exact b170_139 hG ..
    · rw [decide_eq_false hp, cnd_f, if_pos (Int64.not_le.mp hp)]
      exact b170_139 hG ..
  · rw [show decide (zi 1 ≠ (1 : Int32)) = false from by decide, cnd_f, if_pos rfl]
    by_cases hp : 0 ≤ V - V / 8640 * 8640
    · rw [decide_eq_true hp, cnd_t, if_neg (Int64.not_lt.mpr hp)]
      exact b170_139 hG ..
    · rw [decide_eq_false hp, cnd_f, if_pos (Int64.not_le.mp hp)]
      exact b170_139 hG ..
theorem m168 {G : AG} (hG : FIX G) {s : Nat → Nat × Nat} {mr : Nat → Nat → Nat} (hM : MS s mr) {n : Nat × Nat} {Q : Pg} (hW : WP Q) {mi : Nat → Nat → Int32} {ml : Nat → Nat → Int64} (hQ : mdQ Q mi) (hT : MTab mi) (hK : MKn Q mi ml) (x y a b : Int32) :
    ∃ mi' ml', G 168 0 [some (.inr (.inr 114)), some (.inl x), some (.inl y), some (.inl a), some (.inl b), none] [] (s, n, mi, ml, mr) = some (some (.inr (.inl (rVal Q x y a b))), (s, n, mi', ml', mr)) ∧ MKn Q mi' ml' ∧ KF mi mi' ∧ LF ml ml' := by
  have h8 : qc Q ≤ 8 := hW.1
  have hin : (decide ((0 : Int64) ≤ y.toInt64) && decide (y.toInt64 ≤ (1 : Int64))) = isN y 2 := (in_zl y (by decide : 0 < 9223372036854775808) (by decide : 1 < 9223372036854775808)).trans (isB_0 y 1)
  have st : G 168 0 [some (.inr (.inr 114)), some (.inl x), some (.inl y), some (.inl a), some (.inl b), none] [] (s, n, mi, ml, mr) = bif isN x (qc Q) && (isN y 2 && (isN a 21 && isN b 21)) then (G 152 0 [some (.inr (.inr 114)), some (.inl x), some (.inl y)] [] (s, n, mi, ml, mr)).bind fun u7 => (asI u7.1).bind fun i8 => bif decide ((i8 : Int32) = 0) then bif Nat.beq (u7.2.1 114).1 12 then (G 170 0 [some (.inr (.inr 114)), some (.inl x), some (.inl y), some (.inl a), some (.inl b), none, none, none, none, none, none, none, none] [] u7.2).bind fun u9 => (asJ u9.1).bind fun j10 => G 168 59 [some (.inr (.inr 114)), some (.inl x), some (.inl y), some (.inl a), some (.inl b), some (.inl i8)] [.inr (.inl j10)] u9.2 else none else G 168 59 [some (.inr (.inr 114)), some (.inl x), some (.inl y), some (.inl a), some (.inl b), some (.inl i8)] [.inr (.inl i8.toInt64)] u7.2 else some (some (.inr (.inl (-1000001))), (s, n, mi, ml, mr)) := by
    refine (b168_0 hG ..).trans ?_
    simp only [km hM, Nat.beq_refl, cnd_t, m132 hG hM hQ hW, bind_s, as_I, bzp_0, dec_bf, ne_eq, dec_nbf, m130 hG, hin, m169 hG hM, b168_27 hG]
    cases isN x (qc Q) <;> cases isN y 2 <;> cases isN a 21 <;> cases isN b 21 <;> rfl
  rw [st]
  unfold rVal
  cases hb : (isN x (qc Q) && (isN y 2 && (isN a 21 && isN b 21)))
  · exact ⟨mi, ml, rfl, hK, KF_refl _, LF_refl _⟩
  · simp only [Bool.and_eq_true] at hb
    obtain ⟨hx, hy, ha, hbb⟩ := hb
    obtain ⟨r, hr, hr31, rfl⟩ := isN_t hx
    obtain ⟨sd, hs, hs31, rfl⟩ := isN_t hy
    obtain ⟨x0, hx0, hx31, rfl⟩ := isN_t ha
    obtain ⟨x1, hx1, hx131, rfl⟩ := isN_t hbb
    obtain ⟨m1, l1, e1, a1, b1, c1, d1⟩ := m152 hG hM (n := n) hW hr hs hQ hT hK
    refine ⟨m1, l1, ?_, ⟨true, d1, fun _ => a1⟩, b1, c1⟩
    rw [zi_cl hr31, zi_cl hs31, zi_cl hx31, zi_cl hx131, cnd_t, cnd_t, e1, bind_s, as_I, bind_s]
    unfold rFus
    cases hwh : whl Q r
    · exact b168_59 hG ..
    · cases hf : fml Q sd r with
      | none => exact b168_59 hG ..
      | some P =>
        have hP := ((a1 r hr).2.2 sd hs).2 hwh P hf
        rw [cnd_t, Option.isSome_some, cnd_t, show decide ((0 : Int32) = 0) = true from rfl, cnd_t, km hM, Nat.beq_refl, cnd_t, m170 hG hM (MTab_KF hT b1) (by omega) hs (by omega) (by omega) hP, bind_s, as_J, bind_s]
        exact b168_59 hG ..
theorem c102 {G : AG} (hG : FIX G) {s : Nat → Nat × Nat} {mr : Nat → Nat → Nat} (hC : CS s mr) (x : Int32) (H : Hp) : G 102 0 [some (.inl x)] [] H = some (some (.inl (bz (isN x 21))), H) := by
  rw [← isN_cmp x (m := 20) (y := 20) rfl]
  refine (b102_0 hG ..).trans ?_
  by_cases h0 : x < 0
  · rw [decide_eq_true h0, cnd_t]
    exact (b102_14 hG ..).trans (b102_15 hG ..)
  · rw [decide_eq_false h0, cnd_f]
    by_cases h1 : (20 : Int32) < x
    · rw [decide_eq_true h1, cnd_t]
      exact (b102_14 hG ..).trans (b102_15 hG ..)
    · rw [decide_eq_false h1, cnd_f]
      exact b102_15 hG ..
theorem c103 {G : AG} (hG : FIX G) {s : Nat → Nat × Nat} {mr : Nat → Nat → Nat} (hC : CS s mr) {n : Nat × Nat} {mi : Nat → Nat → Int32} {ml : Nat → Nat → Int64} {r sd x0 x1 : Nat} {P : Po} (hr : r < 8) (hs : sd < 2) (hx0 : x0 ≤ 20) (hx1 : x1 ≤ 20) (hg : gdn P 252 = true) (hF : CF (46 + 9 * r + sd) P ml) :
    G 103 0 [some (.inr (.inr (42 + 9 * r))), some (.inl (zi sd)), some (.inl (zi x0)), some (.inl (zi x1)), none, none, none, none, none, none] [] (s, n, mi, ml, mr) = some (some (.inr (.inl (vR sd (vS P (zl x0) (zl x1))))), (s, n, mi, ml, mr)) := by
  have hsf := csF hG hC hr hs
  have LB : ∀ (a : Nat) (S : Int64), a < 6 → ∀ (B : Nat), B ≤ 6 → G 103 17 [some (.inr (.inr (42 + 9 * r))), some (.inl (zi sd)), some (.inl (zi x0)), some (.inl (zi x1)), some (.inr (.inl S)), none, some (.inl (zi a)), some (.inr (.inl (hrn (fun i => F36 P (a * 6 + (B + i))) (zl x1) (6 - B)))), none, some (.inl (zi B + (-1)))] [] (s, n, mi, ml, mr) = G 103 6 [some (.inr (.inr (42 + 9 * r))), some (.inl (zi sd)), some (.inl (zi x0)), some (.inl (zi x1)), some (.inr (.inl (S * zl x0 + hrn (fun i => F36 P (a * 6 + (0 + i))) (zl x1) 6))), none, some (.inl (zi a + (-1))), some (.inr (.inl (hrn (fun i => F36 P (a * 6 + (0 + i))) (zl x1) 6))), none, some (.inl (zi 0 + (-1)))] [] (s, n, mi, ml, mr) := by
    intro a S ha B
    induction B with
    | zero =>
      intro _
      refine (b103_17 hG ..).trans ?_
      rw [lt0_m1, cnd_t, zi_64 (by omega)]
    | succ b ih =>
      intro hb
      refine Eq.trans ?_ (ih (by omega))
      rw [zi_dec]
      refine (b103_17 hG ..).trans ?_
      have c0 : decide (zi b < 0) = false := decide_eq_false (Int32.not_lt.mpr (zi_ge0 (by omega)))
      have hi : a * 6 + b < 36 := by omega
      rw [c0, cnd_f, gc27 hC hr, bind_s, ac45 hC hr hs, bind_s, show zi a * 6 + zi b = zi (a * 6 + b) from by rw [show (6 : Int32) = zi 6 from rfl, zi_mul, zi_add], raJ hsf hi (by decide), bind_s, hF _ hi, zi_64 (by omega)]
      have eh : hrn (fun i => F36 P (a * 6 + (b + i))) (zl x1) (6 - b) = hrn (fun i => F36 P (a * 6 + (b + 1 + i))) (zl x1) (6 - (b + 1)) * zl x1 + F36 P (a * 6 + b) := by
        rw [show 6 - b = (6 - (b + 1)) + 1 by omega, hrn]
        rw [show (fun i => (fun i => F36 P (a * 6 + (b + i))) (i + 1)) = fun i => F36 P (a * 6 + (b + 1 + i)) from funext (fun i => by show F36 P (a * 6 + (b + (i + 1))) = _; rw [show b + (i + 1) = b + 1 + i by omega])]
        rfl
      rw [eh]
  have LA : ∀ (A : Nat), A ≤ 6 → ∀ (o7 o9 : Option AV), ∃ q7 q9, G 103 6 [some (.inr (.inr (42 + 9 * r))), some (.inl (zi sd)), some (.inl (zi x0)), some (.inl (zi x1)), some (.inr (.inl (hrn (fun i => hrn (fun b => F36 P ((A + i) * 6 + (0 + b))) (zl x1) 6) (zl x0) (6 - A)))), none, some (.inl (zi A + (-1))), o7, none, o9] [] (s, n, mi, ml, mr) = G 103 6 [some (.inr (.inr (42 + 9 * r))), some (.inl (zi sd)), some (.inl (zi x0)), some (.inl (zi x1)), some (.inr (.inl (hrn (fun i => hrn (fun b => F36 P ((0 + i) * 6 + (0 + b))) (zl x1) 6) (zl x0) 6))), none, some (.inl (zi 0 + (-1))), q7, none, q9] [] (s, n, mi, ml, mr) := by
    intro A
    induction A with
    | zero => exact fun _ o7 o9 => ⟨o7, o9, rfl⟩
    | succ a ih =>
      intro hA o7 o9
      obtain ⟨q7, q9, e1⟩ := ih (by omega) (some (.inr (.inl (hrn (fun i => F36 P (a * 6 + (0 + i))) (zl x1) 6)))) (some (.inl (zi 0 + (-1))))
      refine ⟨q7, q9, Eq.trans ?_ e1⟩
      rw [zi_dec]
      refine (b103_6 hG ..).trans ?_
      have c0 : decide (zi a < 0) = false := decide_eq_false (Int32.not_lt.mpr (zi_ge0 (by omega)))
      rw [c0, cnd_f]
      refine Eq.trans (LB a _ (by omega) 6 (Nat.le_refl _)) ?_
      have eh : hrn (fun i => hrn (fun b => F36 P ((a + i) * 6 + (0 + b))) (zl x1) 6) (zl x0) (6 - a) = hrn (fun i => hrn (fun b => F36 P ((a + 1 + i) * 6 + (0 + b))) (zl x1) 6) (zl x0) (6 - (a + 1)) * zl x0 + hrn (fun b => F36 P (a * 6 + (0 + b))) (zl x1) 6 := by
        rw [show 6 - a = (6 - (a + 1)) + 1 by omega, hrn]
        rw [show (fun i => (fun i => hrn (fun b => F36 P ((a + i) * 6 + (0 + b))) (zl x1) 6) (i + 1)) = fun i => hrn (fun b => F36 P ((a + 1 + i) * 6 + (0 + b))) (zl x1) 6 from funext (fun i => by show hrn (fun b => F36 P ((a + (i + 1)) * 6 + (0 + b))) (zl x1) 6 = _; rw [show a + (i + 1) = a + 1 + i by omega])]
        rfl
      rw [eh]
  have hall : hrn (fun i => hrn (fun b => F36 P ((0 + i) * 6 + (0 + b))) (zl x1) 6) (zl x0) 6 = vS P (zl x0) (zl x1) := by
    rw [hrn_sm]
    unfold vS
    refine sm_congr (fun a _ => ?_)
    rw [hrn_sm, Nat.zero_add]
    congr 1
  obtain ⟨q7, q9, e1⟩ := LA 6 (Nat.le_refl _) none none
  refine (b103_0 hG ..).trans ?_
  refine Eq.trans e1 ?_
  rw [hall]
  have hbd := vS_bd hg hx0 hx1
  obtain ⟨V, hV⟩ : ∃ V, V = vS P (zl x0) (zl x1) := ⟨_, rfl⟩
  rw [← hV] at hbd ⊢
  refine (b103_6 hG ..).trans ?_
  rw [lt0_m1, cnd_t]
  have h01 : sd = 0 ∨ sd = 1 := by omega
  rcases h01 with rfl | rfl
  · rw [show decide (zi 0 ≠ (1 : Int32)) = true from by decide, cnd_t, c104 hG, bind_s, as_J, bind_s, vR_neg (Nat.lt_of_le_of_lt hbd (by decide))]
    exact b103_93 hG ..
  · rw [show decide (zi 1 ≠ (1 : Int32)) = false from by decide, cnd_f, c104 hG, bind_s, as_J, bind_s]
    exact b103_93 hG ..
theorem c101 {G : AG} (hG : FIX G) {s : Nat → Nat × Nat} {mr : Nat → Nat → Nat} (hC : CS s mr) {n : Nat × Nat} {Q : Pg} {N : Nat} (hW : WP Q) {mi : Nat → Nat → Int32} {ml : Nat → Nat → Int64} (hT : CTab mi) (hQ : CQ Q N s mi mr) (hK : CK Q mi ml) (x y a b : Int32) :
    ∃ mi' ml', G 101 0 [some (.inr (.inr 4)), some (.inl x), some (.inl y), some (.inl a), some (.inl b), none, none] [] (s, n, mi, ml, mr) = some (some (.inr (.inl (rVal Q x y a b))), (s, n, mi', ml', mr)) ∧ CK Q mi' ml' ∧ CFr mi mi' ml ml' := by
  have h8 : qc Q ≤ 8 := hW.1
  have hb11 : Nat.beq (s 4).1 11 = true := by rw [kc4 hC]; rfl
  unfold rVal
  cases hx : isN x (qc Q)
  · refine ⟨mi, ml, ?_, hK, CFr_refl _ _⟩
    refine (b101_0 hG ..).trans ?_
    rw [hb11, cnd_t, c15_f hG hC hQ.1 h8 hx, bind_s, as_R, bind_s, Nat.beq_refl, cnd_t]
    exact b101_34 hG ..
  · obtain ⟨r, hr, hr31, rfl⟩ := isN_t hx
    have hn0 : Nat.beq (42 + 9 * r) 0 = false := nbeq_f (by omega)
    have st : G 101 0 [some (.inr (.inr 4)), some (.inl (zi r)), some (.inl y), some (.inl a), some (.inl b), none, none] [] (s, n, mi, ml, mr) = bif isN y 2 && (isN a 21 && isN b 21) then (G 67 0 [some (.inr (.inr 4)), some (.inr (.inr (42 + 9 * r))), some (.inl y), none, none, none] [] (s, n, mi, ml, mr)).bind fun u9 => (asI u9.1).bind fun i10 => bif decide (0 ≤ (i10 : Int32)) then bif Nat.beq (u9.2.1 (42 + 9 * r)).1 7 then (G 103 0 [some (.inr (.inr (42 + 9 * r))), some (.inl y), some (.inl a), some (.inl b), none, none, none, none, none, none] [] u9.2).bind fun u11 => (asJ u11.1).bind fun j12 => G 101 67 [some (.inr (.inr 4)), some (.inl (zi r)), some (.inl y), some (.inl a), some (.inl b), some (.inr (.inr (42 + 9 * r))), some (.inl i10)] [.inr (.inl j12)] u11.2 else none else G 101 67 [some (.inr (.inr 4)), some (.inl (zi r)), some (.inl y), some (.inl a), some (.inl b), some (.inr (.inr (42 + 9 * r))), some (.inl i10)] [.inr (.inl i10.toInt64)] u9.2 else some (some (.inr (.inl (-1000001))), (s, n, mi, ml, mr)) := by
      refine (b101_0 hG ..).trans ?_
      simp only [hb11, cnd_t, c15_t hG hC hQ.1 h8 hr, bind_s, as_R, hn0, cnd_f, c66 hG hC, as_I, bzp_0, dec_bf, ne_eq, dec_nbf, c102 hG hC, b101_34 hG]
      cases isN y 2 <;> cases isN a 21 <;> cases isN b 21 <;> rfl
    rw [st, Bool.true_and]
    cases hb : (isN y 2 && (isN a 21 && isN b 21))
    · exact ⟨mi, ml, rfl, hK, CFr_refl _ _⟩
    · simp only [Bool.and_eq_true] at hb
      obtain ⟨hy, ha, hbb⟩ := hb
      obtain ⟨sd, hs, hs31, rfl⟩ := isN_t hy
      obtain ⟨x0, hx0, hx31, rfl⟩ := isN_t ha
      obtain ⟨x1, hx1, hx131, rfl⟩ := isN_t hbb
      obtain ⟨m1, l1, e1, z1, z2, z3, -⟩ := c67 hG hC (n := n) hW (by omega : r < 8) hs hT hQ hK
      refine ⟨m1, l1, ?_, z1, z3⟩
      have hb7 : Nat.beq (s (42 + 9 * r)).1 7 = true := by rw [kc42 hC (by omega)]; rfl
      rw [zi_cl hr31, zi_cl hs31, zi_cl hx31, zi_cl hx131, cnd_t, cnd_t, e1, bind_s, as_I, bind_s]
      unfold rFus
      cases hwh : whl Q r
      · exact b101_67 hG ..
      · cases hf : fml Q sd r with
        | none => exact b101_67 hG ..
        | some P =>
          have hg := (fml_ok hW (by omega) hwh hf).2
          have hks := z2 hwh
          rw [hf] at hks
          rcases hks with ⟨g1, -⟩ | ⟨W, g1, g2, g3, g4⟩
          · cases g1
          · cases g1
            rw [cnd_t, Option.isSome_some, cnd_t, show decide ((0 : Int32) ≤ 0) = true from by decide, cnd_t, hb7, cnd_t, c103 hG hC (by omega) hs (by omega) (by omega) hg g3, bind_s, as_J, bind_s]
            exact b101_67 hG ..