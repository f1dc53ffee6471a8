/-! term: both sides -/
theorem F36_out {P : Po} {p i : Nat} (h1 : 6 * p + (6 - p) ≤ i) (h2 : i < 6 * p + 6) (hp : p < 6) : F36 P i = 0 := by
  unfold F36
  rw [if_neg]
  omega
theorem tmv_0 (P i) : tmv P 0 (some i) = F36 P i / gS (F36 P i) := rfl
theorem tmv_1 (P i) : tmv P 1 (some i) = 8640 / gS (F36 P i) := rfl
theorem tmv_2 (P i) : tmv P 2 (some i) = zl (i / 6) := rfl
theorem tmv_3 (P i) : tmv P 3 (some i) = zl (i % 6) := rfl
theorem oz0 : Int32.ofInt 0 = zi 0 := rfl
theorem oz1 : Int32.ofInt (0 + 1) = zi 1 := rfl
theorem oz2 : Int32.ofInt ((0 + 1) + 1) = zi 2 := rfl
theorem m166 {G : AG} (hG : FIX G) {s : Nat → Nat × Nat} {mr : Nat → Nat → Nat} (hM : MS s mr) {n : Nat × Nat} {mi : Nat → Nat → Int32} {ml : Nat → Nat → Int64} (hT : MTab mi) {p q : Nat} (h : p + q ≤ 5) : G 166 0 [some (.inr (.inr 114)), some (.inl (zi p)), some (.inl (zi q))] [] (s, n, mi, ml, mr) = some (some (.inl (zi (rk (p + 6 * q)))), (s, n, mi, ml, mr)) := by
  obtain ⟨h1, h2, -, -, h5⟩ := code_ab h
  refine (b166_0 hG ..).trans ?_
  rw [gm62 hM, bind_s, show zi p + 6 * zi q = zi (p + 6 * q) from by rw [show (6 : Int32) = zi 6 from rfl, zi_mul, zi_add], am123 hM (by omega), bind_s, hT.2.1 _ (by omega), if_pos h1.2]
theorem m165L {G : AG} (hG : FIX G) {s : Nat → Nat × Nat} {mr : Nat → Nat → Nat} (hM : MS s mr) {n : Nat × Nat} {mi : Nat → Nat → Int32} {ml : Nat → Nat → Int64} (hT : MTab mi) {r sd w : Nat} {P : Po} {x3 x5 : Int32} (hr : r < 8) (hs : sd < 2) (hw : w < 4) (hP : MPo (2 * r + sd) P ml) (hg : gdn P 252 = true) : ∀ (p1 left : Nat) (o8 o9 : Option AV), p1 ≤ 6 → left < 2147483648 →
    G 165 62 [some (.inr (.inr 114)), some (.inl (zi r)), some (.inl (zi sd)), some (.inl x3), some (.inl (zi w)), some (.inl x5), some (.inl (zi left)), some (.inl (zi p1 + (-1))), o8, o9, none, none, none] [] (s, n, mi, ml, mr) = some (some (.inr (.inl (tmv P w (fnd (F36 P) (6 * p1) left)))), (s, n, mi, ml, mr)) := by
  intro p1
  induction p1 with
  | zero =>
    intro left o8 o9 _ _
    refine (b165_62 hG ..).trans ?_
    rw [lt0_m1, cnd_t]; rfl
  | succ p ih =>
    intro left o8 o9 hp hl
    have LQ : ∀ (K left : Nat) (o9 : Option AV), K ≤ 6 - p → left < 2147483648 → G 165 73 [some (.inr (.inr 114)), some (.inl (zi r)), some (.inl (zi sd)), some (.inl x3), some (.inl (zi w)), some (.inl x5), some (.inl (zi left)), some (.inl (zi p)), some (.inl (zi K + (-1))), o9, none, none, none] [] (s, n, mi, ml, mr) = some (some (.inr (.inl (tmv P w (fnd (F36 P) (6 * p + K) left)))), (s, n, mi, ml, mr)) := by
      intro K
      induction K with
      | zero =>
        intro left o9 _ hl
        refine (b165_73 hG ..).trans ?_
        rw [lt0_m1, cnd_t]
        exact ih left _ _ (by omega) hl
      | succ q ihq =>
        intro left o9 hq hl
        obtain ⟨v1, v2, -, -, v5⟩ := code_ab (by omega : p + q ≤ 5)
        obtain ⟨r1, r2⟩ := cd_rk v1
        have hFi : F36 P (6 * p + q) = P (p + 6 * q) := by rw [Nat.mul_comm 6 p, F36_at (by omega), if_pos (by omega)]
        have hgood := F36_good hg (6 * p + q)
        have hne := gS_ne hG hgood
        rw [zi_dec]
        refine (b165_73 hG ..).trans ?_
        have c0 : decide (zi q < 0) = false := decide_eq_false (Int32.not_lt.mpr (zi_ge0 (by omega)))
        have hrd : hAJ ((s, n, mi, ml, mr) : Hp) 126 (252 * ((2 * zi r) + zi sd) + zi (rk (p + 6 * q))) = some (F36 P (6 * p + q)) := by
          rw [show (252 : Int32) * ((2 * zi r) + zi sd) + zi (rk (p + 6 * q)) = zi (252 * (2 * r + sd) + rk (p + 6 * q)) from by rw [show (252 : Int32) = zi 252 from rfl, show (2 : Int32) = zi 2 from rfl, zi_mul, zi_add, zi_mul, zi_add], am126 hM (by omega), hP _ r2, r1, hFi]
        rw [c0, cnd_f, gm67 hM, bind_s, km hM, Nat.beq_refl, cnd_t, m166 hG hM hT (by omega), bind_s, as_I, bind_s, hrd, bind_s, cmp_eq0, show 6 * p + (q + 1) = (6 * p + q) + 1 by omega, fnd_S]
        by_cases hz : F36 P (6 * p + q) = 0
        · rw [decide_eq_true hz, cnd_t, if_pos hz]
          refine (b165_172 hG ..).trans ?_
          exact ihq left _ (by omega) hl
        · rw [decide_eq_false hz, cnd_f, if_neg hz]
          by_cases hl0 : left = 0
          · subst hl0
            rw [show decide (zi 0 ≠ (0 : Int32)) = false from by decide, cnd_f, m167 hG hgood, bind_s, as_J, bind_s, if_pos rfl]
            have hw4 : w = 0 ∨ w = 1 ∨ w = 2 ∨ w = 3 := by omega
            rcases hw4 with rfl | rfl | rfl | rfl
            · rw [show decide (zi 0 ≠ (0 : Int32)) = false from by decide, cnd_f, if_neg hne, bind_s, tmv_0]
              exact b165_168 hG ..
            · rw [show decide (zi 1 ≠ (0 : Int32)) = true from by decide, cnd_t, show decide (zi 1 ≠ (1 : Int32)) = false from by decide, cnd_f, if_neg hne, bind_s, tmv_1]
              exact b165_168 hG ..
            · rw [show decide (zi 2 ≠ (0 : Int32)) = true from by decide, cnd_t, show decide (zi 2 ≠ (1 : Int32)) = true from by decide, cnd_t, show decide (zi 2 ≠ (2 : Int32)) = false from by decide, cnd_f, zi_64 (by omega), tmv_2, show (6 * p + q) / 6 = p by omega]
              exact b165_168 hG ..
            · rw [show decide (zi 3 ≠ (0 : Int32)) = true from by decide, cnd_t, show decide (zi 3 ≠ (1 : Int32)) = true from by decide, cnd_t, show decide (zi 3 ≠ (2 : Int32)) = true from by decide, cnd_t, zi_64 (by omega), tmv_3, show (6 * p + q) % 6 = q by omega]
              exact b165_168 hG ..
          · rw [decide_eq_true (by show zi left ≠ zi 0; rw [zi_ne (by omega) (by omega)]; exact hl0 : zi left ≠ 0), cnd_t, zi_dec' (by omega), if_neg hl0]
            refine (b165_172 hG ..).trans ?_
            exact ihq (left - 1) _ (by omega) (by omega)
    rw [zi_dec]
    refine (b165_62 hG ..).trans ?_
    have c0 : decide (zi p < 0) = false := decide_eq_false (Int32.not_lt.mpr (zi_ge0 (by omega)))
    rw [c0, cnd_f, show (5 : Int32) - zi p = zi (6 - p) + (-1) from by rw [show (5 : Int32) = zi 5 from rfl, zi_sub (by omega), zi_dec' (by omega), show 6 - p - 1 = 5 - p by omega], LQ (6 - p) left o9 (Nat.le_refl _) hl]
    have := fnd_skip (f := F36 P) (a := 6 * p + (6 - p)) (t := left) p (fun i h1 h2 => F36_out h1 (by omega) (by omega))
    rw [show 6 * p + (6 - p) + p = 6 * (p + 1) by omega] at this
    rw [this]
theorem m165 {G : AG} (hG : FIX G) {s : Nat → Nat × Nat} {mr : Nat → Nat → Nat} (hM : MS s mr) {n : Nat × Nat} {Q : Pg} (hW : WP Q) {mi : Nat → Nat → Int32} {ml : Nat → Nat → Int64} (hQ : mdQ Q mi) (hT : MTab mi) (hK : MKn Q mi ml) (x y t w : Int32) :
    ∃ mi' ml', G 165 0 [some (.inr (.inr 114)), some (.inl x), some (.inl y), some (.inl t), some (.inl w), none, none, none, none, none, none, none, none] [] (s, n, mi, ml, mr) = some (some (.inr (.inl (rTerm Q x y t w))), (s, n, mi', ml', mr)) ∧ MKn Q mi' ml' ∧ KF mi mi' ∧ LF ml ml' := by
  have h8 : qc Q ≤ 8 := hW.1
  have hin : (decide ((0 : Int64) ≤ y.toInt64) && decide (y.toInt64 ≤ (1 : Int64))) = isN y 2 := (in_zl y (by decide : 0 < 9223372036854775808) (by decide : 1 < 9223372036854775808)).trans (isB_0 y 1)
  have hin3 : (decide ((0 : Int64) ≤ w.toInt64) && decide (w.toInt64 ≤ (3 : Int64))) = isN w 4 := (in_zl w (by decide : 0 < 9223372036854775808) (by decide : 3 < 9223372036854775808)).trans (isB_0 w 3)
  have ht : decide (t < 0) = !decide (0 ≤ t) := by rw [← decide_not]; exact decide_eq_decide.mpr Int32.not_le.symm
  have st : G 165 0 [some (.inr (.inr 114)), some (.inl x), some (.inl y), some (.inl t), some (.inl w), none, none, none, none, none, none, none, none] [] (s, n, mi, ml, mr) = bif isN x (qc Q) && (isN y 2 && (decide (0 ≤ t) && isN w 4)) then (G 152 0 [some (.inr (.inr 114)), some (.inl x), some (.inl y)] [] (s, n, mi, ml, mr)).bind fun u7 => (asI u7.1).bind fun i8 => bif decide ((i8 : Int32) = 0) then G 165 62 [some (.inr (.inr 114)), some (.inl x), some (.inl y), some (.inl t), some (.inl w), some (.inl i8), some (.inl t), some (.inl 5), none, none, none, none, none] [] u7.2 else some (some (.inr (.inl i8.toInt64)), u7.2) else some (some (.inr (.inl (-1000001))), (s, n, mi, ml, mr)) := by
    refine (b165_0 hG ..).trans ?_
    simp only [km hM, Nat.beq_refl, cnd_t, m132 hG hM hQ hW, bind_s, as_I, bzp_0, dec_bf, ne_eq, dec_nbf, m130 hG, hin, hin3, b165_35 hG, ht]
    cases isN x (qc Q) <;> cases isN y 2 <;> cases decide (0 ≤ t) <;> cases isN w 4 <;> rfl
  rw [st]
  unfold rTerm
  cases hb : (isN x (qc Q) && (isN y 2 && (decide (0 ≤ t) && isN w 4)))
  · exact ⟨mi, ml, rfl, hK, KF_refl _, LF_refl _⟩
  · simp only [Bool.and_eq_true] at hb
    obtain ⟨hx, hy, ht0, hw4⟩ := hb
    obtain ⟨r, hr, hr31, rfl⟩ := isN_t hx
    obtain ⟨sd, hs, hs31, rfl⟩ := isN_t hy
    obtain ⟨t0, ht31, rfl⟩ := zi_of (of_decide_eq_true ht0)
    obtain ⟨w0, hw0, hw31, rfl⟩ := isN_t hw4
    obtain ⟨m1, l1, e1, a1, b1, c1, d1⟩ := m152 hG hM (n := n) hW hr hs hQ hT hK
    refine ⟨m1, l1, ?_, ⟨true, d1, fun _ => a1⟩, b1, c1⟩
    rw [zi_cl hr31, zi_cl hs31, zi_cl ht31, zi_cl hw31, cnd_t, cnd_t, e1, bind_s, as_I, bind_s]
    unfold rFus
    cases hwh : whl Q r
    · rfl
    · cases hf : fml Q sd r with
      | none => rfl
      | some P =>
        obtain ⟨hv, hg⟩ := fml_ok hW (by omega) hwh hf
        have hP := ((a1 r hr).2.2 sd hs).2 hwh P hf
        rw [cnd_t, Option.isSome_some, cnd_t, show decide ((0 : Int32) = 0) = true from rfl, cnd_t]
        exact m165L hG hM (MTab_KF hT b1) (by omega) hs hw0 hP hg 6 t0 none none (Nat.le_refl _) ht31
theorem csF {G : AG} (hG : FIX G) {s : Nat → Nat × Nat} {mr : Nat → Nat → Nat} (hC : CS s mr) {r sd : Nat} (hr : r < 8) (hs : sd < 2) : s (46 + 9 * r + sd) = (21, 36) := by
  have h01 : sd = 0 ∨ sd = 1 := by omega
  rcases h01 with rfl | rfl
  · exact cs46 hC r hr
  · rw [show 46 + 9 * r + 1 = 47 + 9 * r by omega]; exact cs47 hC r hr
theorem c98 {G : AG} (hG : FIX G) {s : Nat → Nat × Nat} {mr : Nat → Nat → Nat} (hC : CS s mr) {n : Nat × Nat} {r sd t : Nat} {P : Po} {mi : Nat → Nat → Int32} {ml : Nat → Nat → Int64} (hr : r < 8) (hs : sd < 2) (ht : t < 2147483648) (hF : CF (46 + 9 * r + sd) P ml) : G 98 0 [some (.inr (.inr (42 + 9 * r))), some (.inl (zi sd)), some (.inl (zi t)), none, none] [] (s, n, mi, ml, mr) = some (some (.inl (match fnd (F36 P) 36 t with
    | none => -1
    | some i => zi i)), (s, n, mi, ml, mr)) := by
  have hsf := csF hG hC hr hs
  have L : ∀ (K j : Nat), K ≤ 36 → j + K ≤ 36 → j ≤ t → G 98 6 [some (.inr (.inr (42 + 9 * r))), some (.inl (zi sd)), some (.inl (zi t)), some (.inl (zi j)), some (.inl (zi K + (-1)))] [] (s, n, mi, ml, mr) = some (some (.inl (match fnd (F36 P) K (t - j) with
    | none => -1
    | some i => zi i)), (s, n, mi, ml, mr)) := by
    intro K
    induction K with
    | zero =>
      intro j _ _ _
      refine (b98_6 hG ..).trans ?_
      rw [lt0_m1, cnd_t]; rfl
    | succ K ih =>
      intro j hK hjK hj
      rw [zi_dec]
      refine (b98_6 hG ..).trans ?_
      have c0 : decide (zi K < 0) = false := decide_eq_false (Int32.not_lt.mpr (zi_ge0 (by omega)))
      rw [c0, cnd_f, gc27 hC hr, bind_s, ac45 hC hr hs, bind_s, raJ hsf (by omega) (by decide), bind_s, hF K (by omega), cmp_eq0, fnd_S]
      by_cases hz : F36 P K = 0
      · rw [decide_eq_true hz, cnd_t, if_pos hz]
        refine (b98_36 hG ..).trans ?_
        exact ih j (by omega) (by omega) hj
      · rw [decide_eq_false hz, cnd_f, if_neg hz]
        by_cases hjt : j = t
        · subst hjt
          rw [decide_eq_false (by intro h; exact h rfl : ¬ zi j ≠ zi j), cnd_f, Nat.sub_self, if_pos rfl]
        · rw [decide_eq_true (by rw [zi_ne (by omega) ht]; exact hjt : zi j ≠ zi t), cnd_t, if_neg (by omega), show zi j + 1 = zi (j + 1) from zi_add j 1, show t - j - 1 = t - (j + 1) by omega]
          refine (b98_36 hG ..).trans ?_
          exact ih (j + 1) (by omega) (by omega) (by omega)
  refine (b98_0 hG ..).trans ?_
  have := L 36 0 (Nat.le_refl _) (by omega) (Nat.zero_le _)
  exact this
theorem c97 {G : AG} (hG : FIX G) {s : Nat → Nat × Nat} {mr : Nat → Nat → Nat} (hC : CS s mr) {n : Nat × Nat} {Q : Pg} {N : Nat} (hW : WP Q) {mi : Nat → Nat → Int32} {ml : Nat → Nat → Int64} (hT : CTab mi) (hQ : CQ Q N s mi mr) (hK : CK Q mi ml) (x y t w : Int32) :
    ∃ mi' ml', G 97 0 [some (.inr (.inr 4)), some (.inl x), some (.inl y), some (.inl t), some (.inl w), none, none, none, none, none] [] (s, n, mi, ml, mr) = some (some (.inr (.inl (rTerm Q x y t w))), (s, n, mi', ml', mr)) ∧ CK Q mi' ml' ∧ CFr mi mi' ml ml' := by
  have h8 : qc Q ≤ 8 := hW.1
  have hb11 : Nat.beq (s 4).1 11 = true := by rw [kc4 hC]; rfl
  unfold rTerm
  cases hx : isN x (qc Q)
  · refine ⟨mi, ml, ?_, hK, CFr_refl _ _⟩
    refine (b97_0 hG ..).trans ?_
    rw [hb11, cnd_t, c15_f hG hC hQ.1 h8 hx, bind_s, as_R, bind_s, Nat.beq_refl, cnd_t]
    exact b97_34 hG ..
  · obtain ⟨r, hr, hr31, rfl⟩ := isN_t hx
    have hn0 : Nat.beq (42 + 9 * r) 0 = false := nbeq_f (by omega)
    have ht : decide (t < 0) = !decide (0 ≤ t) := by rw [← decide_not]; exact decide_eq_decide.mpr Int32.not_le.symm
    have hw1 : (!decide (w < 0) && decide (w ≤ (3 : Int32))) = isN w 4 := by
      unfold isN
      congr 1
      · rw [← decide_not]; exact decide_eq_decide.mpr (by rw [Int32.not_lt, Int32.le_iff_toInt_le]; rfl)
      · exact decide_eq_decide.mpr (by rw [Int32.le_iff_toInt_le, show (3 : Int32).toInt = 3 from rfl]; omega)
    rw [← hw1, Bool.true_and]
    have hd : ∀ b, G 97 34 [some (.inr (.inr 4)), some (.inl (zi r)), some (.inl y), some (.inl t), some (.inl w), some (.inr (.inr (42 + 9 * r))), none, none, none, none] [] b = some (some (.inr (.inl (-1000001))), b) := fun b => b97_34 hG ..
    cases hy : isN y 2
    · refine ⟨mi, ml, ?_, hK, CFr_refl _ _⟩
      refine (b97_0 hG ..).trans ?_
      rw [hb11, cnd_t, c15_t hG hC hQ.1 h8 hr, bind_s, as_R, bind_s, hn0, cnd_f, c66 hG hC, bind_s, as_I, bind_s, bz_0, hy, Bool.not_false, cnd_t, hd]; rfl
    · by_cases ht0 : t < 0
      · refine ⟨mi, ml, ?_, hK, CFr_refl _ _⟩
        refine (b97_0 hG ..).trans ?_
        rw [hb11, cnd_t, c15_t hG hC hQ.1 h8 hr, bind_s, as_R, bind_s, hn0, cnd_f, c66 hG hC, bind_s, as_I, bind_s, bz_0, hy, Bool.not_true, cnd_f, decide_eq_true ht0, cnd_t, hd, decide_eq_false (Int32.not_le.mpr ht0)]; rfl
      · by_cases hw0 : w < 0
        · refine ⟨mi, ml, ?_, hK, CFr_refl _ _⟩
          refine (b97_0 hG ..).trans ?_
          rw [hb11, cnd_t, c15_t hG hC hQ.1 h8 hr, bind_s, as_R, bind_s, hn0, cnd_f, c66 hG hC, bind_s, as_I, bind_s, bz_0, hy, Bool.not_true, cnd_f, decide_eq_false ht0, cnd_f, decide_eq_true hw0, cnd_t, hd, Bool.not_true, Bool.false_and, Bool.and_false, Bool.and_false]; rfl
        · by_cases hw3 : w ≤ (3 : Int32)
          · have hw4 : isN w 4 = true := by rw [← hw1, decide_eq_false hw0, decide_eq_true hw3]; rfl
            have hy' := hy
            obtain ⟨sd, hs, hs31, rfl⟩ := isN_t hy
            obtain ⟨t0, ht31, rfl⟩ := zi_of (Int32.not_lt.mp ht0)
            obtain ⟨w0, hw0', hw31, rfl⟩ := isN_t hw4
            obtain ⟨m1, l1, e1, z1, z2, z3, -⟩ := c67 hG hC (n := n) hW (by omega : r < 8) hs hT hQ hK
            refine ⟨m1, l1, ?_, z1, z3⟩
            have hb7 : Nat.beq (s (42 + 9 * r)).1 7 = true := by rw [kc42 hC (by omega)]; rfl
            refine (b97_0 hG ..).trans ?_
            rw [hb11, cnd_t, c15_t hG hC hQ.1 h8 hr, bind_s, as_R, bind_s, hn0, cnd_f, c66 hG hC, bind_s, as_I, bind_s, bz_0, hy', Bool.not_true, cnd_f, decide_eq_false ht0, cnd_f, decide_eq_false hw0, cnd_f, decide_eq_true hw3, cnd_t, hb11, cnd_t, e1, bind_s, as_I, bind_s, decide_eq_true (Int32.not_lt.mp ht0), Bool.not_false, Bool.true_and, Bool.true_and, Bool.true_and, cnd_t, zi_cl hr31, zi_cl hs31, zi_cl ht31, zi_cl hw31]
            unfold rFus
            cases hwh : whl Q r
            · rfl
            · cases hf : fml Q sd r with
              | none => rfl
              | some P =>
                have hg := (fml_ok hW (by omega) hwh hf).2
                have hks := z2 hwh
                rw [hf] at hks
                rcases hks with ⟨g1, -⟩ | ⟨W, g1, g2, g3, g4⟩
                · cases g1
                · cases g1
                  rw [cnd_t, Option.isSome_some, cnd_t, show decide ((0 : Int32) ≤ 0) = true from by decide, cnd_t, hb7, cnd_t, c98 hG hC (by omega) hs ht31 g3, bind_s, as_I, bind_s]
                  show _ = some (some (Sum.inr (Sum.inl (tmv P w0 (fnd (F36 P) 36 t0)))), (s, n, m1, l1, mr))
                  cases hfd : fnd (F36 P) 36 t0 with
                  | none =>
                    rw [show decide ((-1 : Int32) ≠ -1) = false from by decide, cnd_f]; rfl
                  | some i =>
                    obtain ⟨hi, -⟩ := fnd_lt hfd
                    have hgood := F36_good hg i
                    have hne := gS_ne hG hgood
                    show (bif decide (zi i ≠ (-1 : Int32)) then _ else _) = _
                    rw [decide_eq_true (by rw [ne_eq, neg1_ne (by omega)]; exact not_false : zi i ≠ (-1 : Int32)), cnd_t, gc27 hC (by omega), bind_s, ac45 hC (by omega) hs, bind_s, raJ (csF hG hC (by omega) hs) hi (by decide), bind_s, g3 i hi, oz0, oz1, oz2]
                    have hw4' : w0 = 0 ∨ w0 = 1 ∨ w0 = 2 ∨ w0 = 3 := by omega
                    rcases hw4' with rfl | rfl | rfl | rfl
                    · rw [decide_eq_true rfl, cnd_t, c99 hG hgood, bind_s, as_J, bind_s, if_neg hne, bind_s, tmv_0]
                    · rw [show decide (zi 1 = zi 0) = false from by decide, cnd_f, decide_eq_true rfl, cnd_t, c99 hG hgood, bind_s, as_J, bind_s, if_neg hne, bind_s, tmv_1]
                    · rw [show decide (zi 2 = zi 0) = false from by decide, cnd_f, show decide (zi 2 = zi 1) = false from by decide, cnd_f, decide_eq_true rfl, cnd_t, if6, bind_s, show (6 : Int32) = zi 6 from rfl, zi_div (by omega) (by decide) (by decide), zi_64 (by omega), tmv_2]
                    · rw [show decide (zi 3 = zi 0) = false from by decide, cnd_f, show decide (zi 3 = zi 1) = false from by decide, cnd_f, show decide (zi 3 = zi 2) = false from by decide, cnd_f, if6, bind_s, show (6 : Int32) = zi 6 from rfl, zi_mod (by omega) (by decide) (by decide), zi_64 (by omega), tmv_3]
          · refine ⟨mi, ml, ?_, hK, CFr_refl _ _⟩
            refine (b97_0 hG ..).trans ?_
            rw [hb11, cnd_t, c15_t hG hC hQ.1 h8 hr, bind_s, as_R, bind_s, hn0, cnd_f, c66 hG hC, bind_s, as_I, bind_s, bz_0, hy, Bool.not_true, cnd_f, decide_eq_false ht0, cnd_f, decide_eq_false hw0, cnd_f, decide_eq_false hw3, cnd_f, hd, Bool.and_false, Bool.and_false, Bool.and_false]; rfl