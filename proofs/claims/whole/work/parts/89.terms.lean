/-! terms: both sides -/
def nz (x : Int64) : Nat := if x = 0 then 0 else 1
def cnt (f : Nat → Int64) : Nat → Nat
  | 0 => 0
  | n + 1 => cnt f n + nz (f n)
theorem cnt_le (f : Nat → Int64) : ∀ n, cnt f n ≤ n
  | 0 => Nat.le_refl _
  | n + 1 => by
    have := cnt_le f n
    unfold cnt nz
    split <;> omega
theorem cnt_congr {f g : Nat → Int64} : ∀ {n : Nat}, (∀ i, i < n → f i = g i) → cnt f n = cnt g n
  | 0, _ => rfl
  | n + 1, h => by unfold cnt; rw [cnt_congr (fun i hi => h i (by omega)), h n (by omega)]
theorem cnt_tail {f : Nat → Int64} {k : Nat} : ∀ {n : Nat}, k ≤ n → (∀ i, k ≤ i → i < n → f i = 0) → cnt f n = cnt f k
  | 0, h, _ => by have e : k = 0 := by omega
                  rw [e]
  | n + 1, h, hz => by
    by_cases e : k = n + 1
    · rw [e]
    · show cnt f n + nz (f n) = cnt f k
      rw [hz n (by omega) (by omega), cnt_tail (by omega) (fun i h1 h2 => hz i h1 (by omega))]; rfl
theorem cd_21 {k : Nat} (h1 : 21 ≤ k) (h2 : k < 252) : 36 ≤ cd k := by
  have hk : chk (fun k => Nat.blt k 21 || Nat.ble 36 (cd k)) 252 = true := by decide +kernel
  have := chk_ok (f := fun k => Nat.blt k 21 || Nat.ble 36 (cd k)) hk h2
  rw [Bool.or_eq_true] at this
  rcases this with h | h
  · exact absurd (Nat.le_of_ble_eq_true h) (by omega)
  · exact Nat.le_of_ble_eq_true h
theorem cd_C21 {k : Nat} (h : k < 21) : cd k = C21.getD k 0 := by
  have hk : chk (fun k => Nat.beq (cd k) (C21.getD k 0)) 21 = true := by decide +kernel
  exact Nat.eq_of_beq_eq_true (chk_ok (f := fun k => Nat.beq (cd k) (C21.getD k 0)) hk h)
set_option maxRecDepth 100000 in
theorem cnt_36 {P : Po} (hv : vlt 2 P) : cnt (fun k => P (cd k)) 252 = cnt (F36 P) 36 := by
  rw [cnt_tail (k := 21) (by decide) (fun i h1 h2 => hv _ (rk_cd h2).1 (cd_21 h1 h2)), cnt_congr (g := fun k => P (C21.getD k 0)) (fun i hi => by rw [cd_C21 hi])]
  have z : nz 0 = 0 := rfl
  simp only [cnt, C21, List.getD_cons_zero, List.getD_cons_succ, F36, Nat.reduceDiv, Nat.reduceMod, Nat.reduceAdd, Nat.reduceMul, Nat.reduceLeDiff, if_true, if_false, z, Nat.zero_add, Nat.add_zero]
  omega
def rTerms (Q : Pg) (x y : Int32) : Int32 := bif isN x (qc Q) && isN y 2 then (bif whl Q x.toNatClampNeg then (match fml Q y.toNatClampNeg x.toNatClampNeg with
  | none => -1000003
  | some P => zi (cnt (F36 P) 36)) else -1000002) else -1000001
theorem m152 {G : AG} (hG : FIX G) {s : Nat → Nat × Nat} {mr : Nat → Nat → Nat} (hM : MS s mr) {n : Nat × Nat} {Q : Pg} (hW : WP Q) {r sd : Nat} {mi : Nat → Nat → Int32} {ml : Nat → Nat → Int64} (hr : r < qc Q) (hs : sd < 2) (hQ : mdQ Q mi) (hT : MTab mi) (hK : MKn Q mi ml) :
    ∃ mi' ml', G 152 0 [some (.inr (.inr 114)), some (.inl (zi r)), some (.inl (zi sd))] [] (s, n, mi, ml, mr) = some (some (.inl (rFus Q sd r)), (s, n, mi', ml', mr)) ∧ KN Q (qc Q) mi' ml' ∧ KF mi mi' ∧ LF ml ml' ∧ mi' 114 60 = bz true := by
  have h8 : qc Q ≤ 8 := hW.1
  obtain ⟨m1, l1, e1, a1, b1, c1, d1⟩ := m153 hG hM (n := n) hW hQ hT hK
  refine ⟨m1, l1, ?_, a1, b1, c1, d1⟩
  obtain ⟨-, k2, k3⟩ := a1 r hr
  have k4 := (k3 sd hs).1
  refine (b152_0 hG ..).trans ?_
  simp (disch := omega) only [km hM, Nat.beq_refl, cnd_t, e1, bind_s, as_V, gm68 hM, am127 hM, k2, ne_eq, gm70 hM, zi_lit, zi_mul, zi_add, am129 hM, k4, bzp_z0, dec_nbf, dec_bf, b152_37 hG]
  unfold rFus
  cases whl Q r
  · rfl
  · cases fml Q sd r <;> rfl
theorem m164 {G : AG} (hG : FIX G) {s : Nat → Nat × Nat} {mr : Nat → Nat → Nat} (hM : MS s mr) {n : Nat × Nat} {i : Nat} {P : Po} {mi : Nat → Nat → Int32} {ml : Nat → Nat → Int64} (hi : i < 70) (hP : MPo i P ml) : G 164 0 [some (.inr (.inr 114)), some (.inl (zi i)), none, none] [] (s, n, mi, ml, mr) = some (some (.inl (zi (cnt (fun k => P (cd k)) 252))), (s, n, mi, ml, mr)) := by
  have L : ∀ (f k : Nat), k + f = 252 → G 164 4 [some (.inr (.inr 114)), some (.inl (zi i)), some (.inl (zi (cnt (fun k => P (cd k)) k))), some (.inl (zi k))] [] (s, n, mi, ml, mr) = some (some (.inl (zi (cnt (fun k => P (cd k)) 252))), (s, n, mi, ml, mr)) := by
    intro f
    induction f with
    | zero =>
      intro k hk
      have e : k = 252 := by omega
      subst e
      refine (b164_4 hG ..).trans ?_
      rw [show decide ((252 : Int32) ≤ zi 252) = true from by decide, cnd_t]
    | succ f ih =>
      intro k hk
      refine Eq.trans ?_ (ih (k + 1) (by omega))
      refine (b164_4 hG ..).trans ?_
      have c0 : decide ((252 : Int32) ≤ zi k) = false := decide_eq_false (by show ¬ zi 252 ≤ zi k; rw [zi_le (by omega) (by omega)]; omega)
      rw [c0, cnd_f, gm67 hM, bind_s, show (252 : Int32) * zi i + zi k = zi (252 * i + k) from by rw [show (252 : Int32) = zi 252 from rfl, zi_mul, zi_add], am126 hM (by omega), bind_s, hP k (by omega), cmp_eq0]
      show _ = G 164 4 [_, _, some (.inl (zi (cnt (fun k => P (cd k)) k + nz (P (cd k))))), _] [] _
      unfold nz
      by_cases hz : P (cd k) = 0
      · rw [decide_eq_true hz, cnd_t, if_pos hz]
        refine (b164_34 hG ..).trans ?_
        rw [show (0 : Int32) = zi 0 from rfl, show (1 : Int32) = zi 1 from rfl, zi_add, zi_add]
      · rw [decide_eq_false hz, cnd_f, if_neg hz]
        refine (b164_34 hG ..).trans ?_
        rw [show (1 : Int32) = zi 1 from rfl, zi_add, zi_add]
  refine (b164_0 hG ..).trans ?_
  exact L 252 0 (by omega)
theorem m151 {G : AG} (hG : FIX G) {s : Nat → Nat × Nat} {mr : Nat → Nat → Nat} (hM : MS s mr) {n : Nat × Nat} {Q : Pg} (hW : WP Q) {mi : Nat → Nat → Int32} {ml : Nat → Nat → Int64} (hQ : mdQ Q mi) (hT : MTab mi) (hK : MKn Q mi ml) (x y : Int32) :
    ∃ mi' ml', G 151 0 [some (.inr (.inr 114)), some (.inl x), some (.inl y), none] [] (s, n, mi, ml, mr) = some (some (.inl (rTerms Q x y)), (s, n, mi', ml', mr)) ∧ MKn Q mi' ml' ∧ KF mi mi' ∧ LF ml ml' := by
  have h8 : qc Q ≤ 8 := hW.1
  have hin : (decide ((0 : Int64) ≤ y.toInt64) && decide (y.toInt64 ≤ (1 : Int64))) = isN y 2 := (in_zl y (by decide : 0 < 9223372036854775808) (by decide : 1 < 9223372036854775808)).trans (isB_0 y 1)
  have st : G 151 0 [some (.inr (.inr 114)), some (.inl x), some (.inl y), none] [] (s, n, mi, ml, mr) = bif isN x (qc Q) && isN y 2 then (G 152 0 [some (.inr (.inr 114)), some (.inl x), some (.inl y)] [] (s, n, mi, ml, mr)).bind fun u5 => (asI u5.1).bind fun i6 => bif decide ((i6 : Int32) = 0) then bif Nat.beq (u5.2.1 114).1 12 then (G 164 0 [some (.inr (.inr 114)), some (.inl ((2 * x) + y)), none, none] [] u5.2).bind fun u7 => (asI u7.1).bind fun i8 => G 151 45 [some (.inr (.inr 114)), some (.inl x), some (.inl y), some (.inl i6)] [.inl i8] u7.2 else none else G 151 45 [some (.inr (.inr 114)), some (.inl x), some (.inl y), some (.inl i6)] [.inl i6] u5.2 else some (some (.inl (-1000001)), (s, n, mi, ml, mr)) := by
    refine (b151_0 hG ..).trans ?_
    simp only [km hM, Nat.beq_refl, cnd_t, m132 hG hM hQ hW, bind_s, as_I, bzp_0, dec_bf, ne_eq, dec_nbf, m130 hG, hin, b151_18 hG]
    cases isN x (qc Q) <;> cases isN y 2 <;> rfl
  rw [st]
  unfold rTerms
  cases hx : isN x (qc Q)
  · exact ⟨mi, ml, rfl, hK, KF_refl _, LF_refl _⟩
  · cases hy : isN y 2
    · exact ⟨mi, ml, rfl, hK, KF_refl _, LF_refl _⟩
    · obtain ⟨r, hr, hr31, rfl⟩ := isN_t hx
      obtain ⟨sd, hs, hs31, rfl⟩ := isN_t hy
      obtain ⟨m1, l1, e1, a1, b1, c1, d1⟩ := m152 hG hM (n := n) hW hr hs hQ hT hK
      refine ⟨m1, l1, ?_, ⟨true, d1, fun _ => a1⟩, b1, c1⟩
      rw [zi_cl hr31, zi_cl hs31, Bool.true_and, cnd_t, cnd_t, e1, bind_s, as_I, bind_s]
      unfold rFus
      cases hw : whl Q r
      · exact b151_45 hG ..
      · cases hf : fml Q sd r with
        | none => exact b151_45 hG ..
        | some P =>
          obtain ⟨hv, -⟩ := fml_ok hW (by omega) hw hf
          have hP := ((a1 r hr).2.2 sd hs).2 hw P hf
          rw [cnd_t, Option.isSome_some, cnd_t, show decide ((0 : Int32) = 0) = true from rfl, cnd_t, km hM, Nat.beq_refl, cnd_t, show (2 : Int32) * zi r + zi sd = zi (2 * r + sd) from by rw [show (2 : Int32) = zi 2 from rfl, zi_mul, zi_add], m164 hG hM (by omega) hP, bind_s, as_I, bind_s, cnt_36 hv]
          exact b151_45 hG ..
theorem c66 {G : AG} (hG : FIX G) {s : Nat → Nat × Nat} {mr : Nat → Nat → Nat} (hC : CS s mr) (y : Int32) (H : Hp) : G 66 0 [some (.inl y)] [] H = some (some (.inl (bz (isN y 2))), H) := by
  refine (b66_0 hG ..).trans ?_
  by_cases h0 : y = 0
  · subst h0
    rw [decide_eq_true rfl, cnd_t]
    exact (b66_9 hG ..).trans (b66_14 hG ..)
  · rw [decide_eq_false h0, cnd_f]
    by_cases h1 : y = 1
    · subst h1
      rw [show decide ((1 : Int32) ≠ 1) = false from by decide, cnd_f]
      exact (b66_9 hG ..).trans (b66_14 hG ..)
    · rw [decide_eq_true h1, cnd_t]
      have hn : isN y 2 = false := by
        cases h : isN y 2
        · rfl
        · obtain ⟨r, hr, -, rfl⟩ := isN_t h
          have h' : r = 0 ∨ r = 1 := by omega
          rcases h' with rfl | rfl
          · exact absurd rfl h0
          · exact absurd rfl h1
      rw [hn]
      exact b66_14 hG ..
theorem c96 {G : AG} (hG : FIX G) {s : Nat → Nat × Nat} {mr : Nat → Nat → Nat} (hC : CS s mr) {n : Nat × Nat} {r sd : Nat} {P : Po} {mi : Nat → Nat → Int32} {ml : Nat → Nat → Int64} (hr : r < 8) (hs : sd < 2) (hF : CF (46 + 9 * r + sd) P ml) : G 96 0 [some (.inr (.inr (42 + 9 * r))), some (.inl (zi sd)), none, none, none, none, none, none] [] (s, n, mi, ml, mr) = some (some (.inl (zi (cnt (F36 P) 36))), (s, n, mi, ml, mr)) := by
  have hsf : s (46 + 9 * r + sd) = (21, 36) := by
    have h01 : sd = 0 ∨ sd = 1 := by omega
    rcases h01 with rfl | rfl
    · exact cs46 hC r hr
    · rw [show 46 + 9 * r + 1 = 47 + 9 * r by omega]; exact cs47 hC r hr
  have L : ∀ (f k : Nat) (o6 : Option AV), k + f = 36 → G 96 16 [some (.inr (.inr (42 + 9 * r))), some (.inl (zi sd)), some (.inl (zi (cnt (F36 P) k))), some (.inr (.inr (46 + 9 * r + sd))), some (.inl (zi 36)), some (.inl (zi k)), o6, none] [] (s, n, mi, ml, mr) = some (some (.inl (zi (cnt (F36 P) 36))), (s, n, mi, ml, mr)) := by
    intro f
    induction f with
    | zero =>
      intro k o6 hk
      have e : k = 36 := by omega
      subst e
      refine (b96_16 hG ..).trans ?_
      rw [show decide (zi 36 ≤ zi 36) = true from by decide, cnd_t]
    | succ f ih =>
      intro k o6 hk
      have hk' : k < 36 := by omega
      refine Eq.trans ?_ (ih (k + 1) (some (.inr (.inl (F36 P k)))) (by omega))
      refine (b96_16 hG ..).trans ?_
      rw [decide_eq_false (by rw [zi_le (by omega) (by omega)]; omega : ¬ zi 36 ≤ zi k), cnd_f, raJ hsf hk' (by decide), bind_s, hF k hk', cmp_eq0]
      show _ = G 96 16 [_, _, some (.inl (zi (cnt (F36 P) k + nz (F36 P k)))), _, _, _, _, _] [] _
      unfold nz
      by_cases hz : F36 P k = 0
      · rw [decide_eq_true hz, cnd_t, if_pos hz]
        refine (b96_39 hG ..).trans ?_
        rw [show zi k + 1 = zi (k + 1) from zi_add k 1]
        rfl
      · rw [decide_eq_false hz, cnd_f, if_neg hz]
        refine (b96_39 hG ..).trans ?_
        rw [show zi k + 1 = zi (k + 1) from zi_add k 1, show zi (cnt (F36 P) k) + 1 = zi (cnt (F36 P) k + 1) from zi_add _ 1]
  refine (b96_0 hG ..).trans ?_
  rw [gc27 hC hr, bind_s, ac45 hC hr hs, bind_s, rlen hsf (by decide), bind_s]
  exact L 36 0 none (by omega)
theorem c65 {G : AG} (hG : FIX G) {s : Nat → Nat × Nat} {mr : Nat → Nat → Nat} (hC : CS s mr) {n : Nat × Nat} {Q : Pg} {N : Nat} (hW : WP Q) {mi : Nat → Nat → Int32} {ml : Nat → Nat → Int64} (hT : CTab mi) (hQ : CQ Q N s mi mr) (hK : CK Q mi ml) (x y : Int32) :
    ∃ mi' ml', G 65 0 [some (.inr (.inr 4)), some (.inl x), some (.inl y), none, none] [] (s, n, mi, ml, mr) = some (some (.inl (rTerms Q x y)), (s, n, mi', ml', mr)) ∧ CK Q mi' ml' ∧ CFr mi mi' ml ml' := by
  have h8 : qc Q ≤ 8 := hW.1
  have hb11 : Nat.beq (s 4).1 11 = true := by rw [kc4 hC]; rfl
  unfold rTerms
  cases hx : isN x (qc Q)
  · refine ⟨mi, ml, ?_, hK, CFr_refl _ _⟩
    refine (b65_0 hG ..).trans ?_
    rw [hb11, cnd_t, c15_f hG hC hQ.1 h8 hx, bind_s, as_R, bind_s, Nat.beq_refl, cnd_t]
    exact b65_17 hG ..
  · obtain ⟨r, hr, hr31, rfl⟩ := isN_t hx
    have hn0 : Nat.beq (42 + 9 * r) 0 = false := nbeq_f (by omega)
    cases hy : isN y 2
    · refine ⟨mi, ml, ?_, hK, CFr_refl _ _⟩
      refine (b65_0 hG ..).trans ?_
      rw [hb11, cnd_t, c15_t hG hC hQ.1 h8 hr, bind_s, as_R, bind_s, hn0, cnd_f, c66 hG hC, bind_s, as_I, bind_s, bz_n0, hy, cnd_f]
      exact b65_17 hG ..
    · have hy' := hy
      obtain ⟨sd, hs, hs31, rfl⟩ := isN_t hy
      obtain ⟨m1, l1, e1, z1, z2, z3, -⟩ := c67 hG hC (n := n) hW (by omega : r < 8) hs hT hQ hK
      refine ⟨m1, l1, ?_, z1, z3⟩
      refine (b65_0 hG ..).trans ?_
      have hb7 : Nat.beq (s (42 + 9 * r)).1 7 = true := by rw [kc42 hC (by omega)]; rfl
      rw [hb11, cnd_t, c15_t hG hC hQ.1 h8 hr, bind_s, as_R, bind_s, hn0, cnd_f, c66 hG hC, bind_s, as_I, bind_s, bz_n0, hy', cnd_t, hb11, cnd_t, e1, bind_s, as_I, bind_s, Bool.true_and, cnd_t, zi_cl hr31, zi_cl hs31]
      unfold rFus
      cases hw : whl Q r
      · exact b65_43 hG ..
      · cases hf : fml Q sd r with
        | none => exact b65_43 hG ..
        | some P =>
          have hks := z2 hw
          rw [hf] at hks
          rcases hks with ⟨g1, -⟩ | ⟨W, g1, g2, g3, g4⟩
          · cases g1
          · cases g1
            rw [cnd_t, Option.isSome_some, cnd_t, show decide ((0 : Int32) ≤ 0) = true from by decide, cnd_t, hb7, cnd_t, c96 hG hC (by omega) hs g3, bind_s, as_I, bind_s]
            exact b65_43 hG ..