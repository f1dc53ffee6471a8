/-! count: both sides -/
def ccl (K : Nat → Nat) : Nat → Nat
  | 0 => 0
  | p + 1 => ccl K p + (if K p = 4 then 1 else 0)
theorem ccl_le (K : Nat → Nat) : ∀ p, ccl K p ≤ p
  | 0 => Nat.le_refl _
  | p + 1 => by
    have := ccl_le K p
    rw [ccl]
    split <;> omega
def tb (b : Bool) : Nat := bif b then 1 else 0
def cv (Q : Pg) (w r : Nat) : Nat := if w = 0 then 1 else if w = 1 then qn Q r else if w = 2 then tb (stk (qk Q r) (qn Q r)).isEmpty else if w = 3 then tb (srB Q r) else ccl (qk Q r) (qn Q r)
theorem cv_le {Q : Pg} (hW : WP Q) (w r : Nat) : cv Q w r ≤ 24 := by
  have h24 : qn Q r ≤ 24 := hW.2.1 r
  have hc := ccl_le (qk Q r) (qn Q r)
  have hb : ∀ b, tb b ≤ 1 := fun b => by cases b <;> decide
  unfold cv
  have h1 := hb (stk (qk Q r) (qn Q r)).isEmpty
  have h2 := hb (srB Q r)
  split
  · omega
  · split
    · omega
    · split
      · omega
      · split <;> omega
def cvs (Q : Pg) (w : Nat) : Nat → Nat
  | 0 => 0
  | r + 1 => cvs Q w r + cv Q w r
theorem cvs_le {Q : Pg} (hW : WP Q) (w : Nat) : ∀ r, cvs Q w r ≤ 24 * r
  | 0 => Nat.le_refl _
  | r + 1 => by
    have h1 := cvs_le hW w r
    have h2 := cv_le hW w r
    rw [cvs]; omega
def rCount (Q : Pg) (x : Int32) : Int32 := bif isN x 5 then zi (cvs Q x.toNatClampNeg (qc Q)) else -1000001
theorem oz3 : Int32.ofInt (((0 + 1) + 1) + 1) = zi 3 := rfl
theorem m180 {G : AG} (hG : FIX G) {s : Nat → Nat × Nat} {mr : Nat → Nat → Nat} (hM : MS s mr) {n : Nat × Nat} {Q : Pg} (hW : WP Q) {mi : Nat → Nat → Int32} {ml : Nat → Nat → Int64} (hQ : mdQ Q mi) (hT : MTab mi) (hK : MKn Q mi ml) (x : Int32) :
    ∃ mi' ml', G 180 0 [some (.inr (.inr 114)), some (.inl x), none, none, none, none] [] (s, n, mi, ml, mr) = some (some (.inl (rCount Q x)), (s, n, mi', ml', mr)) ∧ MKn Q mi' ml' ∧ KF mi mi' ∧ LF ml ml' := by
  have h8 : qc Q ≤ 8 := hW.1
  have hin : (decide ((0 : Int64) ≤ x.toInt64) && decide (x.toInt64 ≤ (4 : Int64))) = isN x 5 := (in_zl x (by decide : 0 < 9223372036854775808) (by decide : 4 < 9223372036854775808)).trans (isB_0 x 4)
  unfold rCount
  cases hx : isN x 5
  · refine ⟨mi, ml, ?_, hK, KF_refl _, LF_refl _⟩
    refine (b180_0 hG ..).trans ?_
    rw [m130 hG, bind_s, as_I, bind_s, bz_n0, hin, hx, cnd_f]
    rfl
  · have hx' := hx
    obtain ⟨w, hw, hw31, rfl⟩ := isN_t hx
    obtain ⟨m1, l1, e1, a1, bb1, c1, d1⟩ := m153 hG hM (n := n) hW hQ hT hK
    refine ⟨m1, l1, ?_, ⟨true, d1, fun _ => a1⟩, bb1, c1⟩
    have hQ1 := mdQ_KF hQ bb1
    rw [zi_cl hw31, cnd_t]
    have LP : ∀ r, r < qc Q → ∀ (f p : Nat) (X : Int32), p + f = qn Q r → G 180 37 [some (.inr (.inr 114)), some (.inl (zi w)), some (.inl X), some (.inl (zi r)), some (.inl (zi (ccl (qk Q r) p))), some (.inl (zi p))] [] (s, n, m1, l1, mr) = G 180 37 [some (.inr (.inr 114)), some (.inl (zi w)), some (.inl X), some (.inl (zi r)), some (.inl (zi (ccl (qk Q r) (qn Q r)))), some (.inl (zi (qn Q r)))] [] (s, n, m1, l1, mr) := by
      intro r hr f
      have h24 : qn Q r ≤ 24 := hW.2.1 r
      induction f with
      | zero =>
        intro p X hp
        have e : p = qn Q r := by omega
        rw [e]
      | succ f ih =>
        intro p X hp
        refine Eq.trans ?_ (ih (p + 1) X (by omega))
        have q1 := (hQ1.2.2 r p (by omega) (by omega)).1
        have hk8 : qk Q r p < 100 := by rcases kle (hW.2.2.2.1 r) (by omega : p < qn Q r) with h | h | h | h | h | h | h <;> omega
        refine (b180_37 hG ..).trans ?_
        rw [gm51 hM, bind_s, am115 hM (by omega), bind_s, hQ1.2.1 r (by omega), decide_eq_false (by rw [zi_le (by omega) (by omega)]; omega : ¬ zi (qn Q r) ≤ zi p), cnd_f, gm52 hM, bind_s, show (24 : Int32) * zi r + zi p = zi (24 * r + p) from by rw [show (24 : Int32) = zi 24 from rfl, zi_mul, zi_add], am116 hM (by omega), bind_s, q1, ccl]
        by_cases hk : qk Q r p = 4
        · rw [hk, show decide (zi 4 ≠ (4 : Int32)) = false from by decide, cnd_f, if_pos rfl]
          refine (b180_71 hG ..).trans ?_
          rw [show (1 : Int32) = zi 1 from rfl, zi_add, zi_add]
        · rw [decide_eq_true (by show zi (qk Q r p) ≠ zi 4; rw [zi_ne (by omega) (by omega)]; exact hk : zi (qk Q r p) ≠ (4 : Int32)), cnd_t, if_neg hk]
          refine (b180_71 hG ..).trans ?_
          rw [show (0 : Int32) = zi 0 from rfl, show (1 : Int32) = zi 1 from rfl, zi_add, zi_add]
    have LR : ∀ (f r : Nat) (o4 o5 : Option AV), r + f = qc Q → G 180 23 [some (.inr (.inr 114)), some (.inl (zi w)), some (.inl (zi (cvs Q w r))), some (.inl (zi r)), o4, o5] [] (s, n, m1, l1, mr) = some (some (.inl (zi (cvs Q w (qc Q)))), (s, n, m1, l1, mr)) := by
      intro f
      induction f with
      | zero =>
        intro r o4 o5 hr
        have e : r = qc Q := by omega
        subst e
        refine (b180_23 hG ..).trans ?_
        rw [gm50 hM, bind_s, hQ1.1, decide_eq_true (by rw [zi_le (by omega) (by omega)]; exact Nat.le_refl _ : zi (qc Q) ≤ zi (qc Q)), cnd_t]
      | succ f ih =>
        intro r o4 o5 hr
        have hr' : r < qc Q := by omega
        have h24 : qn Q r ≤ 24 := hW.2.1 r
        obtain ⟨k1, k2, k3⟩ := a1 r hr'
        obtain ⟨k30, k30'⟩ := k3 0 (by decide)
        obtain ⟨k31, k31'⟩ := k3 1 (by decide)
        rw [Nat.add_zero] at k30 k30'
        refine (b180_23 hG ..).trans ?_
        rw [gm50 hM, bind_s, hQ1.1, decide_eq_false (by rw [zi_le (by omega) (by omega)]; omega : ¬ zi (qc Q) ≤ zi r), cnd_f]
        refine Eq.trans (LP r hr' (qn Q r) 0 _ (by omega)) ?_
        have e126 : G 180 37 [some (.inr (.inr 114)), some (.inl (zi w)), some (.inl (zi (cvs Q w r))), some (.inl (zi r)), some (.inl (zi (ccl (qk Q r) (qn Q r)))), some (.inl (zi (qn Q r)))] [] (s, n, m1, l1, mr) = G 180 126 [some (.inr (.inr 114)), some (.inl (zi w)), some (.inl (zi (cvs Q w r))), some (.inl (zi r)), some (.inl (zi (ccl (qk Q r) (qn Q r)))), some (.inl (zi (qn Q r)))] [.inl (bz (srB Q r))] (s, n, m1, l1, mr) := by
          refine (b180_37 hG ..).trans ?_
          rw [gm51 hM, bind_s, am115 hM (by omega), bind_s, hQ1.2.1 r (by omega), decide_eq_true (by rw [zi_le (by omega) (by omega)]; exact Nat.le_refl _ : zi (qn Q r) ≤ zi (qn Q r)), cnd_t, gm68 hM, bind_s, am127 hM (by omega), bind_s, k2, bz_0]
          cases hwh : whl Q r
          · rw [Bool.not_false, cnd_t, show srB Q r = false from by unfold srB; rw [hwh]; rfl]
            exact b180_125 hG ..
          · rw [hwh, Bool.true_and] at k30 k31
            rw [Bool.not_true, cnd_f, gm70 hM, bind_s, show (2 : Int32) * zi r = zi (2 * r) from by rw [show (2 : Int32) = zi 2 from rfl, zi_mul], am129 hM (by omega), bind_s, k30, bz_n0]
            cases h0 : fml Q 0 r with
            | none =>
              rw [Option.isNone_none, cnd_t, show srB Q r = false from by unfold srB; rw [h0]; simp]
              exact b180_125 hG ..
            | some P =>
              rw [Option.isNone_some, cnd_f, bind_s, show zi (2 * r) + 1 = zi (2 * r + 1) from zi_add _ 1, am129 hM (by omega), bind_s, k31, bz_n0]
              cases h1 : fml Q 1 r with
              | none =>
                rw [Option.isNone_none, cnd_t, show srB Q r = false from by unfold srB; rw [h0, h1]; simp]
                exact b180_125 hG ..
              | some R =>
                obtain ⟨v0, -⟩ := fml_ok hW (by omega) hwh h0
                obtain ⟨v1, -⟩ := fml_ok hW (by omega) hwh h1
                rw [Option.isNone_some, cnd_f, km hM, Nat.beq_refl, cnd_t, m172 hG hM (by omega) (k30' hwh P h0) (k31' hwh R h1), bind_s, as_I, bind_s, bz_0, sma_sme v0 v1, srB_some hwh h0 h1]
                cases sme P R 36
                · rw [Bool.not_false, cnd_t]
                  exact b180_125 hG ..
                · rw [Bool.not_true, cnd_f]
                  rfl
        rw [e126]
        have e193 : ∀ (y : Nat) (o5 : Int32), y = cv Q w r → G 180 193 [some (.inr (.inr 114)), some (.inl (zi w)), some (.inl (zi (cvs Q w r))), some (.inl (zi r)), some (.inl (zi (ccl (qk Q r) (qn Q r)))), some (.inl o5)] [.inl (zi y), .inl (zi (cvs Q w r))] (s, n, m1, l1, mr) = some (some (.inl (zi (cvs Q w (qc Q)))), (s, n, m1, l1, mr)) := by
          intro y o5 hy
          refine (b180_193 hG ..).trans ?_
          rw [zi_add, hy, show zi r + 1 = zi (r + 1) from zi_add r 1]
          exact ih (r + 1) _ _ (by omega)
        refine (b180_126 hG ..).trans ?_
        have hw5 : w = 0 ∨ w = 1 ∨ w = 2 ∨ w = 3 ∨ w = 4 := by omega
        rcases hw5 with rfl | rfl | rfl | rfl | rfl
        · rw [show decide (zi 0 ≠ (0 : Int32)) = false from by decide, cnd_f]
          exact e193 1 _ rfl
        · rw [show decide (zi 1 ≠ (0 : Int32)) = true from by decide, cnd_t, show decide (zi 1 ≠ (1 : Int32)) = false from by decide, cnd_f, gm51 hM, bind_s, am115 hM (by omega), bind_s, hQ1.2.1 r (by omega)]
          exact e193 _ _ rfl
        · rw [show decide (zi 2 ≠ (0 : Int32)) = true from by decide, cnd_t, show decide (zi 2 ≠ (1 : Int32)) = true from by decide, cnd_t, show decide (zi 2 ≠ (2 : Int32)) = false from by decide, cnd_f, gm69 hM, bind_s, am128 hM (by omega), bind_s, k1, bz_0]
          have ec : cv Q 2 r = tb (stk (qk Q r) (qn Q r)).isEmpty := rfl
          cases hE : (stk (qk Q r) (qn Q r)).isEmpty
          · rw [hE] at ec
            exact e193 0 _ ec.symm
          · rw [hE] at ec
            exact e193 1 _ ec.symm
        · rw [show decide (zi 3 ≠ (0 : Int32)) = true from by decide, cnd_t, show decide (zi 3 ≠ (1 : Int32)) = true from by decide, cnd_t, show decide (zi 3 ≠ (2 : Int32)) = true from by decide, cnd_t, show decide (zi 3 ≠ (3 : Int32)) = false from by decide, cnd_f, bz_0]
          have ec : cv Q 3 r = tb (srB Q r) := rfl
          cases hE : srB Q r
          · rw [hE] at ec
            exact e193 0 _ ec.symm
          · rw [hE] at ec
            exact e193 1 _ ec.symm
        · rw [show decide (zi 4 ≠ (0 : Int32)) = true from by decide, cnd_t, show decide (zi 4 ≠ (1 : Int32)) = true from by decide, cnd_t, show decide (zi 4 ≠ (2 : Int32)) = true from by decide, cnd_t, show decide (zi 4 ≠ (3 : Int32)) = true from by decide, cnd_t]
          exact e193 _ _ rfl
    refine (b180_0 hG ..).trans ?_
    rw [m130 hG, bind_s, as_I, bind_s, bz_n0, hin, hx', cnd_t, km hM, Nat.beq_refl, cnd_t, e1, bind_s, as_V, bind_s]
    exact LR (qc Q) 0 none none (by omega)
theorem c126 {G : AG} (hG : FIX G) {s : Nat → Nat × Nat} {mr : Nat → Nat → Nat} (hC : CS s mr) {n : Nat × Nat} {Q : Pg} {N : Nat} (hW : WP Q) {mi : Nat → Nat → Int32} {ml : Nat → Nat → Int64} (hQ : CQ Q N s mi mr) {r : Nat} (hr : r < 8) : G 126 0 [some (.inr (.inr (42 + 9 * r))), none, none] [] (s, n, mi, ml, mr) = some (some (.inl (zi (ccl (qk Q r) (qn Q r)))), (s, n, mi, ml, mr)) := by
  have h24 : qn Q r ≤ 24 := hW.2.1 r
  have hR := hQ.2.1 r hr
  have h23 := hR.2.1
  have hb7 : Nat.beq (s (42 + 9 * r)).1 7 = true := by rw [kc42 hC hr]; rfl
  have L : ∀ (f p : Nat), p + f = qn Q r → G 126 4 [some (.inr (.inr (42 + 9 * r))), some (.inl (zi (ccl (qk Q r) p))), some (.inl (zi p))] [] (s, n, mi, ml, mr) = some (some (.inl (zi (ccl (qk Q r) (qn Q r)))), (s, n, mi, ml, mr)) := by
    intro f
    induction f with
    | zero =>
      intro p hp
      have e : p = qn Q r := by omega
      subst e
      refine (b126_4 hG ..).trans ?_
      rw [gc23 hC hr, bind_s, h23, decide_eq_true (by rw [zi_le (by omega) (by omega)]; exact Nat.le_refl _ : zi (qn Q r) ≤ zi (qn Q r)), cnd_t]
    | succ f ih =>
      intro p hp
      have hp' : p < qn Q r := by omega
      obtain ⟨c1, c2, c3, -⟩ := hR.2.2.2.2.2.1 p hp'
      have ho0 : Nat.beq (mr (43 + 9 * r) p) 0 = false := nbeq_f (by omega)
      refine Eq.trans ?_ (ih (p + 1) (by omega))
      refine (b126_4 hG ..).trans ?_
      rw [gc23 hC hr, bind_s, h23, decide_eq_false (by rw [zi_le (by omega) (by omega)]; omega : ¬ zi (qn Q r) ≤ zi p), cnd_f, hb7, cnd_t, c18_t hG hC hr h23 h24 hp', bind_s, as_R, bind_s, ccl]
      by_cases hk : qk Q r p = 4
      · have t1 : ([1].any (Nat.beq (s (mr (43 + 9 * r) p)).1)) = true := by rw [c3, hk]; rfl
        simp only [ho0, t1, cnd_f, cnd_t, bind_s]
        rw [show decide ((1 : Int32) = 0) = false from by decide, cnd_f, if_pos hk]
        refine (b126_26 hG ..).trans ?_
        rw [show (1 : Int32) = zi 1 from rfl, zi_add, zi_add]
      · have hkk := kle (hW.2.2.2.1 r) hp'
        have t1 : ([1].any (Nat.beq (s (mr (43 + 9 * r) p)).1)) = false := by
          rw [c3]
          rcases hkk with h | h | h | h | h | h | h <;> first | exact absurd h hk | (rw [h]; rfl)
        have t2 : ([2, 3, 4, 10].any (Nat.beq (s (mr (43 + 9 * r) p)).1)) = true := by
          rw [c3]
          rcases hkk with h | h | h | h | h | h | h <;> first | exact absurd h hk | (rw [h]; rfl)
        simp only [ho0, t1, t2, cnd_f, cnd_t, bind_s, decide_true]
        rw [if_neg hk, Nat.add_zero]
        refine (b126_26 hG ..).trans ?_
        rw [show (1 : Int32) = zi 1 from rfl, zi_add]
  refine (b126_0 hG ..).trans ?_
  exact L (qn Q r) 0 (by omega)
theorem c125 {G : AG} (hG : FIX G) {s : Nat → Nat × Nat} {mr : Nat → Nat → Nat} (hC : CS s mr) {n : Nat × Nat} {Q : Pg} {N : Nat} (hW : WP Q) {mi : Nat → Nat → Int32} {ml : Nat → Nat → Int64} (hT : CTab mi) (hQ : CQ Q N s mi mr) (hK : CK Q mi ml) (x : Int32) :
    ∃ mi' ml', G 125 0 [some (.inr (.inr 4)), some (.inl x), none, none, none, none] [] (s, n, mi, ml, mr) = some (some (.inl (rCount Q x)), (s, n, mi', ml', mr)) ∧ CK Q mi' ml' ∧ CFr mi mi' ml ml' := by
  have h8 : qc Q ≤ 8 := hW.1
  have hb11 : Nat.beq (s 4).1 11 = true := by rw [kc4 hC]; rfl
  unfold rCount
  have hx4 : (!decide (x < 0) && decide (x ≤ (4 : Int32))) = isN x 5 := by
    unfold isN
    congr 1
    · rw [← decide_not]; exact decide_eq_decide.mpr (by rw [Int32.not_lt, Int32.le_iff_toInt_le]; rfl)
    · exact decide_eq_decide.mpr (by rw [Int32.le_iff_toInt_le, show (4 : Int32).toInt = 4 from rfl]; omega)
  have st : G 125 0 [some (.inr (.inr 4)), some (.inl x), none, none, none, none] [] (s, n, mi, ml, mr) = bif isN x 5 then G 125 16 [some (.inr (.inr 4)), some (.inl x), some (.inl 0), some (.inl 0), none, none] [] (s, n, mi, ml, mr) else some (some (.inl (-1000001)), (s, n, mi, ml, mr)) := by
    refine (b125_0 hG ..).trans ?_
    rw [← hx4, b125_9 hG]
    cases decide (x < 0) <;> cases decide (x ≤ (4 : Int32)) <;> rfl
  rw [st]
  cases hx : isN x 5
  · exact ⟨mi, ml, rfl, hK, CFr_refl _ _⟩
  · obtain ⟨w, hw, hw31, rfl⟩ := isN_t hx
    rw [zi_cl hw31, cnd_t, cnd_t]
    have L : ∀ (f r : Nat) (o4 o5 : Option AV) (mi : Nat → Nat → Int32) (ml : Nat → Nat → Int64), r + f = qc Q → CTab mi → CQ Q N s mi mr → CK Q mi ml → ∃ mi' ml', G 125 16 [some (.inr (.inr 4)), some (.inl (zi w)), some (.inl (zi (cvs Q w r))), some (.inl (zi r)), o4, o5] [] (s, n, mi, ml, mr) = some (some (.inl (zi (cvs Q w (qc Q)))), (s, n, mi', ml', mr)) ∧ CK Q mi' ml' ∧ CFr mi mi' ml ml' := by
      intro f
      induction f with
      | zero =>
        intro r o4 o5 mi ml hr hT hQ hK
        have e : r = qc Q := by omega
        subst e
        refine ⟨mi, ml, ?_, hK, CFr_refl _ _⟩
        refine (b125_16 hG ..).trans ?_
        rw [gc44 hC, bind_s, hQ.1, decide_eq_true (by rw [zi_le (by omega) (by omega)]; exact Nat.le_refl _ : zi (qc Q) ≤ zi (qc Q)), cnd_t]
        exact b125_169 hG ..
      | succ f ih =>
        intro r o4 o5 mi ml hr hT hQ hK
        have hr8 : r < 8 := by omega
        have h24 : qn Q r ≤ 24 := hW.2.1 r
        have hb7 : Nat.beq (s (42 + 9 * r)).1 7 = true := by rw [kc42 hC hr8]; rfl
        have hcv : cvs Q w (r + 1) = cvs Q w r + cv Q w r := rfl
        have fin : ∀ (m2 : Nat → Nat → Int32) (l2 : Nat → Nat → Int64) (o5 : Option AV), CK Q m2 l2 → CFr mi m2 ml l2 → ∃ mi' ml', G 125 163 [some (.inr (.inr 4)), some (.inl (zi w)), some (.inl (zi (cvs Q w r + cv Q w r))), some (.inl (zi r)), some (.inr (.inr (42 + 9 * r))), o5] [] (s, n, m2, l2, mr) = some (some (.inl (zi (cvs Q w (qc Q)))), (s, n, mi', ml', mr)) ∧ CK Q mi' ml' ∧ CFr mi mi' ml ml' := by
          intro m2 l2 o5 hK2 hF2
          obtain ⟨m3, l3, e3, z1, z2⟩ := ih (r + 1) (some (.inr (.inr (42 + 9 * r)))) o5 m2 l2 (by omega) (CTab_CFr hT hF2) (CQ_CFr hQ hW hF2) hK2
          refine ⟨m3, l3, Eq.trans ?_ e3, z1, CFr_trans hF2 z2⟩
          refine (b125_163 hG ..).trans ?_
          rw [show zi r + 1 = zi (r + 1) from zi_add r 1, hcv]
        have hd : ∀ P : Option (Option AV × Hp) → Prop, P ((hgR ((s, n, mi, ml, mr) : Hp) 4 43).bind fun r2 => (hAR ((s, n, mi, ml, mr) : Hp) r2 (zi r)).bind fun r3 => some (some (.inr (.inr r3)), (s, n, mi, ml, mr))) → True := fun _ _ => trivial
        have st2 := b125_16 hG 4 (zi w) (zi (cvs Q w r)) (zi r) o4 o5 (s, n, mi, ml, mr)
        rw [gc44 hC, bind_s, hQ.1, decide_eq_false (by rw [zi_le (by omega) (by omega)]; omega : ¬ zi (qc Q) ≤ zi r), cnd_f, decide_eq_false (by show ¬ zi 8 ≤ zi r; rw [zi_le (by omega) (by omega)]; omega : ¬ (8 : Int32) ≤ zi r), cnd_f, gc43 hC, bind_s, ac5 hC hr8, bind_s, oz0, oz1, oz2, oz3] at st2
        rw [st2]
        clear st2 hd
        have hw5 : w = 0 ∨ w = 1 ∨ w = 2 ∨ w = 3 ∨ w = 4 := by omega
        rcases hw5 with rfl | rfl | rfl | rfl | rfl
        · rw [decide_eq_true rfl, cnd_t, show zi (cvs Q 0 r) + 1 = zi (cvs Q 0 r + cv Q 0 r) from zi_add _ 1]
          exact fin mi ml _ hK (CFr_refl _ _)
        · rw [show decide (zi 1 = zi 0) = false from by decide, cnd_f, decide_eq_true rfl, cnd_t, gc23 hC hr8, bind_s, (hQ.2.1 r hr8).2.1, zi_add]
          exact fin mi ml _ hK (CFr_refl _ _)
        · rw [show decide (zi 2 = zi 0) = false from by decide, cnd_f, show decide (zi 2 = zi 1) = false from by decide, cnd_f, decide_eq_true rfl, cnd_t, hb7, cnd_t, c70 hG hC hQ hW hr8, bind_s, as_I, bind_s, bz_0]
          have ec : cv Q 2 r = tb (stk (qk Q r) (qn Q r)).isEmpty := rfl
          cases hE : (stk (qk Q r) (qn Q r)).isEmpty
          · rw [hE] at ec
            rw [Bool.not_false, cnd_t, b125_99 hG, show zi (cvs Q 2 r) + 0 = zi (cvs Q 2 r + cv Q 2 r) from by rw [ec]; exact zi_add _ 0]
            exact fin mi ml _ hK (CFr_refl _ _)
          · rw [hE] at ec
            rw [Bool.not_true, cnd_f, b125_99 hG, show zi (cvs Q 2 r) + 1 = zi (cvs Q 2 r + cv Q 2 r) from by rw [ec]; exact zi_add _ 1]
            exact fin mi ml _ hK (CFr_refl _ _)
        · have ec : cv Q 3 r = tb (srB Q r) := rfl
          obtain ⟨m1, l1, m2, l2, e1, e2, y1, y2, z1, z2, z3⟩ := c67b hG hC (n := n) hW hr8 hT hQ hK
          rw [show decide (zi 3 = zi 0) = false from by decide, cnd_f, show decide (zi 3 = zi 1) = false from by decide, cnd_f, show decide (zi 3 = zi 2) = false from by decide, cnd_f, decide_eq_true rfl, cnd_t, hb11, cnd_t, show (0 : Int32) = zi 0 from rfl, show (1 : Int32) = zi 1 from rfl, e1, bind_s, as_I, bind_s, hb11, cnd_t, e2, bind_s, as_I, bind_s]
          have f0 : srB Q r = false → ∀ (m : Nat → Nat → Int32) (l : Nat → Nat → Int64), CK Q m l → CFr mi m ml l → ∃ mi' ml', G 125 128 [some (.inr (.inr 4)), some (.inl (zi 3)), some (.inl (zi (cvs Q 3 r))), some (.inl (zi r)), some (.inr (.inr (42 + 9 * r))), o5] [] (s, n, m, l, mr) = some (some (.inl (zi (cvs Q 3 (qc Q)))), (s, n, mi', ml', mr)) ∧ CK Q mi' ml' ∧ CFr mi mi' ml ml' := by
            intro hE m l hk hf
            rw [hE] at ec
            rw [b125_128 hG, b125_129 hG, decide_eq_true rfl, cnd_t, b125_149 hG, b125_150 hG, show zi (cvs Q 3 r) + 0 = zi (cvs Q 3 r + cv Q 3 r) from by rw [ec]; exact zi_add _ 0]
            exact fin m l _ hk hf
          unfold rFus
          cases hwh : whl Q r
          · exact f0 (by unfold srB; rw [hwh]; rfl) m1 l1 y1 y2
          · cases h0 : fml Q 0 r with
            | none => exact f0 (by unfold srB; rw [h0]; simp) m1 l1 y1 y2
            | some P =>
              cases h1 : fml Q 1 r with
              | none => exact f0 (by unfold srB; rw [h0, h1]; simp) m2 l2 z1 z2
              | some R =>
                obtain ⟨k0, k1⟩ := z3 hwh
                rw [h0] at k0
                rw [h1] at k1
                rw [srB_some hwh h0 h1] at ec
                show ∃ mi' ml', G 125 129 [some (.inr (.inr 4)), some (.inl (zi 3)), some (.inl (zi (cvs Q 3 r))), some (.inl (zi r)), some (.inr (.inr (42 + 9 * r))), o5] [.inl 1] (s, n, m2, l2, mr) = some (some (.inl (zi (cvs Q 3 (qc Q)))), (s, n, mi', ml', mr)) ∧ CK Q mi' ml' ∧ CFr mi mi' ml ml'
                rw [b125_129 hG, show decide ((1 : Int32) = 0) = false from by decide, cnd_f, hb7, cnd_t, c106 hG hC hr8 (KS_some hG hC k0) (KS_some hG hC k1), bind_s, as_I, bind_s, bz_0]
                cases hE : sme P R 36
                · rw [hE] at ec
                  rw [Bool.not_false, cnd_t, b125_149 hG, b125_150 hG, show zi (cvs Q 3 r) + 0 = zi (cvs Q 3 r + cv Q 3 r) from by rw [ec]; exact zi_add _ 0]
                  exact fin m2 l2 _ z1 z2
                · rw [hE] at ec
                  rw [Bool.not_true, cnd_f, b125_150 hG, show zi (cvs Q 3 r) + 1 = zi (cvs Q 3 r + cv Q 3 r) from by rw [ec]; exact zi_add _ 1]
                  exact fin m2 l2 _ z1 z2
        · rw [show decide (zi 4 = zi 0) = false from by decide, cnd_f, show decide (zi 4 = zi 1) = false from by decide, cnd_f, show decide (zi 4 = zi 2) = false from by decide, cnd_f, show decide (zi 4 = zi 3) = false from by decide, cnd_f, hb7, cnd_t, c126 hG hC hW hQ hr8, bind_s, as_I, bind_s, zi_add]
          exact fin mi ml _ hK (CFr_refl _ _)
    exact L (qc Q) 0 none none mi ml (by omega) hT hQ hK