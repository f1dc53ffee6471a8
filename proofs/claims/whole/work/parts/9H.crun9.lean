/-! the class: worth, allowed -/
def rWorth (Q : Pg) (x a b y z : Int32) : Int32 × Int32 := bif isN x (qc Q) && (isN a 21 && (isN b 21 && isN y 5)) then (bif whl Q x.toNatClampNeg then rn Q y.toNatClampNeg x.toNatClampNeg a.toNatClampNeg b.toNatClampNeg z else (-1000002, z)) else (-1000001, z)
def rAllow (Q : Pg) (x a b y z : Int32) : Int32 × Int32 := bif isN x (qc Q) && (isN a 21 && (isN b 21 && decide (0 ≤ y))) then (bif whl Q x.toNatClampNeg then (match fml Q 1 x.toNatClampNeg with
  | none => (-1000003, z)
  | some P => bif decide (vR 1 (vS P (zl a.toNatClampNeg) (zl b.toNatClampNeg)) ≤ y.toInt64) then rn Q 2 x.toNatClampNeg a.toNatClampNeg b.toNatClampNeg z else (-1000000, z)) else (-1000002, z)) else (-1000001, z)
theorem c107 {G : AG} (hG : FIX G) {s : Nat → Nat × Nat} {mr : Nat → Nat → Nat} (hC : CS s mr) {n : Nat × Nat} {Q : Pg} {N : Nat} (hW : WP Q) {mi : Nat → Nat → Int32} {ml : Nat → Nat → Int64} {z : Int32} (hQ : CQ Q N s mi mr) (h33 : mi 41 33 = z) (x a b y : Int32) :
    ∃ mi' ml' mr', G 107 0 [some (.inr (.inr 4)), some (.inl x), some (.inl a), some (.inl b), some (.inl y), none] [] (s, n, mi, ml, mr) = some (some (.inl (rWorth Q x a b y z).1), (s, n, mi', ml', mr')) ∧ mi' 41 33 = (rWorth Q x a b y z).2 ∧ CRf mi mi' ml ml' mr mr' := by
  have h8 : qc Q ≤ 8 := hW.1
  have hb11 : Nat.beq (s 4).1 11 = true := by rw [kc4 hC]; rfl
  have hb8 : Nat.beq (s 41).1 8 = true := by rw [kc41 hC]; rfl
  unfold rWorth
  cases hx : isN x (qc Q)
  · refine ⟨mi, ml, mr, ?_, h33, CRf_refl _ _ _⟩
    refine (b107_0 hG ..).trans ?_
    rw [hb11, cnd_t, c15_f hG hC hQ.1 h8 hx, bind_s, as_R, bind_s, Nat.beq_refl, cnd_t]
    exact b107_37 hG ..
  · obtain ⟨r, hr, hr31, rfl⟩ := isN_t hx
    have hn0 : Nat.beq (42 + 9 * r) 0 = false := nbeq_f (by omega)
    have h68 := c68 hG hC (n := n) (ml := ml) hQ hW (by omega : r < 8)
    have h69 := c69 hG hC (n := n) (ml := ml) hQ hW (rcd_lt hW (by omega : r < 8))
    rw [rcd_alw hW (by omega)] at h69
    have st : G 107 0 [some (.inr (.inr 4)), some (.inl (zi r)), some (.inl a), some (.inl b), some (.inl y), none] [] (s, n, mi, ml, mr) = bif isN a 21 && (isN b 21 && isN y 5) then (bif whl Q r then (G 108 0 [some (.inr (.inr 41)), some (.inr (.inr (42 + 9 * r))), some (.inl a), some (.inl b), some (.inl y), none] [] (s, n, mi, ml, mr)).bind fun u12 => (asI u12.1).bind fun i13 => some (some (.inl i13), u12.2) else some (some (.inl (-1000002)), (s, n, mi, ml, mr))) else some (some (.inl (-1000001)), (s, n, mi, ml, mr)) := by
      rw [← isN_cmp y (m := 4) (y := 4) rfl]
      refine (b107_0 hG ..).trans ?_
      simp only [hb11, cnd_t, c15_t hG hC hQ.1 h8 hr, bind_s, as_R, hn0, cnd_f, as_I, bz_0, c102 hG hC, b107_37 hG, h68, h69, bz_n0, gc49 hC, hb8]
      have h4 : decide (y ≤ (4 : Int32)) = !decide ((4 : Int32) < y) := by
        by_cases h : (4 : Int32) < y
        · rw [decide_eq_true h, decide_eq_false (Int32.not_le.mpr h)]; rfl
        · rw [decide_eq_false h, decide_eq_true (Int32.not_lt.mp h)]; rfl
      rw [h4]
      cases isN a 21 <;> cases isN b 21 <;> cases decide (y < 0) <;> cases decide ((4 : Int32) < y) <;> cases whl Q r <;> rfl
    rw [st, Bool.true_and]
    cases hb : (isN a 21 && (isN b 21 && isN y 5))
    · exact ⟨mi, ml, mr, rfl, h33, CRf_refl _ _ _⟩
    · simp only [Bool.and_eq_true] at hb
      obtain ⟨ha, hbb, hy⟩ := hb
      obtain ⟨w, hw, hw31, rfl⟩ := isN_t hy
      obtain ⟨x0, hx0, hx31, rfl⟩ := isN_t ha
      obtain ⟨x1, hx1, hx131, rfl⟩ := isN_t hbb
      rw [zi_cl hr31, zi_cl hw31, zi_cl hx31, zi_cl hx131]
      cases hwh : whl Q r
      · exact ⟨mi, ml, mr, rfl, h33, CRf_refl _ _ _⟩
      · obtain ⟨m1, l1, r1, e1, g1, g2⟩ := c108 hG hC (n := n) (ml := ml) hW (by omega : w ≤ 4) hQ (by omega : r < 8) hwh (by omega : x0 ≤ 20) (by omega : x1 ≤ 20) h33
        exact ⟨m1, l1, r1, by rw [cnd_t, cnd_t, e1]; rfl, g1, g2⟩
theorem c124 {G : AG} (hG : FIX G) {s : Nat → Nat × Nat} {mr : Nat → Nat → Nat} (hC : CS s mr) {n : Nat × Nat} {Q : Pg} {N : Nat} (hW : WP Q) {mi : Nat → Nat → Int32} {ml : Nat → Nat → Int64} {z : Int32} (hT : CTab mi) (hQ : CQ Q N s mi mr) (hK : CK Q mi ml) (h33 : mi 41 33 = z) (x a b y : Int32) :
    ∃ m1 l1 mi' ml' mr', G 124 0 [some (.inr (.inr 4)), some (.inl x), some (.inl a), some (.inl b), some (.inl y), none, none] [] (s, n, mi, ml, mr) = some (some (.inl (rAllow Q x a b y z).1), (s, n, mi', ml', mr')) ∧ mi' 41 33 = (rAllow Q x a b y z).2 ∧ CK Q m1 l1 ∧ CFr mi m1 ml l1 ∧ CRf m1 mi' l1 ml' mr mr' := by
  have h8 : qc Q ≤ 8 := hW.1
  have hb11 : Nat.beq (s 4).1 11 = true := by rw [kc4 hC]; rfl
  have hb8 : Nat.beq (s 41).1 8 = true := by rw [kc41 hC]; rfl
  unfold rAllow
  cases hx : isN x (qc Q)
  · refine ⟨mi, ml, mi, ml, mr, ?_, h33, hK, CFr_refl _ _, CRf_refl _ _ _⟩
    refine (b124_0 hG ..).trans ?_
    rw [hb11, cnd_t, c15_f hG hC hQ.1 h8 hx, bind_s, as_R, bind_s, Nat.beq_refl, cnd_t]
    exact b124_31 hG ..
  · obtain ⟨r, hr, hr31, rfl⟩ := isN_t hx
    have hn0 : Nat.beq (42 + 9 * r) 0 = false := nbeq_f (by omega)
    have hb7 : Nat.beq (s (42 + 9 * r)).1 7 = true := by rw [kc42 hC (by omega)]; rfl
    have st : G 124 0 [some (.inr (.inr 4)), some (.inl (zi r)), some (.inl a), some (.inl b), some (.inl y), none, none] [] (s, n, mi, ml, mr) = bif isN a 21 && (isN b 21 && decide (0 ≤ y)) then (G 67 0 [some (.inr (.inr 4)), some (.inr (.inr (42 + 9 * r))), some (.inl (zi 1)), none, none, none] [] (s, n, mi, ml, mr)).bind fun u7 => (asI u7.1).bind fun i8 => bif decide (0 ≤ (i8 : Int32)) then bif Nat.beq (u7.2.1 (42 + 9 * r)).1 7 then (G 103 0 [some (.inr (.inr (42 + 9 * r))), some (.inl (zi 1)), some (.inl a), some (.inl b), none, none, none, none, none, none] [] u7.2).bind fun u9 => (asJ u9.1).bind fun j10 => bif decide (((lg_cmp j10 y.toInt64) : Int32) ≤ 0) then (hgR u9.2 4 49).bind fun r11 => bif Nat.beq (u9.2.1 r11).1 8 then (G 108 0 [some (.inr (.inr r11)), some (.inr (.inr (42 + 9 * r))), some (.inl a), some (.inl b), some (.inl 2), none] [] u9.2).bind fun u12 => (asI u12.1).bind fun i13 => some (some (.inl i13), u12.2) else none else some (some (.inl (-1000000)), u9.2) else none else some (some (.inl i8), u7.2) else some (some (.inl (-1000001)), (s, n, mi, ml, mr)) := by
      refine (b124_0 hG ..).trans ?_
      simp only [hb11, cnd_t, c15_t hG hC hQ.1 h8 hr, bind_s, as_R, hn0, cnd_f, as_I, bz_0, c102 hG hC, b124_31 hG]
      cases isN a 21 <;> cases isN b 21 <;> cases decide (0 ≤ y) <;> rfl
    rw [st, Bool.true_and]
    cases hb : (isN a 21 && (isN b 21 && decide (0 ≤ y)))
    · exact ⟨mi, ml, mi, ml, mr, rfl, h33, hK, CFr_refl _ _, CRf_refl _ _ _⟩
    · simp only [Bool.and_eq_true] at hb
      obtain ⟨ha, hbb, hy⟩ := hb
      obtain ⟨x0, hx0, hx31, rfl⟩ := isN_t ha
      obtain ⟨x1, hx1, hx131, rfl⟩ := isN_t hbb
      obtain ⟨m1, l1, e1, z1, z2, z3, -⟩ := c67 hG hC (n := n) hW (by omega : r < 8) (by decide : 1 < 2) hT hQ hK
      rw [zi_cl hr31, zi_cl hx31, zi_cl hx131, cnd_t, cnd_t, e1, bind_s, as_I, bind_s]
      have h33' : m1 41 33 = z := by rw [z3.1 41 (by decide) (fun k _ => by omega)]; exact h33
      unfold rFus
      cases hwh : whl Q r
      · exact ⟨m1, l1, m1, l1, mr, rfl, h33', z1, z3, CRf_refl _ _ _⟩
      · cases hf : fml Q 1 r with
        | none => exact ⟨m1, l1, m1, l1, mr, rfl, h33', z1, z3, CRf_refl _ _ _⟩
        | some P =>
          have hg := (fml_ok hW (by omega) hwh hf).2
          have hks := z2 hwh
          rw [hf] at hks
          have hcf := KS_some hG hC hks
          rw [cnd_t, cnd_t, Option.isSome_some, cnd_t, show decide ((0 : Int32) ≤ 0) = true from by decide, cnd_t, hb7, cnd_t, c103 hG hC (by omega) (by decide) (by omega) (by omega) hg hcf, bind_s, as_J, bind_s, cmp_le0]
          show ∃ m1 l1 mi' ml' mr', _ = some (some (Sum.inl (bif decide (vR 1 (vS P (zl x0) (zl x1)) ≤ y.toInt64) then rn Q 2 r x0 x1 z else (-1000000, z)).1), _) ∧ _ = (bif decide (vR 1 (vS P (zl x0) (zl x1)) ≤ y.toInt64) then rn Q 2 r x0 x1 z else (-1000000, z)).2 ∧ _
          cases hv : decide (vR 1 (vS P (zl x0) (zl x1)) ≤ y.toInt64)
          · exact ⟨m1, l1, m1, l1, mr, rfl, h33', z1, z3, CRf_refl _ _ _⟩
          · obtain ⟨m2, l2, r2, e2, g1, g2⟩ := c108 hG hC (n := n) (ml := l1) hW (by decide : 2 ≤ 4) (CQ_CFr hQ hW z3) (by omega : r < 8) hwh (by omega : x0 ≤ 20) (by omega : x1 ≤ 20) h33'
            refine ⟨m1, l1, m2, l2, r2, ?_, g1, z1, z3, g2⟩
            rw [cnd_t, gc49 hC, bind_s, hb8, cnd_t, show (2 : Int32) = zi 2 from rfl, e2]
            rfl