/-! the model: worth, allowed -/
theorem KN_MR {Q : Pg} {m : Nat} {mi mi' ml ml'} (h : KN Q m mi ml) (hm : MRf mi mi' ml ml') : KN Q m mi' ml' := fun r hr => by
  have e1 := hm.1 127 (by decide) (by omega)
  have e2 := hm.1 128 (by decide) (by omega)
  have e3 := hm.1 129 (by decide) (by omega)
  have e4 := hm.2.2 126 (by decide) (by decide) (by decide)
  exact KN1_mv (h r hr) (by rw [e2]) (by rw [e1]) (fun sd _ => by rw [e3]) (fun x _ _ => by rw [e4])
theorem MKn_MR {Q : Pg} {mi mi' ml ml'} (h : MKn Q mi ml) (hm : MRf mi mi' ml ml') : MKn Q mi' ml' := by
  obtain ⟨b, h1, h2⟩ := h
  exact ⟨b, by rw [hm.2.1 60 (by decide) (by decide)]; exact h1, fun hb => KN_MR (h2 hb) hm⟩
theorem MTab_MR {mi mi' ml ml'} (h : MTab mi) (hm : MRf mi mi' ml ml') : MTab mi' := by
  unfold MTab
  rw [hm.1 122 (by decide) (by omega), hm.1 123 (by decide) (by omega), hm.1 132 (by decide) (by omega)]
  exact h
theorem m173 {G : AG} (hG : FIX G) {s : Nat → Nat × Nat} {mr : Nat → Nat → Nat} (hM : MS s mr) {n : Nat × Nat} {Q : Pg} (hW : WP Q) {mi : Nat → Nat → Int32} {ml : Nat → Nat → Int64} {z : Int32} (hQ : mdQ Q mi) (hT : MTab mi) (hK : MKn Q mi ml) (h57 : mi 114 57 = z) (x a b y : Int32) :
    ∃ m1 l1 mi' ml', G 173 0 [some (.inr (.inr 114)), some (.inl x), some (.inl a), some (.inl b), some (.inl y)] [] (s, n, mi, ml, mr) = some (some (.inl (rWorth Q x a b y z).1), (s, n, mi', ml', mr)) ∧ mi' 114 57 = (rWorth Q x a b y z).2 ∧ MKn Q mi' ml' ∧ KF mi m1 ∧ LF ml l1 ∧ MRf m1 mi' l1 ml' := by
  have h8 : qc Q ≤ 8 := hW.1
  have hin : (decide ((0 : Int64) ≤ y.toInt64) && decide (y.toInt64 ≤ (4 : Int64))) = isN y 5 := (in_zl y (by decide : 0 < 9223372036854775808) (by decide : 4 < 9223372036854775808)).trans (isB_0 y 4)
  have st : G 173 0 [some (.inr (.inr 114)), some (.inl x), some (.inl a), some (.inl b), some (.inl y)] [] (s, n, mi, ml, mr) = bif isN x (qc Q) && (isN a 21 && (isN b 21 && isN y 5)) then (G 153 0 [some (.inr (.inr 114)), none, none] [] (s, n, mi, ml, mr)).bind fun u7 => (asV u7.1).bind fun _ => (hgR u7.2 114 68).bind fun r8 => (hAZ u7.2 r8 x).bind fun i9 => bif decide ((i9 : Int32) = 0) then G 173 59 [some (.inr (.inr 114)), some (.inl x), some (.inl a), some (.inl b), some (.inl y)] [.inl (-1000002)] u7.2 else bif Nat.beq (u7.2.1 114).1 12 then (G 174 0 [some (.inr (.inr 114)), some (.inl x), some (.inl a), some (.inl b), some (.inl y), none, none, none, none, none] [] u7.2).bind fun u10 => (asI u10.1).bind fun i11 => G 173 59 [some (.inr (.inr 114)), some (.inl x), some (.inl a), some (.inl b), some (.inl y)] [.inl i11] u10.2 else none else some (some (.inl (-1000001)), (s, n, mi, ml, mr)) := by
    refine (b173_0 hG ..).trans ?_
    simp only [km hM, Nat.beq_refl, cnd_t, m132 hG hM hQ hW, bind_s, as_I, bzp_0, dec_bf, ne_eq, dec_nbf, m130 hG, hin, m169 hG hM, b173_29 hG]
    cases isN x (qc Q) <;> cases isN a 21 <;> cases isN b 21 <;> cases isN y 5 <;> rfl
  rw [st]
  unfold rWorth
  cases hb : (isN x (qc Q) && (isN a 21 && (isN b 21 && isN y 5)))
  · exact ⟨mi, ml, mi, ml, rfl, h57, hK, KF_refl _, LF_refl _, MRf_refl _ _⟩
  · simp only [Bool.and_eq_true] at hb
    obtain ⟨hx, ha, hbb, hy⟩ := hb
    obtain ⟨r, hr, hr31, rfl⟩ := isN_t hx
    obtain ⟨w, hw, hw31, rfl⟩ := isN_t hy
    obtain ⟨x0, hx0, hx31, rfl⟩ := isN_t ha
    obtain ⟨x1, hx1, hx131, rfl⟩ := isN_t hbb
    obtain ⟨m1, l1, e1, a1, b1, c1, d1⟩ := m153 hG hM (n := n) hW hQ hT hK
    have h57' : m1 114 57 = z := (b1.2.2.2.2 57 (by decide) (by decide)).trans h57
    have k2 := (a1 r hr).2.1
    rw [zi_cl hr31, zi_cl hw31, zi_cl hx31, zi_cl hx131, cnd_t, cnd_t, e1, bind_s, as_V, bind_s, gm68 hM, bind_s, am127 hM (by omega), bind_s, k2, bz_0]
    cases hwh : whl Q r
    · rw [Bool.not_false, cnd_t, b173_59 hG]
      exact ⟨m1, l1, m1, l1, rfl, h57', ⟨true, d1, fun _ => a1⟩, b1, c1, MRf_refl _ _⟩
    · obtain ⟨m2, l2, g1, g2, g3⟩ := m174 hG hM (n := n) (ml := l1) hW (by omega : w ≤ 4) (mdQ_KF hQ b1) (by omega : r < 8) hwh (by omega : x0 ≤ 20) (by omega : x1 ≤ 20) h57'
      refine ⟨m1, l1, m2, l2, ?_, g2, MKn_MR ⟨true, d1, fun _ => a1⟩ g3, b1, c1, g3⟩
      rw [Bool.not_true, cnd_f, km hM, Nat.beq_refl, cnd_t, g1, bind_s, as_I, bind_s, b173_59 hG]
      rfl
theorem m179 {G : AG} (hG : FIX G) {s : Nat → Nat × Nat} {mr : Nat → Nat → Nat} (hM : MS s mr) {n : Nat × Nat} {Q : Pg} (hW : WP Q) {mi : Nat → Nat → Int32} {ml : Nat → Nat → Int64} {z : Int32} (hQ : mdQ Q mi) (hT : MTab mi) (hK : MKn Q mi ml) (h57 : mi 114 57 = z) (x a b y : Int32) :
    ∃ m1 l1 mi' ml', G 179 0 [some (.inr (.inr 114)), some (.inl x), some (.inl a), some (.inl b), some (.inl y), none] [] (s, n, mi, ml, mr) = some (some (.inl (rAllow Q x a b y z).1), (s, n, mi', ml', mr)) ∧ mi' 114 57 = (rAllow Q x a b y z).2 ∧ MKn Q mi' ml' ∧ KF mi m1 ∧ LF ml l1 ∧ MRf m1 mi' l1 ml' := by
  have h8 : qc Q ≤ 8 := hW.1
  have st : G 179 0 [some (.inr (.inr 114)), some (.inl x), some (.inl a), some (.inl b), some (.inl y), none] [] (s, n, mi, ml, mr) = bif isN x (qc Q) && (isN a 21 && (isN b 21 && decide (0 ≤ y))) then (G 152 0 [some (.inr (.inr 114)), some (.inl x), some (.inl (zi 1))] [] (s, n, mi, ml, mr)).bind fun u5 => (asI u5.1).bind fun i6 => bif decide ((i6 : Int32) = 0) then bif Nat.beq (u5.2.1 114).1 12 then (G 170 0 [some (.inr (.inr 114)), some (.inl x), some (.inl (zi 1)), some (.inl a), some (.inl b), none, none, none, none, none, none, none, none] [] u5.2).bind fun u7 => (asJ u7.1).bind fun j8 => bif decide (((lg_cmp j8 y.toInt64) : Int32) ≤ 0) then bif Nat.beq (u7.2.1 114).1 12 then (G 174 0 [some (.inr (.inr 114)), some (.inl x), some (.inl a), some (.inl b), some (.inl (zi 2)), none, none, none, none, none] [] u7.2).bind fun u9 => (asI u9.1).bind fun i10 => G 179 68 [some (.inr (.inr 114)), some (.inl x), some (.inl a), some (.inl b), some (.inl y), some (.inl i6)] [.inl i10] u9.2 else none else G 179 68 [some (.inr (.inr 114)), some (.inl x), some (.inl a), some (.inl b), some (.inl y), some (.inl i6)] [.inl (-1000000)] u7.2 else none else some (some (.inl i6), u5.2) else some (some (.inl (-1000001)), (s, n, mi, ml, mr)) := by
    refine (b179_0 hG ..).trans ?_
    simp only [km hM, Nat.beq_refl, cnd_t, m132 hG hM hQ hW, bind_s, as_I, bzp_0, dec_bf, ne_eq, dec_nbf, m169 hG hM, b179_21 hG]
    cases isN x (qc Q) <;> cases isN a 21 <;> cases isN b 21 <;> cases decide (0 ≤ y) <;> rfl
  rw [st]
  unfold rAllow
  cases hb : (isN x (qc Q) && (isN a 21 && (isN b 21 && decide (0 ≤ y))))
  · exact ⟨mi, ml, mi, ml, rfl, h57, hK, KF_refl _, LF_refl _, MRf_refl _ _⟩
  · simp only [Bool.and_eq_true] at hb
    obtain ⟨hx, ha, hbb, hy⟩ := hb
    obtain ⟨r, hr, hr31, rfl⟩ := isN_t hx
    obtain ⟨x0, hx0, hx31, rfl⟩ := isN_t ha
    obtain ⟨x1, hx1, hx131, rfl⟩ := isN_t hbb
    obtain ⟨m1, l1, e1, a1, b1, c1, d1⟩ := m152 hG hM (n := n) hW hr (by decide : 1 < 2) hQ hT hK
    have h57' : m1 114 57 = z := (b1.2.2.2.2 57 (by decide) (by decide)).trans h57
    rw [zi_cl hr31, zi_cl hx31, zi_cl hx131, cnd_t, cnd_t, e1, bind_s, as_I, bind_s]
    unfold rFus
    cases hwh : whl Q r
    · exact ⟨m1, l1, m1, l1, rfl, h57', ⟨true, d1, fun _ => a1⟩, b1, c1, MRf_refl _ _⟩
    · cases hf : fml Q 1 r with
      | none => exact ⟨m1, l1, m1, l1, rfl, h57', ⟨true, d1, fun _ => a1⟩, b1, c1, MRf_refl _ _⟩
      | some P =>
        have hP := ((a1 r hr).2.2 1 (by decide)).2 hwh P hf
        rw [cnd_t, cnd_t, Option.isSome_some, cnd_t, show decide ((0 : Int32) = 0) = true from rfl, cnd_t, km hM, Nat.beq_refl, cnd_t, m170 hG hM (MTab_KF hT b1) (by omega) (by decide) (by omega) (by omega) hP, bind_s, as_J, bind_s, cmp_le0]
        show ∃ m1 l1 mi' ml', _ = some (some (Sum.inl (bif decide (vR 1 (vS P (zl x0) (zl x1)) ≤ y.toInt64) then rn Q 2 r x0 x1 z else (-1000000, z)).1), _) ∧ _ = (bif decide (vR 1 (vS P (zl x0) (zl x1)) ≤ y.toInt64) then rn Q 2 r x0 x1 z else (-1000000, z)).2 ∧ _
        cases hv : decide (vR 1 (vS P (zl x0) (zl x1)) ≤ y.toInt64)
        · rw [cnd_f, b179_68 hG]
          exact ⟨m1, l1, m1, l1, rfl, h57', ⟨true, d1, fun _ => a1⟩, b1, c1, MRf_refl _ _⟩
        · obtain ⟨m2, l2, g1, g2, g3⟩ := m174 hG hM (n := n) (ml := l1) hW (by decide : 2 ≤ 4) (mdQ_KF hQ b1) (by omega : r < 8) hwh (by omega : x0 ≤ 20) (by omega : x1 ≤ 20) h57'
          refine ⟨m1, l1, m2, l2, ?_, g2, MKn_MR ⟨true, d1, fun _ => a1⟩ g3, b1, c1, g3⟩
          rw [cnd_t, km hM, Nat.beq_refl, cnd_t, g1, bind_s, as_I, bind_s, b179_68 hG]
          rfl