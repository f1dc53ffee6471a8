/-! the model: know -/
theorem up2_2 {α : Type} (f : Nat → Nat → α) (r k : Nat) (v w : α) : up2 (up2 f r k v) r k w = up2 f r k w := by
  funext a
  by_cases h : a = r
  · subst h
    rw [up2_s, up2_s, up2_s]
    funext b
    by_cases h2 : b = k
    · rw [h2, up1_s, up1_s]
    · rw [up1_n _ _ h2, up1_n _ _ h2, up1_n _ _ h2]
  · rw [up2_n _ _ h, up2_n _ _ h, up2_n _ _ h]
def KN1 (Q : Pg) (r : Nat) (mi : Nat → Nat → Int32) (ml : Nat → Nat → Int64) : Prop := mi 128 r = bz (stk (qk Q r) (qn Q r)).isEmpty ∧ mi 127 r = bz (whl Q r) ∧ ∀ sd, sd < 2 → mi 129 (2 * r + sd) = bz (whl Q r && (fml Q sd r).isNone) ∧ (whl Q r = true → ∀ P, fml Q sd r = some P → MPo (2 * r + sd) P ml)
def KN (Q : Pg) (m : Nat) (mi : Nat → Nat → Int32) (ml : Nat → Nat → Int64) : Prop := ∀ r, r < m → KN1 Q r mi ml
theorem KN1_mv {Q r mi ml mi' ml'} (h : KN1 Q r mi ml) (h1 : mi' 128 r = mi 128 r) (h2 : mi' 127 r = mi 127 r) (h3 : ∀ sd, sd < 2 → mi' 129 (2 * r + sd) = mi 129 (2 * r + sd)) (h4 : ∀ x, x < 252 * (2 * r + 2) → 252 * (2 * r) ≤ x → ml' 126 x = ml 126 x) : KN1 Q r mi' ml' := by
  refine ⟨h1.trans h.1, h2.trans h.2.1, fun sd hs => ⟨(h3 sd hs).trans (h.2.2 sd hs).1, fun hw P hP k hk => ?_⟩⟩
  rw [h4 _ (by omega) (by omega)]
  exact (h.2.2 sd hs).2 hw P hP k hk
/-- what know leaves as it is -/
def KF (mi mi' : Nat → Nat → Int32) : Prop := (∀ a, a < 114 → mi' a = mi a) ∧ (∀ a, 142 ≤ a → mi' a = mi a) ∧ (∀ a, 115 ≤ a → a ≤ 123 → mi' a = mi a) ∧ (∀ a, 130 ≤ a → a ≤ 132 → mi' a = mi a) ∧ (∀ f, f < 63 → f ≠ 60 → mi' 114 f = mi 114 f)
theorem KF_refl (a) : KF a a := ⟨fun _ _ => rfl, fun _ _ => rfl, fun _ _ _ => rfl, fun _ _ _ => rfl, fun _ _ _ => rfl⟩
theorem KF_trans {a b c} (h : KF a b) (h' : KF b c) : KF a c := ⟨fun x hx => (h'.1 x hx).trans (h.1 x hx), fun x hx => (h'.2.1 x hx).trans (h.2.1 x hx), fun x h1 h2 => (h'.2.2.1 x h1 h2).trans (h.2.2.1 x h1 h2), fun x h1 h2 => (h'.2.2.2.1 x h1 h2).trans (h.2.2.2.1 x h1 h2), fun x h1 h2 => (h'.2.2.2.2 x h1 h2).trans (h.2.2.2.2 x h1 h2)⟩
theorem KF_MK {a b} (h : MK a b) : KF a b := ⟨h.1, h.2.1, h.2.2.1, fun x h1 h2 => h.2.2.2.1 x (by omega) h2, fun f h1 _ => h.2.2.2.2 f h1⟩
theorem KF_up {mi : Nat → Nat → Int32} {a i v} (h : a = 127 ∨ a = 128 ∨ a = 129) : KF mi (up2 mi a i v) := ⟨fun x hx => up2_n _ _ (by omega), fun x hx => up2_n _ _ (by omega), fun x h1 h2 => up2_n _ _ (by omega), fun x h1 h2 => up2_n _ _ (by omega), fun f h1 h2 => by rw [up2_n _ _ (by omega)]⟩
theorem KF_MJ {a b} (h : MJ a b) : KF a b := ⟨fun x hx => h x (by omega) (by omega), fun x hx => h x (by omega) (by omega), fun x h1 h2 => h x (by omega) (by omega), fun x h1 h2 => h x (by omega) (by omega), fun f h1 h2 => by rw [h 114 (by decide) (by decide)]⟩
theorem KF_60 {mi : Nat → Nat → Int32} {v} : KF mi (up2 mi 114 60 v) := ⟨fun x hx => up2_n _ _ (by omega), fun x hx => up2_n _ _ (by omega), fun x h1 h2 => up2_n _ _ (by omega), fun x h1 h2 => up2_n _ _ (by omega), fun f h1 h2 => by rw [up2_s, up1_n _ _ h2]⟩
theorem mdQ_KF {Q mi mi'} (h : mdQ Q mi) (hk : KF mi mi') : mdQ Q mi' := by
  unfold mdQ
  rw [hk.2.2.2.2 50 (by decide) (by decide), hk.2.2.1 115 (by decide) (by decide), hk.2.2.1 116 (by decide) (by decide), hk.2.2.1 117 (by decide) (by decide), hk.2.2.1 118 (by decide) (by decide), hk.2.2.1 119 (by decide) (by decide)]
  exact h
theorem MTab_KF {mi mi'} (h : MTab mi) (hk : KF mi mi') : MTab mi' := by
  unfold MTab
  rw [hk.2.2.1 122 (by decide) (by decide), hk.2.2.1 123 (by decide) (by decide), hk.2.2.2.1 132 (by decide) (by decide)]
  exact h
def LF (ml ml' : Nat → Nat → Int64) : Prop := ∀ a, a ≠ 126 → a ≠ 130 → ml' a = ml a
theorem LF_refl (a) : LF a a := fun _ _ _ => rfl
theorem LF_trans {a b c} (h : LF a b) (h' : LF b c) : LF a c := fun x h1 h2 => (h' x h1 h2).trans (h x h1 h2)
theorem m153p {G : AG} (hG : FIX G) {s : Nat → Nat × Nat} {mr : Nat → Nat → Nat} (hM : MS s mr) {n : Nat × Nat} {Q : Pg} (hW : WP Q) {r : Nat} {mi : Nat → Nat → Int32} {ml : Nat → Nat → Int64} (hr : r < 8) (hQ : mdQ Q mi) (hK : ∀ d, d < r → mi 127 d = bz (whl Q d)) : ∀ (f p : Nat), p + f = qn Q r →
    G 153 72 [some (.inr (.inr 114)), some (.inl (zi r)), some (.inl (zi p))] [] (s, n, up2 mi 127 r (bz (whp Q r p)), ml, mr) = G 153 144 [some (.inr (.inr 114)), some (.inl (zi r)), some (.inl (zi 0))] [] (s, n, up2 mi 127 r (bz (whp Q r (qn Q r))), ml, mr)
  | 0, p, hp => by
    have e : p = qn Q r := by omega
    subst e
    have h24 : qn Q r ≤ 24 := hW.2.1 r
    refine (b153_72 hG ..).trans ?_
    simp (disch := omega) only [gm51 hM, am115 hM, up2_n, hQ.2.1 r hr, bind_s, zi_le, Nat.le_refl, decide_true, cnd_t, zi_lit]
  | f + 1, p, hp => by
    have h24 : qn Q r ≤ 24 := hW.2.1 r
    obtain ⟨q1, -, q3, -⟩ := hQ.2.2 r p hr (by omega)
    refine Eq.trans ?_ (m153p hG hM (s := s) (mr := mr) (n := n) hW hr hQ hK f (p + 1) (by omega))
    refine (b153_72 hG ..).trans ?_
    simp (disch := omega) only [gm51 hM, am115 hM, up2_n, hQ.2.1 r hr, bind_s, zi_le, eq_false (by omega : ¬ qn Q r ≤ p), decide_false, cnd_f, gm68 hM, am127 hM, up2_s, up1_s]
    show (bif decide (bz (whp Q r p) = 0) then _ else _) = _
    rw [bz_0, whp]
    cases hw : whp Q r p
    · simp (disch := omega) only [Bool.not_false, cnd_t, b153_134 hG, b153_135 hG, zi_lit, wm127o hM, bind_s, zi_add, up2_2, Bool.false_and]
    · simp (disch := omega) only [Bool.not_true, cnd_f, gm52 hM, bind_s, zi_lit, zi_mul, zi_add, am116 hM, up2_n, q1]
      have hk8 : qk Q r p < 100 := by rcases kle (hW.2.2.2.1 r) (by omega : p < qn Q r) with h | h | h | h | h | h | h <;> omega
      by_cases hk : qk Q r p = 4
      · have hd := hW.2.2.2.2.2.1 r p (by omega) hk
        simp (disch := omega) only [hk, ne_eq, not_true_eq_false, decide_false, cnd_f, gm68 hM, gm54 hM, bind_s, am118 hM, up2_n, q3 hk, am127 hM, up2_s, up1_n, hK _ hd, Bool.true_and, Bool.false_or, bzp_z0, dec_bf]
        cases whl Q (qd Q r p)
        · simp (disch := omega) only [Bool.not_false, cnd_t, b153_134 hG, b153_135 hG, zi_lit, wm127o hM, bind_s, zi_add, up2_2]
        · simp (disch := omega) only [Bool.not_true, cnd_f, b153_130 hG, b153_135 hG, zi_lit, wm127l hM, bind_s, zi_add, up2_2]
      · simp (disch := omega) only [zi_ne, ne_eq, hk, not_false_eq_true, decide_true, cnd_t, b153_130 hG, b153_135 hG, zi_lit, wm127l hM, bind_s, zi_add, up2_2, Bool.true_and, Bool.true_or]
theorem m153s {G : AG} (hG : FIX G) {s : Nat → Nat × Nat} {mr : Nat → Nat → Nat} (hM : MS s mr) {n : Nat × Nat} {Q : Pg} (hW : WP Q) {r sd : Nat} {mi : Nat → Nat → Int32} {ml : Nat → Nat → Int64} (hr : r < 8) (hs : sd < 2) (hQ : mdQ Q mi) (hT : MTab mi) (hK : KN Q r mi ml) (h127 : mi 127 r = bz (whl Q r)) :
    ∃ mi' ml', G 153 144 [some (.inr (.inr 114)), some (.inl (zi r)), some (.inl (zi sd))] [] (s, n, mi, ml, mr) = G 153 144 [some (.inr (.inr 114)), some (.inl (zi r)), some (.inl (zi (sd + 1)))] [] (s, n, mi', ml', mr) ∧ mi' 129 (2 * r + sd) = bz (whl Q r && (fml Q sd r).isNone) ∧ (whl Q r = true → ∀ P, fml Q sd r = some P → MPo (2 * r + sd) P ml') ∧ (∀ j, j ≠ 2 * r + sd → mi' 129 j = mi 129 j) ∧ (∀ a, a ≠ 129 → a ≠ 133 → a ≠ 134 → mi' a = mi a) ∧ RQ (2 * r + sd) ml ml' := by
  have c2 : decide ((2 : Int32) ≤ zi sd) = false := decide_eq_false (by show ¬ zi 2 ≤ zi sd; rw [zi_le (by omega) (by omega)]; omega)
  cases hw : whl Q r
  · refine ⟨up2 mi 129 (2 * r + sd) (bz false), ml, ?_, by rw [up2_s, up1_s]; rfl, fun h => (by cases h), fun j hj => by rw [up2_s, up1_n _ _ hj], fun a h1 _ _ => up2_n _ _ h1, fun _ _ _ => rfl, fun _ _ _ => rfl⟩
    rw [hw] at h127
    refine (b153_144 hG ..).trans ?_
    rw [c2, cnd_f]
    simp (disch := omega) only [gm70 hM, gm68 hM, am127 hM, bind_s, h127, zi_lit, bzp_z0, decide_true, cnd_t, b153_180 hG, b153_181 hG, zi_mul, zi_add, wm129o hM]
  · obtain ⟨mi1, ml1, k1, k2, k3, k4⟩ := m154 hG hM (n := n) (F := fml Q sd) hW hr hs (whl_nil hW hr hw) hT hQ (fun p hp hk => by
      have hd := hW.2.2.2.2.2.1 r p hp hk
      have hwd := whl_call hW hr hw hp hk
      obtain ⟨-, -, h3⟩ := hK _ hd
      obtain ⟨g1, g2⟩ := h3 sd hs
      rw [hwd, Bool.true_and] at g1
      exact ⟨g1, g2 hwd⟩)
    have ef := fml_eq (sd := sd) hW hr
    rw [hw] at h127
    refine ⟨up2 mi1 129 (2 * r + sd) (bz (fml Q sd r).isNone), ml1, ?_, by rw [up2_s, up1_s, Bool.true_and], fun _ P hP => ?_, fun j hj => by rw [up2_s, up1_n _ _ hj, k3 129 (by decide) (by decide)], fun a h1 h2 h3 => by rw [up2_n _ _ h1]; exact k3 a h2 h3, k4⟩
    · refine (b153_144 hG ..).trans ?_
      rw [c2, cnd_f]
      simp (disch := omega) only [gm70 hM, gm68 hM, am127 hM, bind_s, h127, zi_lit, bzp_z0, Bool.true_eq_false, decide_false, cnd_f, km hM, Nat.beq_refl, cnd_t]
      rw [k1]
      simp only [bind_s, as_I, ne_eq, bzp_z0, dec_nbf, zi_mul, zi_add]
      rw [ef]
      cases hr2 : rws Q (fml Q sd) sd r (qn Q r) with
      | none =>
        simp (disch := omega) only [Option.isSome_none, cnd_f, b153_181 hG, wm129l hM, bind_s, zi_lit, zi_add, Option.map_none, Option.isNone_none]
      | some R' =>
        simp (disch := omega) only [Option.isSome_some, cnd_t, b153_180 hG, b153_181 hG, wm129o hM, bind_s, zi_lit, zi_add, Option.map_some, Option.isNone_some]
    · rw [ef] at hP
      cases hr2 : rws Q (fml Q sd) sd r (qn Q r) with
      | none => rw [hr2] at hP; cases hP
      | some R' => rw [hr2] at hP; cases hP; exact k2 R' hr2
theorem m153r {G : AG} (hG : FIX G) {s : Nat → Nat × Nat} {mr : Nat → Nat → Nat} (hM : MS s mr) {n : Nat × Nat} {Q : Pg} (hW : WP Q) {r : Nat} {mi : Nat → Nat → Int32} {ml : Nat → Nat → Int64} (o2 : Option AV) (hr : r < qc Q) (hQ : mdQ Q mi) (hT : MTab mi) (hK : KN Q r mi ml) :
    ∃ mi' ml', G 153 15 [some (.inr (.inr 114)), some (.inl (zi r)), o2] [] (s, n, mi, ml, mr) = G 153 15 [some (.inr (.inr 114)), some (.inl (zi (r + 1))), some (.inl (zi 2))] [] (s, n, mi', ml', mr) ∧ KN Q (r + 1) mi' ml' ∧ KF mi mi' ∧ LF ml ml' ∧ mi' 114 60 = mi 114 60 := by
  have h8 : qc Q ≤ 8 := hW.1
  have hr8 : r < 8 := by omega
  have h24 : qn Q r ≤ 24 := hW.2.1 r
  have hln := stk_len (qk Q r) (qn Q r)
  obtain ⟨m1, e1, z1, z2, -, z3⟩ := m135 hG hM (n := n) (ml := ml) hr8 h24 (hW.2.2.2.1 r) (mi := mi) (fun p hp => (hQ.2.2 r p hr8 hp).1)
  have hS : (bz (stk (qk Q r) (qn Q r)).isEmpty) = bz (whp Q r 0) := rfl
  obtain ⟨m2, hm2⟩ : ∃ m2, m2 = up2 m1 128 r (bz (whp Q r 0)) := ⟨_, rfl⟩
  have f2 : KF mi m2 := by rw [hm2]; exact KF_trans (KF_MK z3) (KF_up (Or.inr (Or.inl rfl)))
  have eA : G 153 15 [some (.inr (.inr 114)), some (.inl (zi r)), o2] [] (s, n, mi, ml, mr) = G 153 72 [some (.inr (.inr 114)), some (.inl (zi r)), some (.inl (zi 0))] [] (s, n, up2 m2 127 r (bz (whp Q r 0)), ml, mr) := by
    refine (b153_15 hG ..).trans ?_
    simp (disch := omega) only [gm50 hM, hQ.1, bind_s, zi_le, eq_false (by omega : ¬ qc Q ≤ r), decide_false, cnd_f, gm51 hM, am115 hM, hQ.2.1 r hr8, km hM, Nat.beq_refl, cnd_t, e1, as_V, gm69 hM, gm63 hM, z1, zi_lit, ne_eq, zi_eq]
    rw [hm2]
    have h0 : whp Q r 0 = decide ((stk (qk Q r) (qn Q r)).length = 0) := by
      show (stk (qk Q r) (qn Q r)).isEmpty = _
      cases stk (qk Q r) (qn Q r) <;> rfl
    rw [h0]
    by_cases hl : (stk (qk Q r) (qn Q r)).length = 0
    · simp (disch := omega) only [hl, not_true_eq_false, decide_false, decide_true, cnd_f, b153_51 hG, b153_69 hG, wm128l hM, bind_s, zi_lit, gm68 hM, gm63 hM, up2_n, z1, ne_eq, wm127l hM]
    · simp (disch := omega) only [hl, not_false_eq_true, decide_true, decide_false, cnd_t, b153_51 hG, b153_69 hG, wm128o hM, bind_s, zi_lit, gm68 hM, gm63 hM, up2_n, z1, ne_eq, zi_eq, wm127o hM]
  have hQ2 := mdQ_KF hQ f2
  have hK2 : ∀ d, d < r → m2 127 d = bz (whl Q d) := fun d hd => by
    rw [hm2, up2_n _ _ (by decide), z3.2.2.2.1 127 (by decide) (by decide)]
    exact (hK d hd).2.1
  have eB := m153p hG hM (n := n) (ml := ml) hW hr8 hQ2 hK2 (qn Q r) 0 (by omega)
  rw [← whl_eq hW hr8] at eB
  obtain ⟨m3, hm3⟩ : ∃ m3, m3 = up2 m2 127 r (bz (whl Q r)) := ⟨_, rfl⟩
  rw [← hm3] at eB
  have f3 : KF mi m3 := by rw [hm3]; exact KF_trans f2 (KF_up (Or.inl rfl))
  have hK3 : KN Q r m3 ml := fun d hd => KN1_mv (hK d hd) (by rw [hm3, hm2, up2_n _ _ (by decide), up2_s, up1_n _ _ (by omega), z3.2.2.2.1 128 (by decide) (by decide)]) (by rw [hm3, up2_s, up1_n _ _ (by omega), hm2, up2_n _ _ (by decide), z3.2.2.2.1 127 (by decide) (by decide)]) (fun sd _ => by rw [hm3, up2_n _ _ (by decide), hm2, up2_n _ _ (by decide), z3.2.2.2.1 129 (by decide) (by decide)]) (fun _ _ _ => rfl)
  have h3a : m3 127 r = bz (whl Q r) := by rw [hm3, up2_s, up1_s]
  have h3b : m3 128 r = bz (stk (qk Q r) (qn Q r)).isEmpty := by rw [hm3, up2_n _ _ (by decide), hm2, up2_s, up1_s]; rfl
  obtain ⟨m4, l4, e4, a4, b4, c4, d4, f4⟩ := m153s hG hM (n := n) hW hr8 (by decide : 0 < 2) (mdQ_KF hQ f3) (MTab_KF hT f3) hK3 h3a
  have g4 : KF m3 m4 := ⟨fun x hx => d4 x (by omega) (by omega) (by omega), fun x hx => d4 x (by omega) (by omega) (by omega), fun x h1 h2 => d4 x (by omega) (by omega) (by omega), fun x h1 h2 => d4 x (by omega) (by omega) (by omega), fun f _ _ => by rw [d4 114 (by decide) (by decide) (by decide)]⟩
  have f4' := KF_trans f3 g4
  have hK4 : KN Q r m4 l4 := fun d hd => KN1_mv (hK3 d hd) (by rw [d4 128 (by decide) (by decide) (by decide)]) (by rw [d4 127 (by decide) (by decide) (by decide)]) (fun sd _ => c4 _ (by omega)) (fun x h1 h2 => f4.1 x (by omega) (by omega))
  have h4a : m4 127 r = bz (whl Q r) := by rw [d4 127 (by decide) (by decide) (by decide)]; exact h3a
  obtain ⟨m5, l5, e5, a5, b5, c5, d5, f5⟩ := m153s hG hM (n := n) hW hr8 (by decide : 1 < 2) (mdQ_KF hQ f4') (MTab_KF hT f4') hK4 h4a
  have g5 : KF m4 m5 := ⟨fun x hx => d5 x (by omega) (by omega) (by omega), fun x hx => d5 x (by omega) (by omega) (by omega), fun x h1 h2 => d5 x (by omega) (by omega) (by omega), fun x h1 h2 => d5 x (by omega) (by omega) (by omega), fun f _ _ => by rw [d5 114 (by decide) (by decide) (by decide)]⟩
  refine ⟨m5, l5, ?_, fun d hd => ?_, KF_trans f4' g5, LF_trans f4.2 f5.2, ?_⟩
  · refine eA.trans (eB.trans (e4.trans (e5.trans ((b153_144 hG ..).trans ?_))))
    rw [show decide ((2 : Int32) ≤ zi (1 + 1)) = true from by decide, cnd_t]
    simp only [zi_lit, zi_add]
  · by_cases hd' : d < r
    · exact KN1_mv (hK4 d hd') (by rw [d5 128 (by decide) (by decide) (by decide)]) (by rw [d5 127 (by decide) (by decide) (by decide)]) (fun sd _ => c5 _ (by omega)) (fun x h1 h2 => f5.1 x (by omega) (by omega))
    · have e : d = r := by omega
      subst e
      refine ⟨by rw [d5 128 (by decide) (by decide) (by decide), d4 128 (by decide) (by decide) (by decide)]; exact h3b, by rw [d5 127 (by decide) (by decide) (by decide)]; exact h4a, fun sd hs => ?_⟩
      have h' : sd = 0 ∨ sd = 1 := by omega
      rcases h' with rfl | rfl
      · refine ⟨by rw [c5 _ (by omega)]; exact a4, fun hw P hP k hk => ?_⟩
        rw [f5.1 _ (by omega) (by omega)]
        exact b4 hw P hP k hk
      · exact ⟨a5, b5⟩
  · rw [d5 114 (by decide) (by decide) (by decide), d4 114 (by decide) (by decide) (by decide), hm3, up2_n _ _ (by decide), hm2, up2_n _ _ (by decide), z3.2.2.2.2 60 (by decide)]
theorem m153L {G : AG} (hG : FIX G) {s : Nat → Nat × Nat} {mr : Nat → Nat → Nat} (hM : MS s mr) {n : Nat × Nat} {Q : Pg} (hW : WP Q) : ∀ (f r : Nat) (o2 : Option AV) (mi : Nat → Nat → Int32) (ml : Nat → Nat → Int64), r + f = qc Q → mdQ Q mi → MTab mi → KN Q r mi ml →
    ∃ mi' ml', G 153 15 [some (.inr (.inr 114)), some (.inl (zi r)), o2] [] (s, n, mi, ml, mr) = some (none, (s, n, mi', ml', mr)) ∧ KN Q (qc Q) mi' ml' ∧ KF mi mi' ∧ LF ml ml' ∧ mi' 114 60 = mi 114 60
  | 0, r, o2, mi, ml, hf, hQ, hT, hK => by
    have e : r = qc Q := by omega
    subst e
    have h8 : qc Q ≤ 8 := hW.1
    refine ⟨mi, ml, ?_, hK, KF_refl _, LF_refl _, rfl⟩
    refine (b153_15 hG ..).trans ?_
    simp (disch := omega) only [gm50 hM, hQ.1, bind_s, zi_le, Nat.le_refl, decide_true, cnd_t]
  | f + 1, r, o2, mi, ml, hf, hQ, hT, hK => by
    obtain ⟨m1, l1, e1, a1, b1, c1, d1⟩ := m153r hG hM (n := n) hW o2 (by omega) hQ hT hK
    obtain ⟨m2, l2, e2, a2, b2, c2, d2⟩ := m153L hG hM (s := s) (mr := mr) (n := n) hW f (r + 1) (some (.inl (zi 2))) m1 l1 (by omega) (mdQ_KF hQ b1) (MTab_KF hT b1) a1
    exact ⟨m2, l2, e1.trans e2, a2, KF_trans b1 b2, LF_trans c1 c2, d2.trans d1⟩
/-- the model knows, or will -/
def MKn (Q : Pg) (mi : Nat → Nat → Int32) (ml : Nat → Nat → Int64) : Prop := ∃ b, mi 114 60 = bz b ∧ (b = true → KN Q (qc Q) mi ml)
theorem m153 {G : AG} (hG : FIX G) {s : Nat → Nat × Nat} {mr : Nat → Nat → Nat} (hM : MS s mr) {n : Nat × Nat} {Q : Pg} (hW : WP Q) {mi : Nat → Nat → Int32} {ml : Nat → Nat → Int64} (hQ : mdQ Q mi) (hT : MTab mi) (hK : MKn Q mi ml) :
    ∃ mi' ml', G 153 0 [some (.inr (.inr 114)), none, none] [] (s, n, mi, ml, mr) = some (none, (s, n, mi', ml', mr)) ∧ KN Q (qc Q) mi' ml' ∧ KF mi mi' ∧ LF ml ml' ∧ mi' 114 60 = bz true := by
  obtain ⟨b, hb, hk⟩ := hK
  cases b
  · obtain ⟨m2, l2, e2, a2, b2, c2, d2⟩ := m153L hG hM (n := n) hW (qc Q) 0 none (up2 mi 114 60 (bz true)) ml (by omega) (mdQ_KF hQ KF_60) (MTab_KF hT KF_60) (fun r hr => by omega)
    refine ⟨m2, l2, ?_, a2, KF_trans KF_60 b2, c2, by rw [d2, up2_s, up1_s]⟩
    refine (b153_0 hG ..).trans ?_
    simp only [gm60 hM, hb, bind_s, bzp_0, decide_true, cnd_t, zi_lit, pm60l hM]
    exact e2
  · refine ⟨mi, ml, ?_, hk rfl, KF_refl _, LF_refl _, hb⟩
    refine (b153_0 hG ..).trans ?_
    simp only [gm60 hM, hb, bind_s, bzp_0, Bool.true_eq_false, decide_false, cnd_f]