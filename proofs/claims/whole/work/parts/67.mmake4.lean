/-! the model: make: one op each -/
/-- LOOP, EITHER -/
theorem m154o {G : AG} (hG : FIX G) {s : Nat → Nat × Nat} {mr : Nat → Nat → Nat} (hM : MS s mr) {n : Nat × Nat} {mi : Nat → Nat → Int32} {ml : Nat → Nat → Int64} {Q : Pg} (hQ : mdQ Q mi) (hW : WP Q) {r sd b p k : Nat} {S : List (Nat × Nat)} {R : List Po} (hr : r < 8) (hp : p < qn Q r) (hl : R.length < 40) (hl0 : R.length = 1 + rc S) (hS : S.length < 24) (hb : b < 100) (hk : qk Q r p = k) (hk2 : k = 3 ∨ k = 5) (hR : MR R ml) (hP : PL r S mi) (o7 o8 o9 o10 o12 : Option AV) :
    ∃ mi' ml', G 154 18 (l154 r sd S.length b (16 + rc S) p o7 o8 o9 o10 o12) [] (s, n, mi, ml, mr) = G 154 18 (k154 r sd (S.length + 1) (b + if k = 3 then 1 else 0) (16 + R.length) (p + 1) (24 * r + p) (16 + R.length) o9 o10 o12) [] (s, n, mi', ml', mr) ∧ MR ((fun _ => 0) :: R) ml' ∧ (∀ x, PL r ((p, x) :: S) mi') ∧ MJ mi mi' ∧ RN ml ml' := by
  have h24 : qn Q r ≤ 24 := hW.2.1 r
  have e18 := (m154k hG hM (n := n) (ml := ml) (sd := sd) (a := S.length) (b := b) (c := 16 + rc S) hQ hW hr hp (by omega) o7 o8 o9 o10 o12).1 (by omega)
  have q1 := (hQ.2.2 r p hr hp).1
  rw [hk] at q1
  obtain ⟨m1, e1, z1, z2⟩ := m155 hG hM (n := n) (mi := up2 (up2 mi 133 S.length (zi (24 * r + p))) 134 S.length (zi (16 + rc S))) (ml := ml) (i := 16 + rc S + 1) (by omega)
  refine ⟨up2 (up2 mi 133 S.length (zi (24 * r + p))) 134 S.length (zi (16 + rc S)), m1, ?_, ?_, fun x => ?_, ?_, RN_RF z2 (by omega)⟩
  · refine e18.trans ((b154_138 hG ..).trans ?_)
    have er : 16 + rc S + 1 = 16 + R.length := by omega
    rcases hk2 with rfl | rfl
    · simp (disch := omega) only [gm74 hM, wm133 hM, gm75 hM, wm134 hM, gm52 hM, am116 hM, bind_s, up2_n, q1, ne_eq, zi_lit, zi_eq, not_true_eq_false, decide_false, cnd_f, b154_175 hG, km hM, Nat.beq_refl, cnd_t, zi_add, e1, as_V]
      rw [er]
      exact m154n hG hM _ _ _ (by omega) _
    · simp (disch := omega) only [gm74 hM, wm133 hM, gm75 hM, wm134 hM, gm52 hM, am116 hM, bind_s, up2_n, q1, ne_eq, zi_lit, zi_eq, Nat.reduceEqDiff, not_false_eq_true, decide_true, cnd_t, b154_175 hG, km hM, Nat.beq_refl, zi_add, e1, as_V]
      rw [er]
      exact m154n hG hM _ _ _ (by omega) _
  · refine ⟨?_, MR_RF hR z2 (by omega)⟩
    rw [show 16 + R.length = 16 + rc S + 1 by omega]; exact z1
  · refine ⟨?_, ?_, PL_up (PL_up hP (Nat.le_refl _) _) (Nat.le_refl _) _⟩
    · rw [up2_n _ _ (by decide), up2_s, up1_s]
    · rw [up2_s, up1_s]
  · intro a h1 h2; rw [up2_n _ _ h2, up2_n _ _ h1]
/-- OR -/
theorem m154r {G : AG} (hG : FIX G) {s : Nat → Nat × Nat} {mr : Nat → Nat → Nat} (hM : MS s mr) {n : Nat × Nat} {mi : Nat → Nat → Int32} {ml : Nat → Nat → Int64} {Q : Pg} (hQ : mdQ Q mi) (hW : WP Q) {r sd a b p c : Nat} {R : List Po} (hr : r < 8) (hp : p < qn Q r) (hl : R.length < 40) (hl0 : R.length = 1 + c) (hk : qk Q r p = 7) (hR : MR R ml) (o7 o8 o9 o10 o12 : Option AV) :
    ∃ ml', G 154 18 (l154 r sd a b (16 + c) p o7 o8 o9 o10 o12) [] (s, n, mi, ml, mr) = G 154 18 (k154 r sd a b (16 + R.length) (p + 1) (24 * r + p) (16 + R.length) o9 o10 o12) [] (s, n, mi, ml', mr) ∧ MR ((fun _ => 0) :: R) ml' ∧ RN ml ml' := by
  have h24 : qn Q r ≤ 24 := hW.2.1 r
  have q1 := (hQ.2.2 r p hr hp).1
  rw [hk] at q1
  obtain ⟨m1, e1, z1, z2⟩ := m155 hG hM (n := n) (mi := mi) (ml := ml) (i := 16 + c + 1) (by omega)
  have er : 16 + c + 1 = 16 + R.length := by omega
  refine ⟨m1, ?_, ⟨by rw [← er]; exact z1, MR_RF hR z2 (by omega)⟩, RN_RF z2 (by omega)⟩
  refine (b154_18 hG ..).trans ?_
  simp (disch := omega) only [gm51 hM, am115 hM, gm52 hM, am116 hM, hQ.2.1 r hr, bind_s, zi_lit, zi_mul, zi_add, zi_le, zi_eq, q1, oi1, oi2, oi3, oi4, oi5, oi6, oi7, eq_false (by omega : ¬ qn Q r ≤ p), decide_false, cnd_f, Nat.reduceEqDiff, decide_true, cnd_t, km hM, Nat.beq_refl, e1, as_V]
  rw [er]
  exact m154n hG hM _ _ _ (by omega) _
/-- CALL -/
theorem m154c {G : AG} (hG : FIX G) {s : Nat → Nat × Nat} {mr : Nat → Nat → Nat} (hM : MS s mr) {n : Nat × Nat} {mi : Nat → Nat → Int32} {ml : Nat → Nat → Int64} (hT : MTab mi) {Q : Pg} (hQ : mdQ Q mi) (hW : WP Q) {r sd a l p : Nat} {F : Option Po} {T : Po} {R : List Po} (hr : r < 8) (hs : sd < 2) (hp : p < qn Q r) (hl : R.length < 40) (hl3 : l ≤ 3) (hk : qk Q r p = 4) (hF : mi 129 (2 * qd Q r p + sd) = bz F.isNone) (hW2 : ∀ V, F = some V → MPo (2 * qd Q r p + sd) V ml) (hR : MR (T :: R) ml) (o7 o8 o9 o10 o12 : Option AV) :
    ∃ ml', (F = none ∧ G 154 18 (l154 r sd a l (16 + R.length) p o7 o8 o9 o10 o12) [] (s, n, mi, ml, mr) = some (some (.inl (bz false)), (s, n, mi, ml', mr)) ∨ ∃ V, F = some V ∧
      (jn T (ad0 (putP V (fun q => zl (qt Q r p q)) (fun q => zl (qt Q r p (6 + q))) l)) R = none ∧ G 154 18 (l154 r sd a l (16 + R.length) p o7 o8 o9 o10 o12) [] (s, n, mi, ml, mr) = some (some (.inl (bz false)), (s, n, mi, ml', mr)) ∨ ∃ R', jn T (ad0 (putP V (fun q => zl (qt Q r p q)) (fun q => zl (qt Q r p (6 + q))) l)) R = some R' ∧ G 154 18 (l154 r sd a l (16 + R.length) p o7 o8 o9 o10 o12) [] (s, n, mi, ml, mr) = G 154 18 (k154 r sd a l (16 + R.length) (p + 1) (24 * r + p) (16 + R.length + 1) o9 o10 o12) [] (s, n, mi, ml', mr) ∧ MR R' ml')) ∧ RN ml ml' := by
  have h24 : qn Q r ≤ 24 := hW.2.1 r
  have e18 := (m154k hG hM (n := n) (ml := ml) (sd := sd) (a := a) (b := l) (c := 16 + R.length) hQ hW hr hp (by omega) o7 o8 o9 o10 o12).2.1 hk
  obtain ⟨-, -, q3, q4⟩ := hQ.2.2 r p hr hp
  have q3' := q3 hk
  have hd := hW.2.2.2.2.2.1 r p hp hk
  cases F with
  | none =>
    refine ⟨ml, Or.inl ⟨rfl, ?_⟩, RN_refl _⟩
    refine e18.trans ((b154_416 hG ..).trans ?_)
    have hF' : mi 129 (2 * qd Q r p + sd) = bz true := hF
    simp (disch := omega) only [gm70 hM, gm54 hM, am118 hM, q3', bind_s, zi_lit, zi_mul, zi_add, am129 hM, hF', bzp_z0, Bool.true_eq_false, decide_false, cnd_f, ret_z0]
  | some V =>
    have hF' : mi 129 (2 * qd Q r p + sd) = bz false := hF
    obtain ⟨m1, e1, z1, z2⟩ := m163 hG hM hT (n := n) (i := 16 + R.length + 1) (op := 24 * r + p) (by omega) (by omega) q3' (by omega) hs hl3 q4 (fun q => hW.2.2.2.2.2.2 r p q) (by omega) (hW2 V rfl)
    have z3 := MPo_ad0 z1
    have f3 : RF (16 + R.length + 1) (16 + R.length + 1 + 1) m1 (up2 m1 126 (252 * (16 + R.length + 1)) (m1 126 (252 * (16 + R.length + 1)) + 8640)) := RF_up (by omega) (by omega)
    have hT2 := MPo_RF (MPo_RG hR.1 z2 (by omega) (by omega)) f3 (by omega)
    obtain ⟨m2, e2, z4, z5⟩ := m156 hG hM (n := n) (mi := mi) (by omega : 16 + R.length < 70) (by omega : 16 + R.length + 1 < 70) (by omega) hT2 z3
    refine ⟨m2, Or.inr ⟨V, rfl, ?_⟩, RN_trans (RN_trans (RN_RG z2 (by omega)) (RN_RF f3 (by omega))) (RN_RF z5 (by omega))⟩
    obtain ⟨U, hU⟩ : ∃ U, U = ad0 (putP V (fun q => zl (qt Q r p q)) (fun q => zl (qt Q r p (6 + q))) l) := ⟨_, rfl⟩
    rw [← hU] at z3 e2 z4
    rw [← hU]
    have e0 : G 154 18 (l154 r sd a l (16 + R.length) p o7 o8 o9 o10 o12) [] (s, n, mi, ml, mr) = bif (gdn U 252 && gdn (pad T U) 252) then G 154 478 (k154 r sd a l (16 + R.length) p (24 * r + p) (16 + R.length + 1) o9 o10 o12) [] (s, n, mi, m2, mr) else some (some (.inl (bz false)), (s, n, mi, m2, mr)) := by
      refine e18.trans ((b154_416 hG ..).trans ?_)
      simp (disch := omega) only [gm70 hM, gm54 hM, am118 hM, q3', bind_s, zi_lit, zi_mul, zi_add, am129 hM, hF', bzp_z0, decide_true, cnd_t, km hM, Nat.beq_refl, e1, as_V, gm67 hM, am126 hM, wm126 hM]
      rw [e2]
      simp only [bind_s, as_I, ne_eq, bzp_z0]
      cases hb : (gdn U 252 && gdn (pad T U) 252)
      · simp only [decide_true, decide_false, not_true_eq_false, not_false_eq_true, cnd_f, cnd_t]; rfl
      · simp only [Bool.true_eq_false, decide_true, decide_false, not_true_eq_false, not_false_eq_true, cnd_f, cnd_t]
    rw [e0]
    unfold jn
    cases hb : (gdn U 252 && gdn (pad T U) 252)
    · exact Or.inl ⟨rfl, rfl⟩
    · rw [Bool.and_eq_true] at hb
      refine Or.inr ⟨_, rfl, ?_, z4 hb.1, MR_RF (MR_RF (MR_RG hR.2 z2 (by omega) (by omega)) f3 (by omega)) z5 (by omega)⟩
      rw [cnd_t]
      exact m154n hG hM _ _ _ (by omega) _