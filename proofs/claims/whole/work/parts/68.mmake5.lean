/-! the model: make: END, DONE -/
theorem m154e {G : AG} (hG : FIX G) {s : Nat → Nat × Nat} {mr : Nat → Nat → Nat} (hM : MS s mr) {n : Nat × Nat} {mi : Nat → Nat → Int32} {ml : Nat → Nat → Int64} (hT : MTab mi) {Q : Pg} (hQ : mdQ Q mi) (hW : WP Q) {r sd p q : Nat} {T : List (Nat × Nat)} {P A : Po} {R : List Po} (hr : r < 8) (hp : p < qn Q r) (hq : q < qn Q r) (hl : R.length < 40) (hl0 : R.length = rc T) (hTl : T.length < 24) (hl2 : lps T ≤ 2) (hk : qk Q r p = 6) (hR : MR (P :: A :: R) ml) (hP : PL r ((q, 0) :: T) mi) (o7 o8 o9 o10 o12 : Option AV) :
    ∃ ml', (((bif sumOk (ad0 P) (qt Q r q) (lps T) then jn A (sumR (ad0 P) (qt Q r q) (lps T)) R else none) = none ∧ G 154 18 (l154 r sd (T.length + 1) (lps T + 1) (16 + rc T + 1) p o7 o8 o9 o10 o12) [] (s, n, mi, ml, mr) = some (some (.inl (bz false)), (s, n, mi, ml', mr))) ∨ ∃ R', (bif sumOk (ad0 P) (qt Q r q) (lps T) then jn A (sumR (ad0 P) (qt Q r q) (lps T)) R else none) = some R' ∧ G 154 18 (l154 r sd (T.length + 1) (lps T + 1) (16 + rc T + 1) p o7 o8 o9 o10 o12) [] (s, n, mi, ml, mr) = G 154 18 (k154 r sd T.length (lps T) (16 + rc T) (p + 1) (24 * r + p) (16 + rc T + 1 + 1) o9 o10 o12) [] (s, n, mi, ml', mr) ∧ MR R' ml') ∧ RN ml ml' := by
  have h24 : qn Q r ≤ 24 := hW.2.1 r
  have e18 := (m154k hG hM (n := n) (ml := ml) (sd := sd) (a := T.length + 1) (b := lps T + 1) (c := 16 + rc T + 1) hQ hW hr hp (by omega) o7 o8 o9 o10 o12).2.2.1 hk (by omega) (by omega)
  rw [Nat.add_sub_cancel, Nat.add_sub_cancel] at e18
  obtain ⟨-, -, -, q4⟩ := hQ.2.2 r q hr hq
  obtain ⟨hP1, hP2, -⟩ := hP
  have hP0 : MPo (16 + rc T + 1) P ml := by have := hR.1; rw [List.length_cons, hl0] at this; exact this
  have hA0 : MPo (16 + rc T) A ml := by have := hR.2.1; rw [hl0] at this; exact this
  have z3 := MPo_ad0 hP0
  have f3 : RF (16 + rc T + 1) (16 + rc T + 1 + 1) ml (up2 ml 126 (252 * (16 + rc T + 1)) (ml 126 (252 * (16 + rc T + 1)) + 8640)) := RF_up (by omega) (by omega)
  obtain ⟨m1, e1, z1, z2⟩ := m158 hG hM hT (n := n) (i := 16 + rc T + 1) (op := 24 * r + q) (by omega) (by omega) hl2 q4 (fun x => hW.2.2.2.2.2.2 r q x) z3
  have hA1 := MPo_RG (MPo_RF hA0 f3 (by omega)) z2 (by omega) (by omega)
  have hRt : MR R m1 := MR_RG (MR_RF hR.2.2 f3 (by omega)) z2 (by omega) (by omega)
  have n1 : RN ml m1 := RN_trans (RN_RF f3 (by omega)) (RN_RG z2 (by omega))
  have e0 : G 154 18 (l154 r sd (T.length + 1) (lps T + 1) (16 + rc T + 1) p o7 o8 o9 o10 o12) [] (s, n, mi, ml, mr) = bif sumOk (ad0 P) (qt Q r q) (lps T) then (G 156 0 [some (.inr (.inr 114)), some (.inl (zi (16 + rc T))), some (.inl (zi (16 + rc T + 1))), none] [] (s, n, mi, m1, mr)).bind fun u10 => (asI u10.1).bind fun i11 => bif decide ((i11 : Int32) ≠ 0) then (hgR u10.2 114 75).bind fun r12 => (hAI u10.2 r12 (zi T.length)).bind fun i13 => G 154 478 [some (.inr (.inr 114)), some (.inl (zi r)), some (.inl (zi sd)), some (.inl (zi T.length)), some (.inl (zi (lps T))), some (.inl i13), some (.inl (zi p)), some (.inl (zi (24 * r + p))), some (.inl (zi (16 + rc T + 1 + 1))), o9, o10, none, o12, none] [] u10.2 else G 154 257 (k154 r sd T.length (lps T) (16 + rc T + 1) p (24 * r + p) (16 + rc T + 1 + 1) o9 o10 o12) [] u10.2 else some (some (.inl (bz false)), (s, n, mi, m1, mr)) := by
    refine e18.trans ((b154_208 hG ..).trans ?_)
    simp (disch := omega) only [gm67 hM, bind_s, zi_lit, zi_mul, am126 hM, wm126 hM, gm74 hM, am133 hM, hP1, km hM, Nat.beq_refl, cnd_t]
    rw [e1]
    simp (disch := omega) only [bind_s, as_I, bzp_z0, dec_bf, gm75 hM, am134 hM, hP2, km hM, Nat.beq_refl, cnd_t]
    cases hb : sumOk (ad0 P) (qt Q r q) (lps T)
    · exact b154_257 hG ..
    · rfl
  rw [e0]
  cases hb : sumOk (ad0 P) (qt Q r q) (lps T)
  · exact ⟨m1, Or.inl ⟨rfl, rfl⟩, n1⟩
  · obtain ⟨m2, e2, z4, z5⟩ := m156 hG hM (n := n) (mi := mi) (by omega : 16 + rc T < 70) (by omega : 16 + rc T + 1 < 70) (by omega) hA1 (z1 hb)
    refine ⟨m2, ?_, RN_trans n1 (RN_RF z5 (by omega))⟩
    obtain ⟨U, hU⟩ : ∃ U, U = sumR (ad0 P) (qt Q r q) (lps T) := ⟨_, rfl⟩
    rw [← hU] at e2 z4
    rw [← hU, cnd_t, cnd_t, e2]
    simp (disch := omega) only [bind_s, as_I, ne_eq, bzp_0, dec_nbf, gm75 hM, am134 hM, hP2]
    unfold jn
    cases hb2 : (gdn U 252 && gdn (pad A U) 252)
    · exact Or.inl ⟨rfl, b154_257 hG ..⟩
    · rw [Bool.and_eq_true] at hb2
      refine Or.inr ⟨_, rfl, ?_, by rw [hl0]; exact z4 hb2.1, MR_RF hRt z5 (by omega)⟩
      rw [cnd_t]
      exact m154n hG hM _ _ _ (by omega) _
theorem m154d {G : AG} (hG : FIX G) {s : Nat → Nat × Nat} {mr : Nat → Nat → Nat} (hM : MS s mr) {n : Nat × Nat} {mi : Nat → Nat → Int32} {ml : Nat → Nat → Int64} {Q : Pg} (hQ : mdQ Q mi) (hW : WP Q) {r sd p q l : Nat} {T : List (Nat × Nat)} {P A B : Po} {R : List Po} (hr : r < 8) (hs : sd < 2) (hp : p < qn Q r) (hl : R.length < 38) (hl0 : R.length = rc T) (hTl : T.length < 24) (hk : qk Q r p = 8) (hR : MR (P :: A :: B :: R) ml) (hP : PL r ((q, 2) :: T) mi) (o7 o8 o9 o10 o12 : Option AV) :
    ∃ ml' p9 p10 p12, ((jn B (ad0 (fun c => mmx sd (A c) (P c))) R = none ∧ G 154 18 (l154 r sd (T.length + 1) l (16 + rc T + 1 + 1) p o7 o8 o9 o10 o12) [] (s, n, mi, ml, mr) = some (some (.inl (bz false)), (s, n, mi, ml', mr))) ∨ ∃ R', jn B (ad0 (fun c => mmx sd (A c) (P c))) R = some R' ∧ G 154 18 (l154 r sd (T.length + 1) l (16 + rc T + 1 + 1) p o7 o8 o9 o10 o12) [] (s, n, mi, ml, mr) = G 154 18 (k154 r sd T.length l (16 + rc T) (p + 1) (24 * r + p) (16 + rc T + 1 + 1 + 1) p9 p10 p12) [] (s, n, mi, ml', mr) ∧ MR R' ml') ∧ RN ml ml' := by
  have h24 : qn Q r ≤ 24 := hW.2.1 r
  have e18 := (m154k hG hM (n := n) (ml := ml) (sd := sd) (a := T.length + 1) (b := l) (c := 16 + rc T + 1 + 1) hQ hW hr hp (by omega) o7 o8 o9 o10 o12).2.2.2 hk (by omega)
  rw [Nat.add_sub_cancel] at e18
  obtain ⟨-, hP2, -⟩ := hP
  have hP0 : MPo (16 + rc T + 1 + 1) P ml := by have := hR.1; simp only [List.length_cons, hl0] at this; exact this
  have hA0 : MPo (16 + rc T + 1) A ml := by have := hR.2.1; simp only [List.length_cons, hl0] at this; exact this
  have hB0 : MPo (16 + rc T) B ml := by have := hR.2.2.1; rw [hl0] at this; exact this
  obtain ⟨m1, p10, p12, e1, z1, z2⟩ := m154M hG hM (n := n) (mi := mi) (y1 := zi r) (y3 := zi T.length) (y4 := zi l) (y6 := zi p) (y7 := zi (24 * r + p)) (y8 := zi (16 + rc T + 1 + 1 + 1)) (q := 16 + rc T + 1 + 1) (A := A) (B := P) (by omega) (by omega) hs 252 0 o10 o12 ml (by omega) hA0 (fun x hx => by rw [if_neg (Nat.not_lt_zero _)]; exact hP0 x hx)
  have z3 := MPo_ad0 z1
  have f3 : RF (16 + rc T + 1 + 1) (16 + rc T + 1 + 1 + 1) ml (up2 m1 126 (252 * (16 + rc T + 1 + 1)) (m1 126 (252 * (16 + rc T + 1 + 1)) + 8640)) := RF_trans z2 (RF_up (by omega) (by omega))
  have hB1 := MPo_RF hB0 f3 (by omega)
  have hRt := MR_RF hR.2.2.2 f3 (by omega)
  obtain ⟨m2, e2, z4, z5⟩ := m156 hG hM (n := n) (mi := mi) (by omega : 16 + rc T < 70) (by omega : 16 + rc T + 1 + 1 < 70) (by omega) hB1 z3
  refine ⟨m2, some (.inl (zi 252)), p10, p12, ?_, RN_trans (RN_RF f3 (by omega)) (RN_RF z5 (by omega))⟩
  obtain ⟨U, hU⟩ : ∃ U, U = ad0 (fun c => mmx sd (A c) (P c)) := ⟨_, rfl⟩
  rw [← hU] at e2 z4
  rw [← hU]
  have hc : decide ((252 : Int32) ≤ zi 252) = true := by decide
  have e0 : G 154 18 (l154 r sd (T.length + 1) l (16 + rc T + 1 + 1) p o7 o8 o9 o10 o12) [] (s, n, mi, ml, mr) = bif (gdn U 252 && gdn (pad B U) 252) then G 154 478 (k154 r sd T.length l (16 + rc T) p (24 * r + p) (16 + rc T + 1 + 1 + 1) (some (.inl (zi 252))) p10 p12) [] (s, n, mi, m2, mr) else some (some (.inl (bz false)), (s, n, mi, m2, mr)) := by
    refine e18.trans ((b154_273 hG ..).trans (e1.trans ((b154_276 hG ..).trans ?_)))
    rw [hc, cnd_t]
    simp (disch := omega) only [gm67 hM, bind_s, zi_lit, zi_mul, am126 hM, wm126 hM, gm75 hM, am134 hM, hP2, km hM, Nat.beq_refl, cnd_t]
    rw [e2]
    simp (disch := omega) only [bind_s, as_I, ne_eq, bzp_z0, dec_nbf, gm75 hM, am134 hM, hP2, ret_z0]
  rw [e0]
  unfold jn
  cases hb2 : (gdn U 252 && gdn (pad B U) 252)
  · exact Or.inl ⟨rfl, rfl⟩
  · rw [Bool.and_eq_true] at hb2
    refine Or.inr ⟨_, rfl, ?_, by rw [hl0]; exact z4 hb2.1, MR_RF hRt z5 (by omega)⟩
    rw [cnd_t]
    exact m154n hG hM _ _ _ (by omega) _