/-! the model: make whole -/
def RQ (u : Nat) (ml ml' : Nat → Nat → Int64) : Prop := (∀ x, x < 4032 → x < 252 * u ∨ 252 * u + 252 ≤ x → ml' 126 x = ml 126 x) ∧ ∀ a, a ≠ 126 → a ≠ 130 → ml' a = ml a
theorem RQ_RN {u a b c} (h : RN a b) (h' : RQ u b c) : RQ u a c := ⟨fun x h1 h2 => (h'.1 x h1 h2).trans (h.1 x h1), fun x h1 h2 => (h'.2 x h1 h2).trans (h.2 x h1 h2)⟩
theorem RQ_of {u a b} (h : RN a b) : RQ u a b := ⟨fun x h1 _ => h.1 x h1, h.2⟩
theorem mdQ_MJ {Q mi mi'} (h : mdQ Q mi) (hk : MJ mi mi') : mdQ Q mi' := by
  unfold mdQ
  rw [hk 114 (by decide) (by decide), hk 115 (by decide) (by decide), hk 116 (by decide) (by decide), hk 117 (by decide) (by decide), hk 118 (by decide) (by decide), hk 119 (by decide) (by decide)]
  exact h
theorem MTab_MJ {mi mi'} (h : MTab mi) (hk : MJ mi mi') : MTab mi' := by
  unfold MTab
  rw [hk 122 (by decide) (by decide), hk 123 (by decide) (by decide), hk 132 (by decide) (by decide)]
  exact h
theorem m154S {G : AG} (hG : FIX G) {s : Nat → Nat × Nat} {mr : Nat → Nat → Nat} (hM : MS s mr) {n : Nat × Nat} {mi : Nat → Nat → Int32} {ml : Nat → Nat → Int64} (hT : MTab mi) {Q : Pg} (hQ : mdQ Q mi) (hW : WP Q) {r sd p : Nat} {F : Nat → Option Po} {R : List Po} (hr : r < 8) (hs : sd < 2) (hp : p < qn Q r)
    (hF : qk Q r p = 4 → mi 129 (2 * qd Q r p + sd) = bz (F (qd Q r p)).isNone ∧ ∀ V, F (qd Q r p) = some V → MPo (2 * qd Q r p + sd) V ml) (hl0 : R.length = 1 + rc (stk (qk Q r) p)) (hR : MR R ml) (hP : PL r (stk (qk Q r) p) mi) (o7 o8 o9 o10 o12 : Option AV) :
    ∃ mi' ml', ((sfp sd (qk Q r p) (qw Q r p) (qt Q r p) (qt Q r (hdp (stk (qk Q r) p))) (F (qd Q r p)) (lps (stk (qk Q r) p)) R = none ∧ G 154 18 (l154 r sd (stk (qk Q r) p).length (lps (stk (qk Q r) p)) (16 + rc (stk (qk Q r) p)) p o7 o8 o9 o10 o12) [] (s, n, mi, ml, mr) = some (some (.inl (bz false)), (s, n, mi', ml', mr))) ∨
      ∃ R' p7 p8 p9 p10 p12, sfp sd (qk Q r p) (qw Q r p) (qt Q r p) (qt Q r (hdp (stk (qk Q r) p))) (F (qd Q r p)) (lps (stk (qk Q r) p)) R = some R' ∧ G 154 18 (l154 r sd (stk (qk Q r) p).length (lps (stk (qk Q r) p)) (16 + rc (stk (qk Q r) p)) p o7 o8 o9 o10 o12) [] (s, n, mi, ml, mr) = G 154 18 (l154 r sd (stk (qk Q r) (p + 1)).length (lps (stk (qk Q r) (p + 1))) (16 + rc (stk (qk Q r) (p + 1))) (p + 1) p7 p8 p9 p10 p12) [] (s, n, mi', ml', mr) ∧ MR R' ml' ∧ PL r (stk (qk Q r) (p + 1)) mi') ∧ MJ mi mi' ∧ RN ml ml' := by
  have h24 : qn Q r ≤ 24 := hW.2.1 r
  have hWF := hW.2.2.2.1 r
  have hWp := WF_le hWF (Nat.le_of_lt hp)
  have hrc := rc_le hWp
  have hln := stk_len (qk Q r) p
  have hl3 := lps_3 hWp
  have hlt := stk_lt hWp
  have e0 : stk (qk Q r) (p + 1) = stq (qk Q r p) p (stk (qk Q r) p) := rfl
  rw [e0]
  obtain ⟨S, hS⟩ : ∃ S, S = stk (qk Q r) p := ⟨_, rfl⟩
  have hok := hWF p hp
  rw [← hS] at hl0 hP hrc hln hl3 hlt hok ⊢
  obtain ⟨P, R, rfl⟩ : ∃ P R0, R = P :: R0 := by
    cases R with
    | nil => rw [List.length_nil] at hl0; omega
    | cons P R0 => exact ⟨P, R0, rfl⟩
  rw [List.length_cons] at hl0
  have hl0' : R.length = rc S := by omega
  rcases hok with hk | ⟨hk, hl⟩ | hk | hk | ⟨hk, q, T, hq⟩ | ⟨hk, q, T, hq⟩ | ⟨hk, q, T, hq⟩
  · obtain ⟨ml', h1, h2⟩ := m154w hG hM (n := n) (sd := sd) (a := S.length) (b := lps S) hQ hW hr hp (by omega) hk hR o7 o8 o9 o10 o12
    refine ⟨mi, ml', ?_, MJ_refl _, h2⟩
    rw [hk, stq_1, ← hl0']
    rw [sfp_c]
    rw [if_pos rfl]
    rcases h1 with h | ⟨R', h3, h4, h5⟩
    · exact Or.inl h
    · exact Or.inr ⟨R', _, _, _, _, _, h3, h4, h5, hP⟩
  · obtain ⟨mi', ml', h1, h2, h3, h4, h5⟩ := m154o hG hM (n := n) (sd := sd) (b := lps S) hQ hW hr hp (by rw [List.length_cons]; omega) (by rw [List.length_cons]; omega) (by omega) (by omega) hk (Or.inl rfl) hR hP o7 o8 o9 o10 o12
    refine ⟨mi', ml', Or.inr ⟨_, some (.inl (zi (24 * r + p))), some (.inl (zi (16 + (P :: R).length))), o9, o10, o12, ?_, ?_, h2, ?_⟩, h4, h5⟩
    · rw [hk]; rfl
    · rw [hk, stq_3]
      rw [List.length_cons, if_pos rfl] at h1
      rw [rc_0, List.length_cons, show lps ((p, 0) :: S) = 1 + lps S from rfl, Nat.add_comm 1 (lps S), show 16 + (1 + rc S) = 16 + (R.length + 1) by omega]
      exact h1
    · rw [hk, stq_3]; exact h3 0
  · obtain ⟨hF1, hF2⟩ := hF hk
    obtain ⟨ml', h1, h2⟩ := m154c hG hM hT (n := n) (a := S.length) hQ hW hr hs hp (by omega) hl3 hk hF1 hF2 hR o7 o8 o9 o10 o12
    refine ⟨mi, ml', ?_, MJ_refl _, h2⟩
    rw [hk, stq_4, ← hl0']
    rw [sfp_c]
    simp only [Nat.reduceEqDiff, if_false, if_true]
    rcases h1 with ⟨h, h'⟩ | ⟨V, hV, ⟨h, h'⟩ | ⟨R', h3, h4, h5⟩⟩
    · rw [h]; exact Or.inl ⟨rfl, h'⟩
    · rw [hV]; exact Or.inl ⟨h, h'⟩
    · rw [hV]; exact Or.inr ⟨R', _, _, _, _, _, h3, h4, h5, hP⟩
  · obtain ⟨mi', ml', h1, h2, h3, h4, h5⟩ := m154o hG hM (n := n) (sd := sd) (b := lps S) hQ hW hr hp (by rw [List.length_cons]; omega) (by rw [List.length_cons]; omega) (by omega) (by omega) hk (Or.inr rfl) hR hP o7 o8 o9 o10 o12
    refine ⟨mi', ml', Or.inr ⟨_, some (.inl (zi (24 * r + p))), some (.inl (zi (16 + (P :: R).length))), o9, o10, o12, ?_, ?_, h2, ?_⟩, h4, h5⟩
    · rw [hk]; rfl
    · rw [hk, stq_5]
      rw [List.length_cons, if_neg (by decide)] at h1
      rw [rc_1, List.length_cons, show lps ((p, 1) :: S) = 0 + lps S from rfl, Nat.zero_add, show 16 + (1 + rc S) = 16 + (R.length + 1) by omega]
      exact h1
    · rw [hk, stq_5]; exact h3 1
  · subst hq
    rw [rc_0] at hl0' hrc
    cases R with
    | nil => rw [List.length_nil] at hl0'; omega
    | cons A R =>
      rw [List.length_cons] at hl0'
      have hq1 : q < p := hlt (q, 0) (List.mem_cons_self ..)
      have hlq : lps ((q, 0) :: T) = lps T + 1 := Nat.add_comm _ _
      rw [hlq] at hl3
      rw [List.length_cons] at hln
      obtain ⟨ml', h1, h2⟩ := m154e hG hM hT (n := n) (sd := sd) hQ hW hr hp (by omega) (by omega) (by omega) (by omega) (by omega) hk hR hP o7 o8 o9 o10 o12
      refine ⟨mi, ml', ?_, MJ_refl _, h2⟩
      rw [hk, stq_6, rc_0, hlq]
      rw [sfp_c]
      simp only [Nat.reduceEqDiff, if_false, if_true, List.tail_cons, List.length_cons, Nat.add_sub_cancel, show hdp ((q, 0) :: T) = q from rfl, show 16 + (1 + rc T) = 16 + rc T + 1 by omega]
      rcases h1 with h | ⟨R', h3, h4, h5⟩
      · exact Or.inl h
      · exact Or.inr ⟨R', _, _, _, _, _, h3, h4, h5, hP.2.2⟩
  · subst hq
    obtain ⟨ml', h1, h2, h3⟩ := m154r hG hM (n := n) (sd := sd) (a := ((q, 1) :: T).length) (b := lps ((q, 1) :: T)) (c := rc ((q, 1) :: T)) hQ hW hr hp (by rw [List.length_cons]; omega) (by rw [List.length_cons]; omega) hk hR o7 o8 o9 o10 o12
    refine ⟨mi, ml', Or.inr ⟨_, some (.inl (zi (24 * r + p))), some (.inl (zi (16 + (P :: R).length))), o9, o10, o12, ?_, ?_, h2, ?_⟩, MJ_refl _, h3⟩
    · rw [hk]; rfl
    · rw [hk, stq_7, rc_2]
      rw [rc_1] at hl0'
      rw [show 16 + (2 + rc T) = 16 + (P :: R).length by rw [List.length_cons]; omega]
      exact h1
    · rw [hk, stq_7]; exact hP
  · subst hq
    rw [rc_2] at hl0' hrc
    cases R with
    | nil => rw [List.length_nil] at hl0'; omega
    | cons A R =>
      cases R with
      | nil => rw [List.length_cons, List.length_nil] at hl0'; omega
      | cons B R =>
        rw [List.length_cons, List.length_cons] at hl0'
        have hlq : lps ((q, 2) :: T) = lps T := Nat.zero_add _
        rw [List.length_cons] at hln
        obtain ⟨ml', p9, p10, p12, h1, h2⟩ := m154d hG hM (n := n) (l := lps T) hQ hW hr hs hp (by omega) (by omega) (by omega) hk hR hP o7 o8 o9 o10 o12
        refine ⟨mi, ml', ?_, MJ_refl _, h2⟩
        rw [hk, stq_8, rc_2, hlq]
        rw [sfp_c]
        simp only [Nat.reduceEqDiff, if_false, if_true, List.tail_cons, List.length_cons, show 16 + (2 + rc T) = 16 + rc T + 1 + 1 by omega]
        rcases h1 with h | ⟨R', h3, h4, h5⟩
        · exact Or.inl h
        · exact Or.inr ⟨R', _, _, _, _, _, h3, h4, h5, hP.2.2⟩
theorem m154L {G : AG} (hG : FIX G) {s : Nat → Nat × Nat} {mr : Nat → Nat → Nat} (hM : MS s mr) {n : Nat × Nat} {Q : Pg} (hW : WP Q) {r sd : Nat} {F : Nat → Option Po} (hr : r < 8) (hs : sd < 2) (h0 : stk (qk Q r) (qn Q r) = []) : ∀ (f p : Nat) (mi : Nat → Nat → Int32) (ml : Nat → Nat → Int64) (R : List Po) (o7 o8 o9 o10 o12 : Option AV), p + f = qn Q r → MTab mi → mdQ Q mi →
    (∀ p, p < qn Q r → qk Q r p = 4 → mi 129 (2 * qd Q r p + sd) = bz (F (qd Q r p)).isNone ∧ ∀ V, F (qd Q r p) = some V → MPo (2 * qd Q r p + sd) V ml) → rws Q F sd r p = some R → MR R ml → PL r (stk (qk Q r) p) mi →
    ∃ mi' ml', G 154 18 (l154 r sd (stk (qk Q r) p).length (lps (stk (qk Q r) p)) (16 + rc (stk (qk Q r) p)) p o7 o8 o9 o10 o12) [] (s, n, mi, ml, mr) = some (some (.inl (bz (rws Q F sd r (qn Q r)).isSome)), (s, n, mi', ml', mr)) ∧ (∀ R', rws Q F sd r (qn Q r) = some R' → MPo (2 * r + sd) (R'.headD (fun _ => 0)) ml') ∧ MJ mi mi' ∧ RQ (2 * r + sd) ml ml'
  | 0, p, mi, ml, R, o7, o8, o9, o10, o12, hpf, hT, hQ, hF, hR0, hR, hP => by
    have e : p = qn Q r := by omega
    subst e
    have hl := rws_len (hW.2.2.2.1 r) (Nat.le_refl _) hR0
    have h24 : qn Q r ≤ 24 := hW.2.1 r
    rw [h0] at hl ⊢
    cases R with
    | nil => rw [List.length_nil] at hl; exact absurd hl (by show ¬ 0 = 1 + 0; omega)
    | cons P R =>
      have hRn : R = [] := by
        cases R with
        | nil => rfl
        | cons a b => rw [List.length_cons, List.length_cons] at hl; exact absurd hl (by show ¬ _ = 1 + 0; omega)
      subst hRn
      obtain ⟨ml', e1, z1, z2⟩ := m154E hG hM (n := n) (mi := mi) (y3 := zi 0) (y4 := zi 0) (y5 := zi 16) (o7 := o7) (o8 := o8) (o9 := o9) (o10 := o10) (o12 := o12) hr hs 252 0 ml (by omega) hR.1 (fun x hx => by omega)
      refine ⟨mi, ml', ?_, fun R' hR' => ?_, MJ_refl _, fun x h1 h2 => z2.1 x (by omega), fun a h1 h2 => z2.2 a h1⟩
      · rw [hR0]
        refine (b154_18 hG ..).trans ?_
        simp (disch := omega) only [gm51 hM, am115 hM, hQ.2.1 r hr, bind_s, zi_le, Nat.le_refl, decide_true, cnd_t]
        exact e1
      · rw [hR0] at hR'; cases hR'; exact z1
  | f + 1, p, mi, ml, R, o7, o8, o9, o10, o12, hpf, hT, hQ, hF, hR0, hR, hP => by
    have hp : p < qn Q r := by omega
    have hl := rws_len (hW.2.2.2.1 r) (Nat.le_of_lt hp) hR0
    obtain ⟨mi1, ml1, h1, h2, h3⟩ := m154S hG hM hT (n := n) hQ hW hr hs hp (F := F) (hF p hp) hl hR hP o7 o8 o9 o10 o12
    have er : rws Q F sd r (p + 1) = sfp sd (qk Q r p) (qw Q r p) (qt Q r p) (qt Q r (hdp (stk (qk Q r) p))) (F (qd Q r p)) (lps (stk (qk Q r) p)) R := by rw [rws, hR0]; rfl
    rcases h1 with ⟨h4, h5⟩ | ⟨R', p7, p8, p9, p10, p12, h4, h5, h6, h7⟩
    · have hn : rws Q F sd r (qn Q r) = none := by
        have := rws_none (er.trans h4) f
        rw [show p + 1 + f = qn Q r by omega] at this
        exact this
      refine ⟨mi1, ml1, ?_, fun R' hR' => ?_, h2, RQ_of h3⟩
      · rw [hn]; exact h5
      · rw [hn] at hR'; cases hR'
    · obtain ⟨mi2, ml2, k1, k2, k3, k4⟩ := m154L hG hM (s := s) (mr := mr) (n := n) hW hr hs h0 f (p + 1) mi1 ml1 R' p7 p8 p9 p10 p12 (by omega) (MTab_MJ hT h2) (mdQ_MJ hQ h2) (fun q hq hk => by
        obtain ⟨g1, g2⟩ := hF q hq hk
        have hd := hW.2.2.2.2.2.1 r q hq hk
        exact ⟨by rw [h2 129 (by decide) (by decide)]; exact g1, fun V hV => MPo_RN (g2 V hV) h3 (by omega)⟩) (er.trans h4) h6 h7
      exact ⟨mi2, ml2, h5.trans k1, k2, MJ_trans h2 k3, RQ_RN h3 k4⟩
theorem m154 {G : AG} (hG : FIX G) {s : Nat → Nat × Nat} {mr : Nat → Nat → Nat} (hM : MS s mr) {n : Nat × Nat} {Q : Pg} (hW : WP Q) {r sd : Nat} {F : Nat → Option Po} {mi : Nat → Nat → Int32} {ml : Nat → Nat → Int64} (hr : r < 8) (hs : sd < 2) (h0 : stk (qk Q r) (qn Q r) = []) (hT : MTab mi) (hQ : mdQ Q mi) (hF : ∀ p, p < qn Q r → qk Q r p = 4 → mi 129 (2 * qd Q r p + sd) = bz (F (qd Q r p)).isNone ∧ ∀ V, F (qd Q r p) = some V → MPo (2 * qd Q r p + sd) V ml) :
    ∃ mi' ml', G 154 0 [some (.inr (.inr 114)), some (.inl (zi r)), some (.inl (zi sd)), none, none, none, none, none, none, none, none, none, none, none] [] (s, n, mi, ml, mr) = some (some (.inl (bz (rws Q F sd r (qn Q r)).isSome)), (s, n, mi', ml', mr)) ∧ (∀ R', rws Q F sd r (qn Q r) = some R' → MPo (2 * r + sd) (R'.headD (fun _ => 0)) ml') ∧ MJ mi mi' ∧ RQ (2 * r + sd) ml ml' := by
  obtain ⟨m1, e1, z1, z2⟩ := m155 hG hM (n := n) (mi := mi) (ml := ml) (i := 16) (by omega)
  have n1 : RN ml m1 := RN_RF z2 (by omega)
  obtain ⟨mi2, ml2, k1, k2, k3, k4⟩ := m154L hG hM (n := n) (F := F) hW hr hs h0 (qn Q r) 0 mi m1 [fun _ => 0] none none none none none (by omega) hT hQ (fun q hq hk => by
    obtain ⟨g1, g2⟩ := hF q hq hk
    have hd := hW.2.2.2.2.2.1 r q hq hk
    exact ⟨g1, fun V hV => MPo_RN (g2 V hV) n1 (by omega)⟩) rfl ⟨z1, trivial⟩ trivial
  refine ⟨mi2, ml2, ?_, k2, k3, RQ_RN n1 k4⟩
  refine (b154_0 hG ..).trans ?_
  simp (disch := omega) only [km hM, Nat.beq_refl, cnd_t, zi_lit, e1, bind_s, as_V]
  exact k1