/-! the law: each call on both sides -/
theorem MDw_KR {Q : Pg} {x : Nat → Nat} {t : Tr} {z z' : Int32} {s : Nat → Nat × Nat} {n : Nat × Nat} {mi m1 mi' : Nat → Nat → Int32} {ml l1 ml' : Nat → Nat → Int64} {mr : Nat → Nat → Nat} (h : MDw Q x t z (s, n, mi, ml, mr)) (hk : MKn Q mi' ml') (hz : mi' 114 57 = z') (hf : KF mi m1) (hl : LF ml l1) (hr : MRf m1 mi' l1 ml') : MDw Q x t z' (s, n, mi', ml', mr) ∧ FMw (s, n, mi, ml, mr) (s, n, mi', ml', mr) := by
  obtain ⟨h1, h2, h3, h4, h5, h6, h7⟩ := h
  obtain ⟨c1, c2, c3, c4, c5⟩ := hf
  refine ⟨⟨h1, mdQ_MR (mdQ_KF h2 ⟨c1, c2, c3, c4, c5⟩) hr, ?_, ?_, MTab_MR (MTab_KF h5 ⟨c1, c2, c3, c4, c5⟩) hr, hk, hz⟩, rfl, rfl, rfl, fun a ha => ?_, fun a ha => (hr.2.2 a (by omega) (by omega) (by omega)).trans (hl a (by omega) (by omega))⟩
  · show MX x mi'
    unfold MX
    rw [hr.1 120 (by decide) (by decide), c3 120 (by decide) (by decide)]; exact h3
  · show MT t.1 t.2 mi'
    unfold MT
    rw [hr.2.1 59 (by decide) (by decide), hr.1 121 (by decide) (by decide), c5 59 (by decide) (by decide), c3 121 (by decide) (by decide)]; exact h4
  · refine (hr.1 a (by omega) (by omega)).trans ?_
    rcases ha with ha | ha
    · exact c1 a ha
    · exact c2 a ha
theorem lw_rt {G : AG} (hG : FIX G) {Q : Pg} {x : Nat → Nat} {t : Tr} {z : Int32} {s : Nat → Nat × Nat} {n : Nat × Nat} {mi : Nat → Nat → Int32} {ml : Nat → Nat → Int64} {mr : Nat → Nat → Nat} (hW : WP Q) (hx : ∀ q, x q ≤ 2) (hn : 142 ≤ n.1) (hC : CLw Q x t z (s, n, mi, ml, mr)) (hM : MDw Q x t z (s, n, mi, ml, mr)) : STP (Sum.inl : Int32 → AV) (s, n, mi, ml, mr) (G 11 0 [some (.inr (.inr 4))] [] (s, n, mi, ml, mr)) (fun H => G 128 0 [some (.inr (.inr 114))] [] H) := by
  have h8 : qc Q ≤ 8 := hW.1
  refine STP_mk (Q' := (opRt Q).2) (x' := x) (t' := t) (z' := z) (v := (opRt Q).1) hM ?_ ?_ (opRt_ok hW) hx
  · obtain ⟨h1, h2, h3, h4, h5, h6, h7⟩ := hC
    rw [c11 hG h1 h2.1 h8]
    unfold opRt
    by_cases h : qc Q = 8
    · rw [if_pos h, if_pos h]
      exact ⟨_, rfl, ⟨h1, h2, h3, h4, h5, h6, h7⟩, FCw_refl _⟩
    · rw [if_neg h, if_neg h]
      have g : ∀ a, a ≠ 4 → up2 mi 4 44 (zi (qc Q + 1)) a = mi a := fun a ha => up2_n _ _ ha
      refine ⟨_, rfl, ⟨h1, CQ_rt h2 hW (by show up2 mi 4 44 (zi (qc Q + 1)) 4 44 = _; rw [up2_s, up1_s]) g, ?_, ?_, CTab_o h5 (fun a ha => g a (by omega)), ?_, ?_⟩, fun _ _ => rfl, g 1 (by decide), fun a h1 h2 => ⟨g a (by omega), rfl⟩, fun _ => rfl, Nat.le_refl _, Nat.le_add_right _ _, Nat.le_add_right _ _⟩
      · show clX x (up2 mi 4 44 (zi (qc Q + 1)))
        unfold clX
        rw [g 6 (by decide), g 7 (by decide)]; exact h3
      · show clT t (up2 mi 4 44 (zi (qc Q + 1)))
        unfold clT
        rw [g 8 (by decide), g 9 (by decide)]; exact h4
      · intro b hb sd hs
        rw [fml_rt]
        exact CK_o h6 (fun r hr => g _ (by omega)) (fun _ _ _ _ => rfl) b hb sd hs
      · show up2 mi 4 44 (zi (qc Q + 1)) 41 33 = z
        rw [g 41 (by decide)]; exact h7
  · intro s n mi ml mr hM
    obtain ⟨m', e, q, h⟩ := m128 hG hM.1 (n := n) (ml := ml) hM.2.1 hW
    rcases h with h | ⟨h, h2⟩
    · exact ⟨_, e, MDw_MC hM q h⟩
    · refine ⟨_, e, ?_⟩
      rw [h2, h]; exact ⟨hM, FMw_refl _⟩
theorem lw_x {G : AG} (hG : FIX G) {Q : Pg} {x : Nat → Nat} {t : Tr} {z : Int32} {s : Nat → Nat × Nat} {n : Nat × Nat} {mi : Nat → Nat → Int32} {ml : Nat → Nat → Int64} {mr : Nat → Nat → Nat} (hW : WP Q) (hx : ∀ q, x q ≤ 2) (hn : 142 ≤ n.1) (hC : CLw Q x t z (s, n, mi, ml, mr)) (hM : MDw Q x t z (s, n, mi, ml, mr)) (w c b0 b1 b2 b3 b4 : Int32) : STP (Sum.inl : Int32 → AV) (s, n, mi, ml, mr) (G 12 0 [some (.inr (.inr 4)), some (.inl w), some (.inl c), some (.inl b0), some (.inl b1), some (.inl b2), some (.inl b3), some (.inl b4), none, none] [] (s, n, mi, ml, mr)) (fun H => G 129 0 [some (.inr (.inr 114)), some (.inl w), some (.inl c), some (.inl b0), some (.inl b1), some (.inl b2), some (.inl b3), some (.inl b4)] [] H) := by
  refine STP_mk (Q' := Q) (x' := (opX x w c b0 b1 b2 b3 b4).2) (t' := t) (z' := z) (v := (opX x w c b0 b1 b2 b3 b4).1) hM ?_ ?_ hW (opX_ok hx w c b0 b1 b2 b3 b4)
  · obtain ⟨h1, h2, h3, h4, h5, h6, h7⟩ := hC
    obtain ⟨m', e, q, g'⟩ := c12 hG h1 (n := n) (ml := ml) h3 w c b0 b1 b2 b3 b4
    have g : ∀ a, a ≠ 6 → a ≠ 7 → m' a = mi a := g'
    refine ⟨_, e, ⟨h1, CQ_i h2 hW (fun a ha => g a (by rcases ha with rfl | ⟨r, hr, h | h⟩ | h <;> omega) (by rcases ha with rfl | ⟨r, hr, h | h⟩ | h <;> omega)), q, ?_, CTab_o h5 (fun a ha => g a (by omega) (by omega)), CK_o h6 (fun r hr => g _ (by omega) (by omega)) (fun _ _ _ _ => rfl), by show m' 41 33 = z; rw [g 41 (by decide) (by decide)]; exact h7⟩, fun _ _ => rfl, g 1 (by decide) (by decide), fun a h1 h2 => ⟨g a (by omega) (by omega), rfl⟩, fun _ => rfl, Nat.le_refl _, Nat.le_add_right _ _, Nat.le_add_right _ _⟩
    show clT t m'
    unfold clT
    rw [g 8 (by decide) (by decide), g 9 (by decide) (by decide)]; exact h4
  · intro s n mi ml mr hM
    obtain ⟨h1, h2, h3, h4, h5, ⟨b, h6, h6'⟩, h7⟩ := hM
    obtain ⟨m', e, q, g'⟩ := m129 hG h1 (n := n) (ml := ml) h3 w c b0 b1 b2 b3 b4
    have g : ∀ a, a ≠ 120 → m' a = mi a := g'
    refine ⟨_, e, ⟨h1, ?_, q, ?_, ?_, ⟨b, by show m' 114 60 = bz b; rw [g 114 (by decide)]; exact h6, fun hb => KN_o (h6' hb) (g 127 (by decide)) (g 128 (by decide)) (g 129 (by decide)) rfl⟩, by show m' 114 57 = z; rw [g 114 (by decide)]; exact h7⟩, rfl, rfl, rfl, fun a ha => g a (by omega), fun _ _ => rfl⟩
    · show mdQ Q m'
      unfold mdQ
      rw [g 114 (by decide), g 115 (by decide), g 116 (by decide), g 117 (by decide), g 118 (by decide), g 119 (by decide)]; exact h2
    · show MT t.1 t.2 m'
      unfold MT
      rw [g 114 (by decide), g 121 (by decide)]; exact h4
    · show MTab m'
      unfold MTab
      rw [g 122 (by decide), g 123 (by decide), g 132 (by decide)]; exact h5
theorem lw_work {G : AG} (hG : FIX G) {Q : Pg} {x : Nat → Nat} {t : Tr} {z : Int32} {s : Nat → Nat × Nat} {n : Nat × Nat} {mi : Nat → Nat → Int32} {ml : Nat → Nat → Int64} {mr : Nat → Nat → Nat} (hW : WP Q) (hx : ∀ q, x q ≤ 2) (hn : 142 ≤ n.1) (hC : CLw Q x t z (s, n, mi, ml, mr)) (hM : MDw Q x t z (s, n, mi, ml, mr)) (a b : Int32) : STP (Sum.inl : Int32 → AV) (s, n, mi, ml, mr) (G 14 0 [some (.inr (.inr 4)), some (.inl a), some (.inl b), none] [] (s, n, mi, ml, mr)) (fun H => G 131 0 [some (.inr (.inr 114)), some (.inl a), some (.inl b)] [] H) := by
  obtain ⟨wW, wA⟩ := opWork_ok hW hx a b
  refine STP_mk (Q' := (opWork Q a b x).2) (x' := x) (t' := t) (z' := z) (v := (opWork Q a b x).1) hM ?_ ?_ wW hx
  · obtain ⟨H', e, q, h⟩ := c14 hG hC.1 hn hC.2.1 hW hx a b
    rcases h with ⟨h1, h2⟩ | ⟨h1, h2, h3⟩
    · refine ⟨H', e, ?_, ?_⟩
      · rw [h2, h1]; exact hC
      · rw [h1]; exact FCw_refl _
    · exact ⟨H', e, CLw_New hC q h1 h2 h3 wA⟩
  · intro s n mi ml mr hM
    obtain ⟨m', e, q, h⟩ := m131 hG hM.1 hM.2.1 hW hM.2.2.1 a b
    rcases h with h | ⟨h, h2⟩
    · exact ⟨_, e, MDw_MC hM q h⟩
    · refine ⟨_, e, ?_⟩
      rw [h2]
      rw [h]; exact ⟨hM, FMw_refl _⟩
theorem lw_loop {G : AG} (hG : FIX G) {Q : Pg} {x : Nat → Nat} {t : Tr} {z : Int32} {s : Nat → Nat × Nat} {n : Nat × Nat} {mi : Nat → Nat → Int32} {ml : Nat → Nat → Int64} {mr : Nat → Nat → Nat} (hW : WP Q) (hx : ∀ q, x q ≤ 2) (hn : 142 ≤ n.1) (hC : CLw Q x t z (s, n, mi, ml, mr)) (hM : MDw Q x t z (s, n, mi, ml, mr)) (a : Int32) : STP (Sum.inl : Int32 → AV) (s, n, mi, ml, mr) (G 30 0 [some (.inr (.inr 4)), some (.inl a), none, none] [] (s, n, mi, ml, mr)) (fun H => G 134 0 [some (.inr (.inr 114)), some (.inl a)] [] H) := by
  obtain ⟨wW, wA⟩ := opLoop_ok hW hx a
  refine STP_mk (Q' := (opLoop Q a x).2) (x' := x) (t' := t) (z' := z) (v := (opLoop Q a x).1) hM ?_ ?_ wW hx
  · obtain ⟨H', e, q, h⟩ := c30 hG hC.1 hn hC.2.1 hW hx hC.2.2.1 a
    rcases h with ⟨h1, h2⟩ | ⟨h1, h2, h3⟩
    · refine ⟨H', e, ?_, ?_⟩
      · rw [h2, h1]; exact hC
      · rw [h1]; exact FCw_refl _
    · exact ⟨H', e, CLw_New hC q h1 h2 h3 wA⟩
  · intro s n mi ml mr hM
    obtain ⟨m', e, q, h⟩ := m134 hG hM.1 hM.2.1 hW hM.2.2.1 a
    rcases h with h | ⟨h, h2⟩
    · exact ⟨_, e, MDw_MC hM q h⟩
    · refine ⟨_, e, ?_⟩
      rw [h2]
      exact MDw_MK hM h
theorem lw_call {G : AG} (hG : FIX G) {Q : Pg} {x : Nat → Nat} {t : Tr} {z : Int32} {s : Nat → Nat × Nat} {n : Nat × Nat} {mi : Nat → Nat → Int32} {ml : Nat → Nat → Int64} {mr : Nat → Nat → Nat} (hW : WP Q) (hx : ∀ q, x q ≤ 2) (hn : 142 ≤ n.1) (hC : CLw Q x t z (s, n, mi, ml, mr)) (hM : MDw Q x t z (s, n, mi, ml, mr)) (a b : Int32) : STP (Sum.inl : Int32 → AV) (s, n, mi, ml, mr) (G 33 0 [some (.inr (.inr 4)), some (.inl a), some (.inl b), none, none, none, none] [] (s, n, mi, ml, mr)) (fun H => G 136 0 [some (.inr (.inr 114)), some (.inl a), some (.inl b)] [] H) := by
  obtain ⟨wW, wA⟩ := opCall_ok hW hx a b
  refine STP_mk (Q' := (opCall Q a b x).2) (x' := x) (t' := t) (z' := z) (v := (opCall Q a b x).1) hM ?_ ?_ wW hx
  · obtain ⟨H', e, q, h⟩ := c33 hG hC.1 hn hC.2.1 hW hx hC.2.2.1 a b
    rcases h with ⟨h1, h2⟩ | ⟨h1, h2, h3⟩
    · refine ⟨H', e, ?_, ?_⟩
      · rw [h2, h1]; exact hC
      · rw [h1]; exact FCw_refl _
    · exact ⟨H', e, CLw_New hC q h1 h2 h3 wA⟩
  · intro s n mi ml mr hM
    obtain ⟨m', e, q, h⟩ := m136 hG hM.1 hM.2.1 hW hM.2.2.1 a b
    rcases h with h | ⟨h, h2⟩
    · exact ⟨_, e, MDw_MC hM q h⟩
    · refine ⟨_, e, ?_⟩
      rw [h2]
      rw [h]; exact ⟨hM, FMw_refl _⟩
theorem lw_eith {G : AG} (hG : FIX G) {Q : Pg} {x : Nat → Nat} {t : Tr} {z : Int32} {s : Nat → Nat × Nat} {n : Nat × Nat} {mi : Nat → Nat → Int32} {ml : Nat → Nat → Int64} {mr : Nat → Nat → Nat} (hW : WP Q) (hx : ∀ q, x q ≤ 2) (hn : 142 ≤ n.1) (hC : CLw Q x t z (s, n, mi, ml, mr)) (hM : MDw Q x t z (s, n, mi, ml, mr)) (a : Int32) : STP (Sum.inl : Int32 → AV) (s, n, mi, ml, mr) (G 35 0 [some (.inr (.inr 4)), some (.inl a), none] [] (s, n, mi, ml, mr)) (fun H => G 137 0 [some (.inr (.inr 114)), some (.inl a)] [] H) := by
  obtain ⟨wW, wA⟩ := opEith_ok hW hx a
  refine STP_mk (Q' := (opEith Q a x).2) (x' := x) (t' := t) (z' := z) (v := (opEith Q a x).1) hM ?_ ?_ wW hx
  · obtain ⟨H', e, q, h⟩ := c35 hG hC.1 hn hC.2.1 hW hx a
    rcases h with ⟨h1, h2⟩ | ⟨h1, h2, h3⟩
    · refine ⟨H', e, ?_, ?_⟩
      · rw [h2, h1]; exact hC
      · rw [h1]; exact FCw_refl _
    · exact ⟨H', e, CLw_New hC q h1 h2 h3 wA⟩
  · intro s n mi ml mr hM
    obtain ⟨m', e, q, h⟩ := m137 hG hM.1 hM.2.1 hW hM.2.2.1 a
    rcases h with h | ⟨h, h2⟩
    · exact ⟨_, e, MDw_MC hM q h⟩
    · refine ⟨_, e, ?_⟩
      rw [h2]
      rw [h]; exact ⟨hM, FMw_refl _⟩
theorem lw_close {G : AG} (hG : FIX G) {Q : Pg} {x : Nat → Nat} {t : Tr} {z : Int32} {s : Nat → Nat × Nat} {n : Nat × Nat} {mi : Nat → Nat → Int32} {ml : Nat → Nat → Int64} {mr : Nat → Nat → Nat} (hW : WP Q) (hx : ∀ q, x q ≤ 2) (hn : 142 ≤ n.1) (hC : CLw Q x t z (s, n, mi, ml, mr)) (hM : MDw Q x t z (s, n, mi, ml, mr)) (a b : Int32) : STP (Sum.inl : Int32 → AV) (s, n, mi, ml, mr) (G 37 0 [some (.inr (.inr 4)), some (.inl a), some (.inl b), none, none] [] (s, n, mi, ml, mr)) (fun H => G 138 0 [some (.inr (.inr 114)), some (.inl a), some (.inl b), none] [] H) := by
  obtain ⟨wW, wA⟩ := opClose_ok hW hx a b
  refine STP_mk (Q' := (opClose Q a b x).2) (x' := x) (t' := t) (z' := z) (v := (opClose Q a b x).1) hM ?_ ?_ wW hx
  · obtain ⟨H', e, q, h⟩ := c37 hG hC.1 hn hC.2.1 hW hx a b
    rcases h with ⟨h1, h2⟩ | ⟨h1, h2, h3⟩
    · refine ⟨H', e, ?_, ?_⟩
      · rw [h2, h1]; exact hC
      · rw [h1]; exact FCw_refl _
    · exact ⟨H', e, CLw_New hC q h1 h2 h3 wA⟩
  · intro s n mi ml mr hM
    obtain ⟨m', e, q, h⟩ := m138 hG hM.1 hM.2.1 hW hM.2.2.1 a b
    rcases h with h | ⟨h, h2⟩
    · exact ⟨_, e, MDw_MC hM q h⟩
    · refine ⟨_, e, ?_⟩
      rw [h2]
      exact MDw_MK hM h
theorem lw_back {G : AG} (hG : FIX G) {Q : Pg} {x : Nat → Nat} {t : Tr} {z : Int32} {s : Nat → Nat × Nat} {n : Nat × Nat} {mi : Nat → Nat → Int32} {ml : Nat → Nat → Int64} {mr : Nat → Nat → Nat} (hW : WP Q) (hx : ∀ q, x q ≤ 2) (hn : 142 ≤ n.1) (hC : CLw Q x t z (s, n, mi, ml, mr)) (hM : MDw Q x t z (s, n, mi, ml, mr)) (a : Int32) : STP (Sum.inl : Int32 → AV) (s, n, mi, ml, mr) (G 42 0 [some (.inr (.inr 4)), some (.inl a), none] [] (s, n, mi, ml, mr)) (fun H => G 139 0 [some (.inr (.inr 114)), some (.inl a)] [] H) := by
  obtain ⟨wW, wA⟩ := opBack_ok hW a
  refine STP_mk (Q' := (opBack Q a).2) (x' := x) (t' := t) (z' := z) (v := (opBack Q a).1) hM ?_ ?_ wW hx
  · obtain ⟨H', e, q, h⟩ := c42 hG hC.1 hC.2.1 hW a
    rcases h with ⟨h1, h2⟩ | ⟨h1, h2, h3⟩
    · refine ⟨H', e, ?_, ?_⟩
      · rw [h2, h1]; exact hC
      · rw [h1]; exact FCw_refl _
    · exact ⟨H', e, CLw_New hC q h1 h2 h3 wA⟩
  · intro s n mi ml mr hM
    obtain ⟨m', e, q, h⟩ := m139 hG hM.1 hM.2.1 hW a
    rcases h with h | ⟨h, h2⟩
    · exact ⟨_, e, MDw_MC hM q h⟩
    · refine ⟨_, e, ?_⟩
      rw [h2]
      rw [h]; exact ⟨hM, FMw_refl _⟩
theorem lw_kind {G : AG} (hG : FIX G) {Q : Pg} {x : Nat → Nat} {t : Tr} {z : Int32} {s : Nat → Nat × Nat} {n : Nat × Nat} {mi : Nat → Nat → Int32} {ml : Nat → Nat → Int64} {mr : Nat → Nat → Nat} (hW : WP Q) (hx : ∀ q, x q ≤ 2) (hn : 142 ≤ n.1) (hC : CLw Q x t z (s, n, mi, ml, mr)) (hM : MDw Q x t z (s, n, mi, ml, mr)) (a b : Int32) : STP (Sum.inl : Int32 → AV) (s, n, mi, ml, mr) (G 44 0 [some (.inr (.inr 4)), some (.inl a), some (.inl b), none] [] (s, n, mi, ml, mr)) (fun H => G 140 0 [some (.inr (.inr 114)), some (.inl a), some (.inl b)] [] H) := by
  refine STP_mk (Q' := Q) (x' := x) (t' := t) (z' := z) (v := (rKind Q a b)) hM ?_ ?_ hW hx
  · exact ⟨_, c44 hG hC.1 hC.2.1 hW a b, hC, FCw_refl _⟩
  · intro s n mi ml mr hM
    exact ⟨_, m140 hG hM.1 hM.2.1 hW a b, hM, FMw_refl _⟩
theorem lw_is {G : AG} (hG : FIX G) {Q : Pg} {x : Nat → Nat} {t : Tr} {z : Int32} {s : Nat → Nat × Nat} {n : Nat × Nat} {mi : Nat → Nat → Int32} {ml : Nat → Nat → Int64} {mr : Nat → Nat → Nat} (hW : WP Q) (hx : ∀ q, x q ≤ 2) (hn : 142 ≤ n.1) (hC : CLw Q x t z (s, n, mi, ml, mr)) (hM : MDw Q x t z (s, n, mi, ml, mr)) (a b c : Int32) : STP (Sum.inl : Int32 → AV) (s, n, mi, ml, mr) (G 46 0 [some (.inr (.inr 4)), some (.inl a), some (.inl b), some (.inl c), none] [] (s, n, mi, ml, mr)) (fun H => G 142 0 [some (.inr (.inr 114)), some (.inl a), some (.inl b), some (.inl c), none] [] H) := by
  refine STP_mk (Q' := Q) (x' := x) (t' := t) (z' := z) (v := (rIs Q a b c)) hM ?_ ?_ hW hx
  · exact ⟨_, c46 hG hC.1 hC.2.1 hW a b c, hC, FCw_refl _⟩
  · intro s n mi ml mr hM
    exact ⟨_, m142 hG hM.1 hM.2.1 hW a b c, hM, FMw_refl _⟩
theorem lw_told {G : AG} (hG : FIX G) {Q : Pg} {x : Nat → Nat} {t : Tr} {z : Int32} {s : Nat → Nat × Nat} {n : Nat × Nat} {mi : Nat → Nat → Int32} {ml : Nat → Nat → Int64} {mr : Nat → Nat → Nat} (hW : WP Q) (hx : ∀ q, x q ≤ 2) (hn : 142 ≤ n.1) (hC : CLw Q x t z (s, n, mi, ml, mr)) (hM : MDw Q x t z (s, n, mi, ml, mr)) (a b c : Int32) : STP (Sum.inl : Int32 → AV) (s, n, mi, ml, mr) (G 49 0 [some (.inr (.inr 4)), some (.inl a), some (.inl b), some (.inl c), none, none] [] (s, n, mi, ml, mr)) (fun H => G 144 0 [some (.inr (.inr 114)), some (.inl a), some (.inl b), some (.inl c)] [] H) := by
  refine STP_mk (Q' := Q) (x' := x) (t' := t) (z' := z) (v := (rTold Q a b c)) hM ?_ ?_ hW hx
  · exact ⟨_, c49 hG hC.1 hC.2.1 hW a b c, hC, FCw_refl _⟩
  · intro s n mi ml mr hM
    exact ⟨_, m144 hG hM.1 hM.2.1 hW a b c, hM, FMw_refl _⟩
theorem lw_ask {G : AG} (hG : FIX G) {Q : Pg} {x : Nat → Nat} {t : Tr} {z : Int32} {s : Nat → Nat × Nat} {n : Nat × Nat} {mi : Nat → Nat → Int32} {ml : Nat → Nat → Int64} {mr : Nat → Nat → Nat} (hW : WP Q) (hx : ∀ q, x q ≤ 2) (hn : 142 ≤ n.1) (hC : CLw Q x t z (s, n, mi, ml, mr)) (hM : MDw Q x t z (s, n, mi, ml, mr)) (a b c : Int32) : STP (Sum.inl : Int32 → AV) (s, n, mi, ml, mr) (G 50 0 [some (.inr (.inr 4)), some (.inl a), some (.inl b), some (.inl c), none] [] (s, n, mi, ml, mr)) (fun H => G 145 0 [some (.inr (.inr 114)), some (.inl a), some (.inl b), some (.inl c)] [] H) := by
  refine STP_mk (Q' := Q) (x' := x) (t' := tAsk Q a b c t) (z' := z) (v := (rAsk Q a b c)) hM ?_ ?_ hW hx
  · obtain ⟨h1, h2, h3, h4, h5, h6, h7⟩ := hC
    obtain ⟨m', e, q, g', g2⟩ := c50 hG h1 (n := n) (ml := ml) h2 hW h4 (fun r p hr hp h6 => (CQ_hd h2 hW hr hp h6).1) a b c
    have g : ∀ a, a ≠ 8 → a ≠ 9 → m' a = mi a := g'
    refine ⟨_, e, ⟨h1, CQ_i h2 hW (fun a ha => g a (by rcases ha with rfl | ⟨r, hr, h | h⟩ | h <;> omega) (by rcases ha with rfl | ⟨r, hr, h | h⟩ | h <;> omega)), ?_, q, CTab_o h5 (fun a ha => g a (by omega) (by omega)), CK_o h6 (fun r hr => g _ (by omega) (by omega)) (fun _ _ _ _ => rfl), by show m' 41 33 = z; rw [g 41 (by decide) (by decide)]; exact h7⟩, fun _ _ => rfl, g 1 (by decide) (by decide), fun a h1 h2 => ⟨g a (by omega) (by omega), rfl⟩, fun _ => rfl, Nat.le_refl _, Nat.le_add_right _ _, Nat.le_add_right _ _⟩
    show clX x m'
    unfold clX
    rw [g 6 (by decide) (by decide), g 7 (by decide) (by decide)]; exact h3
  · intro s n mi ml mr hM
    obtain ⟨m', e, q, h⟩ := m145 hG hM.1 (n := n) (ml := ml) hM.2.1 hW hM.2.2.2.1 a b c
    exact ⟨_, e, MDw_MA hM q h⟩
theorem lw_trace {G : AG} (hG : FIX G) {Q : Pg} {x : Nat → Nat} {t : Tr} {z : Int32} {s : Nat → Nat × Nat} {n : Nat × Nat} {mi : Nat → Nat → Int32} {ml : Nat → Nat → Int64} {mr : Nat → Nat → Nat} (hW : WP Q) (hx : ∀ q, x q ≤ 2) (hn : 142 ≤ n.1) (hC : CLw Q x t z (s, n, mi, ml, mr)) (hM : MDw Q x t z (s, n, mi, ml, mr)) (a : Int32) : STP (Sum.inl : Int32 → AV) (s, n, mi, ml, mr) (G 63 0 [some (.inr (.inr 4)), some (.inl a)] [] (s, n, mi, ml, mr)) (fun H => G 150 0 [some (.inr (.inr 114)), some (.inl a)] [] H) := by
  refine STP_mk (Q' := Q) (x' := x) (t' := t) (z' := z) (v := (rTrace t a)) hM ?_ ?_ hW hx
  · exact ⟨_, c63 hG hC.1 hC.2.2.2.1 a, hC, FCw_refl _⟩
  · intro s n mi ml mr hM
    exact ⟨_, m150 hG hM.1 hM.2.2.2.1 a, hM, FMw_refl _⟩
theorem lw_terms {G : AG} (hG : FIX G) {Q : Pg} {x : Nat → Nat} {t : Tr} {z : Int32} {s : Nat → Nat × Nat} {n : Nat × Nat} {mi : Nat → Nat → Int32} {ml : Nat → Nat → Int64} {mr : Nat → Nat → Nat} (hW : WP Q) (hx : ∀ q, x q ≤ 2) (hn : 142 ≤ n.1) (hC : CLw Q x t z (s, n, mi, ml, mr)) (hM : MDw Q x t z (s, n, mi, ml, mr)) (a b : Int32) : STP (Sum.inl : Int32 → AV) (s, n, mi, ml, mr) (G 65 0 [some (.inr (.inr 4)), some (.inl a), some (.inl b), none, none] [] (s, n, mi, ml, mr)) (fun H => G 151 0 [some (.inr (.inr 114)), some (.inl a), some (.inl b), none] [] H) := by
  refine STP_mk (Q' := Q) (x' := x) (t' := t) (z' := z) (v := (rTerms Q a b)) hM ?_ ?_ hW hx
  · obtain ⟨m', l', e, k, f⟩ := c65 hG hC.1 (n := n) hW hC.2.2.2.2.1 hC.2.1 hC.2.2.2.2.2.1 a b
    exact ⟨_, e, CLw_CFr hW hC k f⟩
  · intro s n mi ml mr hM
    obtain ⟨m', l', e, k, f, l⟩ := m151 hG hM.1 (n := n) hW hM.2.1 hM.2.2.2.2.1 hM.2.2.2.2.2.1 a b
    exact ⟨_, e, MDw_KF hM k f l⟩
theorem lw_term {G : AG} (hG : FIX G) {Q : Pg} {x : Nat → Nat} {t : Tr} {z : Int32} {s : Nat → Nat × Nat} {n : Nat × Nat} {mi : Nat → Nat → Int32} {ml : Nat → Nat → Int64} {mr : Nat → Nat → Nat} (hW : WP Q) (hx : ∀ q, x q ≤ 2) (hn : 142 ≤ n.1) (hC : CLw Q x t z (s, n, mi, ml, mr)) (hM : MDw Q x t z (s, n, mi, ml, mr)) (a b c d : Int32) : STP (fun j => Sum.inr (Sum.inl j) : Int64 → AV) (s, n, mi, ml, mr) (G 97 0 [some (.inr (.inr 4)), some (.inl a), some (.inl b), some (.inl c), some (.inl d), none, none, none, none, none] [] (s, n, mi, ml, mr)) (fun H => G 165 0 [some (.inr (.inr 114)), some (.inl a), some (.inl b), some (.inl c), some (.inl d), none, none, none, none, none, none, none, none] [] H) := by
  refine STP_mk (Q' := Q) (x' := x) (t' := t) (z' := z) (v := (rTerm Q a b c d)) hM ?_ ?_ hW hx
  · obtain ⟨m', l', e, k, f⟩ := c97 hG hC.1 (n := n) hW hC.2.2.2.2.1 hC.2.1 hC.2.2.2.2.2.1 a b c d
    exact ⟨_, e, CLw_CFr hW hC k f⟩
  · intro s n mi ml mr hM
    obtain ⟨m', l', e, k, f, l⟩ := m165 hG hM.1 (n := n) hW hM.2.1 hM.2.2.2.2.1 hM.2.2.2.2.2.1 a b c d
    exact ⟨_, e, MDw_KF hM k f l⟩
theorem lw_val {G : AG} (hG : FIX G) {Q : Pg} {x : Nat → Nat} {t : Tr} {z : Int32} {s : Nat → Nat × Nat} {n : Nat × Nat} {mi : Nat → Nat → Int32} {ml : Nat → Nat → Int64} {mr : Nat → Nat → Nat} (hW : WP Q) (hx : ∀ q, x q ≤ 2) (hn : 142 ≤ n.1) (hC : CLw Q x t z (s, n, mi, ml, mr)) (hM : MDw Q x t z (s, n, mi, ml, mr)) (a b c d : Int32) : STP (fun j => Sum.inr (Sum.inl j) : Int64 → AV) (s, n, mi, ml, mr) (G 101 0 [some (.inr (.inr 4)), some (.inl a), some (.inl b), some (.inl c), some (.inl d), none, none] [] (s, n, mi, ml, mr)) (fun H => G 168 0 [some (.inr (.inr 114)), some (.inl a), some (.inl b), some (.inl c), some (.inl d), none] [] H) := by
  refine STP_mk (Q' := Q) (x' := x) (t' := t) (z' := z) (v := (rVal Q a b c d)) hM ?_ ?_ hW hx
  · obtain ⟨m', l', e, k, f⟩ := c101 hG hC.1 (n := n) hW hC.2.2.2.2.1 hC.2.1 hC.2.2.2.2.2.1 a b c d
    exact ⟨_, e, CLw_CFr hW hC k f⟩
  · intro s n mi ml mr hM
    obtain ⟨m', l', e, k, f, l⟩ := m168 hG hM.1 (n := n) hW hM.2.1 hM.2.2.2.2.1 hM.2.2.2.2.2.1 a b c d
    exact ⟨_, e, MDw_KF hM k f l⟩
theorem lw_sure {G : AG} (hG : FIX G) {Q : Pg} {x : Nat → Nat} {t : Tr} {z : Int32} {s : Nat → Nat × Nat} {n : Nat × Nat} {mi : Nat → Nat → Int32} {ml : Nat → Nat → Int64} {mr : Nat → Nat → Nat} (hW : WP Q) (hx : ∀ q, x q ≤ 2) (hn : 142 ≤ n.1) (hC : CLw Q x t z (s, n, mi, ml, mr)) (hM : MDw Q x t z (s, n, mi, ml, mr)) (a : Int32) : STP (Sum.inl : Int32 → AV) (s, n, mi, ml, mr) (G 105 0 [some (.inr (.inr 4)), some (.inl a), none, none] [] (s, n, mi, ml, mr)) (fun H => G 171 0 [some (.inr (.inr 114)), some (.inl a), none] [] H) := by
  refine STP_mk (Q' := Q) (x' := x) (t' := t) (z' := z) (v := (rSure Q a)) hM ?_ ?_ hW hx
  · obtain ⟨m', l', e, k, f⟩ := c105 hG hC.1 (n := n) hW hC.2.2.2.2.1 hC.2.1 hC.2.2.2.2.2.1 a
    exact ⟨_, e, CLw_CFr hW hC k f⟩
  · intro s n mi ml mr hM
    obtain ⟨m', l', e, k, f, l⟩ := m171 hG hM.1 (n := n) hW hM.2.1 hM.2.2.2.2.1 hM.2.2.2.2.2.1 a
    exact ⟨_, e, MDw_KF hM k f l⟩
theorem lw_worth {G : AG} (hG : FIX G) {Q : Pg} {x : Nat → Nat} {t : Tr} {z : Int32} {s : Nat → Nat × Nat} {n : Nat × Nat} {mi : Nat → Nat → Int32} {ml : Nat → Nat → Int64} {mr : Nat → Nat → Nat} (hW : WP Q) (hx : ∀ q, x q ≤ 2) (hn : 142 ≤ n.1) (hC : CLw Q x t z (s, n, mi, ml, mr)) (hM : MDw Q x t z (s, n, mi, ml, mr)) (a b c d : Int32) : STP (Sum.inl : Int32 → AV) (s, n, mi, ml, mr) (G 107 0 [some (.inr (.inr 4)), some (.inl a), some (.inl b), some (.inl c), some (.inl d), none] [] (s, n, mi, ml, mr)) (fun H => G 173 0 [some (.inr (.inr 114)), some (.inl a), some (.inl b), some (.inl c), some (.inl d)] [] H) := by
  refine STP_mk (Q' := Q) (x' := x) (t' := t) (z' := (rWorth Q a b c d z).2) (v := (rWorth Q a b c d z).1) hM ?_ ?_ hW hx
  · obtain ⟨m', l', r', e, k, f⟩ := c107 hG hC.1 (n := n) (ml := ml) hW hC.2.1 hC.2.2.2.2.2.2 a b c d
    exact ⟨_, e, CLw_CRf hW hC k f⟩
  · intro s n mi ml mr hM
    obtain ⟨m1, l1, m', l', e, k, kn, f, l, r⟩ := m173 hG hM.1 (n := n) hW hM.2.1 hM.2.2.2.2.1 hM.2.2.2.2.2.1 hM.2.2.2.2.2.2 a b c d
    exact ⟨_, e, MDw_KR hM kn k f l r⟩
theorem lw_lot {G : AG} (hG : FIX G) {Q : Pg} {x : Nat → Nat} {t : Tr} {z : Int32} {s : Nat → Nat × Nat} {n : Nat × Nat} {mi : Nat → Nat → Int32} {ml : Nat → Nat → Int64} {mr : Nat → Nat → Nat} (hW : WP Q) (hx : ∀ q, x q ≤ 2) (hn : 142 ≤ n.1) (hC : CLw Q x t z (s, n, mi, ml, mr)) (hM : MDw Q x t z (s, n, mi, ml, mr)) (a : Int32) : STP (Sum.inl : Int32 → AV) (s, n, mi, ml, mr) (G 123 0 [some (.inr (.inr 4)), some (.inl a)] [] (s, n, mi, ml, mr)) (fun H => G 178 0 [some (.inr (.inr 114)), some (.inl a)] [] H) := by
  refine STP_mk (Q' := Q) (x' := x) (t' := t) (z' := a) (v := 1) hM ?_ ?_ hW hx
  · exact ⟨_, c123 hG hC.1 a, CLw_CRf hW hC (by rw [up2_s, up1_s]) CRf_41⟩
  · intro s n mi ml mr hM
    exact ⟨_, m178 hG hM.1 a, MDw_MR hM (by rw [up2_s, up1_s]) (MRf_f (by decide))⟩
theorem lw_allow {G : AG} (hG : FIX G) {Q : Pg} {x : Nat → Nat} {t : Tr} {z : Int32} {s : Nat → Nat × Nat} {n : Nat × Nat} {mi : Nat → Nat → Int32} {ml : Nat → Nat → Int64} {mr : Nat → Nat → Nat} (hW : WP Q) (hx : ∀ q, x q ≤ 2) (hn : 142 ≤ n.1) (hC : CLw Q x t z (s, n, mi, ml, mr)) (hM : MDw Q x t z (s, n, mi, ml, mr)) (a b c d : Int32) : STP (Sum.inl : Int32 → AV) (s, n, mi, ml, mr) (G 124 0 [some (.inr (.inr 4)), some (.inl a), some (.inl b), some (.inl c), some (.inl d), none, none] [] (s, n, mi, ml, mr)) (fun H => G 179 0 [some (.inr (.inr 114)), some (.inl a), some (.inl b), some (.inl c), some (.inl d), none] [] H) := by
  refine STP_mk (Q' := Q) (x' := x) (t' := t) (z' := (rAllow Q a b c d z).2) (v := (rAllow Q a b c d z).1) hM ?_ ?_ hW hx
  · obtain ⟨m1, l1, m', l', r', e, k, kk, f, f2⟩ := c124 hG hC.1 (n := n) hW hC.2.2.2.2.1 hC.2.1 hC.2.2.2.2.2.1 hC.2.2.2.2.2.2 a b c d
    obtain ⟨a1, a2⟩ := CLw_CFr hW hC kk f
    obtain ⟨a3, a4⟩ := CLw_CRf hW a1 k f2
    exact ⟨_, e, a3, FCw_trans0 a2 a4 rfl⟩
  · intro s n mi ml mr hM
    obtain ⟨m1, l1, m', l', e, k, kn, f, l, r⟩ := m179 hG hM.1 (n := n) hW hM.2.1 hM.2.2.2.2.1 hM.2.2.2.2.2.1 hM.2.2.2.2.2.2 a b c d
    exact ⟨_, e, MDw_KR hM kn k f l r⟩
theorem lw_count {G : AG} (hG : FIX G) {Q : Pg} {x : Nat → Nat} {t : Tr} {z : Int32} {s : Nat → Nat × Nat} {n : Nat × Nat} {mi : Nat → Nat → Int32} {ml : Nat → Nat → Int64} {mr : Nat → Nat → Nat} (hW : WP Q) (hx : ∀ q, x q ≤ 2) (hn : 142 ≤ n.1) (hC : CLw Q x t z (s, n, mi, ml, mr)) (hM : MDw Q x t z (s, n, mi, ml, mr)) (a : Int32) : STP (Sum.inl : Int32 → AV) (s, n, mi, ml, mr) (G 125 0 [some (.inr (.inr 4)), some (.inl a), none, none, none, none] [] (s, n, mi, ml, mr)) (fun H => G 180 0 [some (.inr (.inr 114)), some (.inl a), none, none, none, none] [] H) := by
  refine STP_mk (Q' := Q) (x' := x) (t' := t) (z' := z) (v := (rCount Q a)) hM ?_ ?_ hW hx
  · obtain ⟨m', l', e, k, f⟩ := c125 hG hC.1 (n := n) hW hC.2.2.2.2.1 hC.2.1 hC.2.2.2.2.2.1 a
    exact ⟨_, e, CLw_CFr hW hC k f⟩
  · intro s n mi ml mr hM
    obtain ⟨m', l', e, k, f, l⟩ := m180 hG hM.1 (n := n) hW hM.2.1 hM.2.2.2.2.1 hM.2.2.2.2.2.1 a
    exact ⟨_, e, MDw_KF hM k f l⟩