/-! the start: both sides made; PURE -/
def Q00 : Pg := (0, fun _ => 0, fun _ _ => 0, fun _ _ => 0, fun _ _ => 0, fun _ _ _ => 0)
theorem WP_00 : WP Q00 := ⟨Nat.zero_le _, fun _ => Nat.zero_le _, fun _ _ => rfl, fun r p hp => absurd hp (Nat.not_lt_zero _), fun r p hp => absurd hp (Nat.not_lt_zero _), fun r p hp => absurd hp (Nat.not_lt_zero _), fun _ _ _ => Nat.zero_le _⟩
theorem CS_first {L : Nat} {mi mi' : Nat → Nat → Int32} {mr mr' : Nat → Nat → Nat} (h : CFst mi mi' mr) (hm : ∀ a, a < 114 → mr' a = mr a) : CS (sN L 142) mr' := by
  obtain ⟨-, ⟨⟨a1, a2, a3, a4, a5, a6⟩, ⟨b1, b2, b3, b4, b5, b6, b7⟩, c1, c2⟩, hR, -⟩ := h
  have e : ∀ a f, a < 114 → mr' a f = mr a f := fun a f ha => by rw [hm a ha]
  have k : ∀ r, r < 8 → SAL.getD (42 + 9 * r) (0, 0) = (7, 12) ∧ SAL.getD (43 + 9 * r) (0, 0) = (23, 24) ∧ SAL.getD (44 + 9 * r) (0, 0) = (20, 24) ∧ SAL.getD (45 + 9 * r) (0, 0) = (26, 2) ∧ SAL.getD (46 + 9 * r) (0, 0) = (21, 36) ∧ SAL.getD (47 + 9 * r) (0, 0) = (21, 36) ∧ SAL.getD (48 + 9 * r) (0, 0) = (20, 2) ∧ SAL.getD (49 + 9 * r) (0, 0) = (21, 5) ∧ SAL.getD (50 + 9 * r) (0, 0) = (21, 5) := by decide
  have k5 : ∀ v, v < 5 → SAL.getD (13 + v) (0, 0) = (20, 252) := by decide
  have k18 : ∀ v, v < 18 → SAL.getD (21 + v) (0, 0) = (21, 252) := by decide
  refine ⟨sN_at (by decide) (by decide) rfl, sN_at (by decide) (by decide) rfl, sN_at (by decide) (by decide) rfl, sN_at (by decide) (by decide) rfl, sN_at (by decide) (by decide) rfl, sN_at (by decide) (by decide) rfl, sN_at (by decide) (by decide) rfl, sN_at (by decide) (by decide) rfl, sN_at (by decide) (by decide) rfl, sN_at (by decide) (by decide) rfl, sN_at (by decide) (by decide) rfl, sN_at (by decide) (by decide) rfl, sN_at (by decide) (by decide) rfl, sN_at (by decide) (by decide) rfl, sN_at (by decide) (by decide) rfl, sN_at (by decide) (by decide) rfl, fun v hv => sN_at (by omega) (by omega) (k5 v hv), fun v hv => sN_at (by omega) (by omega) (k18 v hv), fun r hr => sN_at (by omega) (by omega) (k r hr).1, fun r hr => sN_at (by omega) (by omega) (k r hr).2.1, fun r hr => sN_at (by omega) (by omega) (k r hr).2.2.1, fun r hr => sN_at (by omega) (by omega) (k r hr).2.2.2.1, fun r hr => sN_at (by omega) (by omega) (k r hr).2.2.2.2.1, fun r hr => sN_at (by omega) (by omega) (k r hr).2.2.2.2.2.1, fun r hr => sN_at (by omega) (by omega) (k r hr).2.2.2.2.2.2.1, fun r hr => sN_at (by omega) (by omega) (k r hr).2.2.2.2.2.2.2.1, fun r hr => sN_at (by omega) (by omega) (k r hr).2.2.2.2.2.2.2.2, ?_⟩
  refine ⟨(e _ _ (by decide)).trans a1, (e _ _ (by decide)).trans a2, (e _ _ (by decide)).trans a3, (e _ _ (by decide)).trans a4, (e _ _ (by decide)).trans a5, (e _ _ (by decide)).trans a6, (e _ _ (by decide)).trans b1, (e _ _ (by decide)).trans b2, (e _ _ (by decide)).trans b3, (e _ _ (by decide)).trans b4, (e _ _ (by decide)).trans b5, (e _ _ (by decide)).trans b6, (e _ _ (by decide)).trans b7, fun r hr => (e _ _ (by decide)).trans (hR r hr).2.2, fun v hv => (e _ _ (by decide)).trans (c1 v hv), fun v hv => (e _ _ (by decide)).trans (c2 v hv), fun r hr => (e _ _ (by omega)).trans (hR r hr).2.1.1, fun r hr => (e _ _ (by omega)).trans (hR r hr).2.1.2.1, fun r hr => (e _ _ (by omega)).trans (hR r hr).2.1.2.2.1, fun r hr => (e _ _ (by omega)).trans (hR r hr).2.1.2.2.2.1, fun r hr => (e _ _ (by omega)).trans (hR r hr).2.1.2.2.2.2.1, fun r hr => (e _ _ (by omega)).trans (hR r hr).2.1.2.2.2.2.2.1, fun r hr => (e _ _ (by omega)).trans (hR r hr).2.1.2.2.2.2.2.2.1, fun r hr => (e _ _ (by omega)).trans (hR r hr).2.1.2.2.2.2.2.2.2⟩
theorem CLw_first {L k : Nat} {mi mi' mf : Nat → Nat → Int32} {mr mr' : Nat → Nat → Nat} (h : CFst mi mi' mr) (h2 : ∀ j, j < 6 → mi 2 j = zi (upn j)) (h3 : ∀ j, j < 30 → mi 3 j = smT.getD j 0) (hi : ∀ a, a < 114 → mf a = mi' a) (hm : ∀ a, a < 114 → mr' a = mr a) : CLw Q00 (fun _ => 0) (0, fun _ => 0) 1 (sN L 142, (142, k), mf, Z0, mr') := by
  have hCS := CS_first (L := L) h hm
  obtain ⟨⟨a1, a2, a3, a4, a5, a6, a7, a8⟩, -, hR, -⟩ := h
  refine ⟨hCS, ⟨?_, fun r hr => ?_, fun r p r' p' h1 h2 h3 => absurd h3 (Nat.not_lt_zero _)⟩, ?_, ⟨Nat.zero_le _, ?_, fun i hi => absurd hi (Nat.not_lt_zero _)⟩, ⟨fun v p hv hp => ?_, fun p hp => ?_, fun j hj => ?_, fun j hj => ?_⟩, fun r hr sd hs => Or.inl ?_, ?_⟩
  · show mf 4 44 = zi 0
    rw [hi 4 (by decide)]; exact a2
  · obtain ⟨⟨b1, b2, b3⟩, -⟩ := hR r hr
    have e42 := hi (42 + 9 * r) (by omega)
    refine ⟨?_, ?_, ?_, ?_, ?_, fun p hp => absurd hp (Nat.not_lt_zero _), fun q hq => ?_⟩
    · show mf (42 + 9 * r) 21 = _
      rw [e42]; exact b1
    · show mf (42 + 9 * r) 23 = zi 0
      rw [e42]; exact b2 23 (by decide)
    · show mf (42 + 9 * r) 25 = zi 0
      rw [e42]; exact b2 25 (by decide)
    · show OB [] _
      unfold OB; exact trivial
    · show mf (42 + 9 * r) 26 = zi 0
      rw [e42]; exact b2 26 (by decide)
    · cases hq
  · intro q hq
    show mf 6 q = zi 0 ∧ mf 7 q = zi 0
    rw [hi 6 (by decide), hi 7 (by decide)]
    exact ⟨a3 q, a4 q⟩
  · show mf 8 41 = zi 0
    rw [hi 8 (by decide)]; exact a5
  · show mf (13 + v) p = _
    rw [hi _ (by omega)]
    have hd := pq_deg hp (by decide : 4 ≤ 5)
    by_cases h : degc (pq p) < 5
    · rw [if_pos h]
      exact (a7 v p hv hp).1 (hd.mp (by omega))
    · rw [if_neg h]
      exact (a7 v p hv hp).2 (fun h' => h (by have := hd.mpr h'; omega))
  · show mf 18 p = _
    rw [hi 18 (by decide)]; exact a8.1 p hp
  · show mf 2 j = _
    rw [hi 2 (by decide), a1 2 (by decide)]; exact h2 j hj
  · show mf 3 j = _
    rw [hi 3 (by decide), a1 3 (by decide)]; exact h3 j hj
  · show mf (48 + 9 * r) sd = zi 0
    rw [hi _ (by omega), (hR r hr).1.2.2 (48 + 9 * r) (by omega) (by omega)]; rfl
  · show mf 41 33 = 1
    rw [hi 41 (by decide)]; exact a6
theorem MDw_first {L k : Nat} {mi mf : Nat → Nat → Int32} {mr : Nat → Nat → Nat} (hz : Zi 114 mi) (hT : MT1 7776 mf) (hf : ∀ a, a ≠ 122 → a ≠ 123 → mf a = w132 (up2 mi 114 57 1) a) : MDw Q00 (fun _ => 0) (0, fun _ => 0) 1 (sN L 142, (142, k), mf, Z0, r127 mr) := by
  have z : ∀ a, a ≠ 122 → a ≠ 123 → a ≠ 132 → 115 ≤ a → mf a = fun _ => 0 := fun a h1 h2 h3 h4 => by rw [hf a h1 h2, w132_n _ h3, up2_n _ _ (by omega)]; exact hz a (by omega)
  have e114 : mf 114 = up1 (mi 114) 57 1 := by rw [hf 114 (by decide) (by decide), w132_n _ (by decide), up2_s]
  have z114 : ∀ f, f ≠ 57 → mf 114 f = 0 := fun f hf => by rw [e114, up1_n _ _ hf, hz 114 (by decide)]
  obtain ⟨f51, f52, f53, f54, f55, f56, f58, f61, f62, f64, f65, f67, f68, f69, f70, f71, f72, f73, f74, f75, f82, f84, f85, f86, f87, f88, f89⟩ := r127_at mr
  have hMS : MS (sN L 142) (r127 mr) := ⟨sN_at (by decide) (by decide) rfl, sN_at (by decide) (by decide) rfl, sN_at (by decide) (by decide) rfl, sN_at (by decide) (by decide) rfl, sN_at (by decide) (by decide) rfl, sN_at (by decide) (by decide) rfl, sN_at (by decide) (by decide) rfl, sN_at (by decide) (by decide) rfl, sN_at (by decide) (by decide) rfl, sN_at (by decide) (by decide) rfl, sN_at (by decide) (by decide) rfl, sN_at (by decide) (by decide) rfl, sN_at (by decide) (by decide) rfl, sN_at (by decide) (by decide) rfl, sN_at (by decide) (by decide) rfl, sN_at (by decide) (by decide) rfl, sN_at (by decide) (by decide) rfl, sN_at (by decide) (by decide) rfl, sN_at (by decide) (by decide) rfl, sN_at (by decide) (by decide) rfl, sN_at (by decide) (by decide) rfl, sN_at (by decide) (by decide) rfl, sN_at (by decide) (by decide) rfl, sN_at (by decide) (by decide) rfl, sN_at (by decide) (by decide) rfl, sN_at (by decide) (by decide) rfl, sN_at (by decide) (by decide) rfl, sN_at (by decide) (by decide) rfl, f51, f52, f53, f54, f55, f56, f58, f61, f62, f64, f65, f67, f68, f69, f70, f71, f72, f73, f74, f75, f82, f84, f85, f86, f87, f88, f89⟩
  refine ⟨hMS, ⟨?_, fun r hr => ?_, fun r p hr hp => absurd hp (Nat.not_lt_zero _)⟩, fun q hq => ?_, ⟨Nat.zero_le _, ?_, fun i hi => absurd hi (Nat.not_lt_zero _)⟩, ⟨fun k v hk hv => ?_, fun c hc => ?_, fun i hi => ?_⟩, ⟨false, ?_, fun h => absurd h (by decide)⟩, ?_⟩
  · exact z114 50 (by decide)
  · show mf 115 r = zi 0
    rw [z 115 (by decide) (by decide) (by decide) (by decide)]; rfl
  · show mf 120 q = zi 0
    rw [z 120 (by decide) (by decide) (by decide) (by decide)]; rfl
  · exact z114 59 (by decide)
  · obtain ⟨v1, v2⟩ := rk_cd hk
    have := hT.2 (cd k) v1.1 v1.2 v hv
    rw [v2] at this
    exact this
  · exact hT.1 c hc
  · show mf 132 i = _
    rw [hf 132 (by decide) (by decide)]; exact w132_at _ i hi
  · exact z114 60 (by decide)
  · show mf 114 57 = 1
    rw [e114, up1_s]
theorem pure_ok : PURE := by
  intro xs L hL
  obtain ⟨mi, hmi⟩ : ∃ x, x = (fun r => if r = 1 then xs else if r = 2 then upT else if r = 3 then suT else fun _ => 0 : Nat → Nat → Int32) := ⟨_, rfl⟩
  obtain ⟨mr, hmr⟩ : ∃ x, x = (fun _ _ => 0 : Nat → Nat → Nat) := ⟨_, rfl⟩
  have hs : (fun r => if r = 1 then (30, L) else if r = 2 then (30, 6) else if r = 3 then (30, 30) else (0, 0) : Nat → Nat × Nat) = sN L 4 := by
    funext a
    unfold sN sF
    by_cases h4 : a < 4
    · have h : a = 0 ∨ a = 1 ∨ a = 2 ∨ a = 3 := by omega
      rcases h with rfl | rfl | rfl | rfl <;> rfl
    · rw [if_neg h4, if_neg (by omega), if_neg (by omega), if_neg (by omega)]
  have eH : H00 xs L = (sN L 4, (4, 0), mi, Z0, mr) := by
    unfold H00
    rw [hs, ← hmi, hmr]
    rfl
  have hi : Zi 4 mi := fun a ha => by
    rw [hmi]
    show (if a = 1 then xs else if a = 2 then upT else if a = 3 then suT else fun _ => 0) = _
    rw [if_neg (by omega), if_neg (by omega), if_neg (by omega)]
  have hr : Zn 4 mr := fun a ha => by rw [hmr]
  have h2 : ∀ j, j < 6 → mi 2 j = zi (upn j) := by
    rw [hmi]
    show ∀ j, j < 6 → upT j = zi (upn j)
    decide
  have h3 : ∀ j, j < 30 → mi 3 j = smT.getD j 0 := by
    rw [hmi]
    show ∀ j, j < 30 → suT j = smT.getD j 0
    decide
  obtain ⟨k1, m1, r1, hk1, e1, hF⟩ := z0 ev_fix (L := L) (m := 0 + 7) hi hr h2
  have hZi := hF.2.2.2.1
  have hZn := hF.2.2.2.2
  obtain ⟨k2, hk2, e2⟩ := z127a ev_fix (L := L) (m := k1 + 40) hZi hZn
  obtain ⟨m2, e3, hT, hf⟩ := y400 ev_fix (s := sN L 142) (mr := r127 r1) (n := (142, k2)) (ml := Z0) ⟨sN_at (by decide) (by decide) rfl, sN_at (by decide) (by decide) rfl, sN_at (by decide) (by decide) rfl, (r127_at r1).2.2.2.2.2.2.2.1, (r127_at r1).2.2.2.2.2.2.2.2.1⟩ 7776 0 none none none (w132 (up2 m1 114 57 1)) (by omega) ⟨fun b hb => absurd hb (Nat.not_lt_zero _), fun b hb => absurd hb (Nat.not_lt_zero _)⟩
  have hlw : LWk L 60000 0 (sN L 142, (142, k2), m2, Z0, r127 r1) := by
    refine ⟨⟨rfl, Nat.le_refl _, Nat.le_refl _, by show k2 ≤ 60000 + 40 * 0; omega⟩, Q00, fun _ => 0, (0, fun _ => 0), 1, WP_00, fun _ => Nat.zero_le _, ?_, MDw_first hZi hT hf⟩
    exact CLw_first hF h2 h3 (fun a ha => by rw [hf a (by omega) (by omega), w132_n _ (by omega), up2_n _ _ (by omega)]) (fun a ha => r127_n _ (by omega))
  obtain ⟨H', e4, b1, b2⟩ := lawL ev_fix hL 513 0 _ (by omega) hlw
  refine ⟨H', ?_, by omega, by omega⟩
  have hk11 : Nat.beq (sN L (4 + 1) 4).1 11 = true := by rw [sN_at (by decide) (by decide) rfl]; rfl
  have hk12 : Nat.beq (sN L (114 + 1) 114).1 12 = true := by rw [sN_at (by decide) (by decide) rfl]; rfl
  rw [eH]
  refine (b181_0 ev_fix ..).trans ?_
  rw [nwE (n := 4) (kd := 11) (l := 7) (by decide) hi hr rfl, bind_s]
  show (bif Nat.beq (sN L (4 + 1) 4).1 11 then (ev 0 0 [some (.inr (.inr 4)), none] [] (sN L 5, (5, 0 + 7), mi, Z0, mr)).bind _ else _) = _
  rw [hk11, cnd_t, e1, bind_s, as_V, bind_s, nwE (n := 114) (kd := 12) (l := 40) (by decide) hZi hZn rfl, bind_s]
  show (bif Nat.beq (sN L (114 + 1) 114).1 12 then (ev 127 0 [some (.inr (.inr 114)), none, none, none, none, none] [] (sN L 115, (115, k1 + 40), m1, Z0, r1)).bind _ else _) = _
  rw [hk12, cnd_t, e2]
  rw [show ev 127 400 [some (.inr (.inr 114)), some (.inl (zi 0)), some (.inl (zi 0)), none, none, none] [] (sN L 142, (142, k2), w132 (up2 m1 114 57 1), Z0, r127 r1) = some (none, (sN L 142, (142, k2), m2, Z0, r127 r1)) from e3, bind_s, as_V, bind_s]
  exact e4
