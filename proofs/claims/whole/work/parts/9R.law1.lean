/-! the law: one call on both sides -/
theorem CQ_rt {Q : Pg} {N : Nat} {s : Nat → Nat × Nat} {mi mi' : Nat → Nat → Int32} {mr : Nat → Nat → Nat} {c : Nat} (hQ : CQ Q N s mi mr) (hW : WP Q) (h4 : mi' 4 44 = zi c) (h : ∀ a, a ≠ 4 → mi' a = mi a) : CQ (c, Q.2) N s mi' mr := by
  refine ⟨h4, fun r hr => ?_, hQ.2.2⟩
  obtain ⟨a1, a2, a3, a4, a5, a6, a7⟩ := hQ.2.1 r hr
  have m42 : mi' (42 + 9 * r) = mi (42 + 9 * r) := h _ (by omega)
  refine ⟨by rw [m42]; exact a1, by rw [m42]; exact a2, by rw [m42]; exact a3, by rw [h (44 + 9 * r) (by omega)]; exact a4, by rw [m42]; exact a5, fun p hp => ?_, fun q hq => ?_⟩
  · obtain ⟨c1, c2, c3, c4, c5, c6, c7, c8, c9, c10, c11, c12, c13⟩ := a6 p hp
    have ho := h (mr (43 + 9 * r) p) (by omega)
    have hop : 6 ≤ qk Q r p → mi' (mr (43 + 9 * r) (hdp (stk (qk Q r) p))) = mi (mr (43 + 9 * r) (hdp (stk (qk Q r) p))) := fun h6 => h _ (by have := (CQ_hd hQ hW hr hp h6).1; omega)
    have hex : ∀ e t, EX s mi N e t → EX s mi' N e t := fun e t hE => ⟨hE.1, hE.2.1, hE.2.2.1, fun q hq => by rw [h e (by have := hE.1; omega)]; exact hE.2.2.2 q hq⟩
    unfold CO
    refine ⟨c1, c2, c3, by rw [ho]; exact c4, by rw [ho]; exact c5, by rw [ho]; exact c6, by rw [ho]; exact c7, fun hk => by rw [ho]; exact c8 hk, fun hk => hex _ _ (c9 hk), fun hk => ⟨hex _ _ (c10 hk).1, (c10 hk).2⟩, fun hk => ?_, fun hk => ?_, fun hk => ?_⟩
    · have hk' : qk Q r p = 6 := hk
      have := hop (by omega)
      show mi' (mr (43 + 9 * r) (hdp (stk (qk Q r) p))) 11 = zi p
      rw [this]; exact c11 hk
    · have hk' : qk Q r p = 7 := hk
      have := hop (by omega)
      show mi' (mr (43 + 9 * r) (hdp (stk (qk Q r) p))) 7 = zi p
      rw [this]; exact c12 hk
    · have hk' : qk Q r p = 8 := hk
      have := hop (by omega)
      show mi' (mr (43 + 9 * r) (hdp (stk (qk Q r) p))) 8 = zi p
      rw [this]; exact c13 hk
  · have hl := stk_lt (hW.2.2.2.1 r) _ hq
    have c1 := (a6 q hl).1
    rw [h _ (by omega)]
    exact a7 q hq
theorem fml_rt (Q : Pg) (c sd r : Nat) : fml (c, Q.2) sd r = fml Q sd r := by
  unfold fml
  have : ∀ m, fmn (c, Q.2) sd m = fmn Q sd m := fun m => by
    induction m with
    | zero => rfl
    | succ m ih =>
      funext b
      rw [fmn_S, fmn_S, ih]
      have e := rws_ag (Q := Q) (Q' := (c, Q.2)) (F := fmn Q sd m) (sd := sd) (m := m) rfl rfl rfl rfl
      rw [e]
  rw [this]
theorem MKn_MK {Q : Pg} {mi mi' : Nat → Nat → Int32} {ml : Nat → Nat → Int64} (h : MKn Q mi ml) (hk : MK mi mi') : MKn Q mi' ml := by
  obtain ⟨b, h1, h2⟩ := h
  exact ⟨b, (hk.2.2.2.2 60 (by decide)).trans h1, fun hb => KN_o (h2 hb) (hk.2.2.2.1 127 (by decide) (by decide)) (hk.2.2.2.1 128 (by decide) (by decide)) (hk.2.2.2.1 129 (by decide) (by decide)) rfl⟩
theorem CLw_CFr {Q : Pg} {x : Nat → Nat} {t : Tr} {z : Int32} {s : Nat → Nat × Nat} {n : Nat × Nat} {mi mi' : Nat → Nat → Int32} {ml : Nat → Nat → Int64} {mr : Nat → Nat → Nat} {ml' : Nat → Nat → Int64} (hW : WP Q) (h : CLw Q x t z (s, n, mi, ml, mr)) (hk : CK Q mi' ml') (hf : CFr mi mi' ml ml') : CLw Q x t z (s, n, mi', ml', mr) ∧ FCw (s, n, mi, ml, mr) (s, n, mi', ml', mr) := by
  obtain ⟨h1, h2, h3, h4, h5, h6, h7⟩ := h
  have g : ∀ a, a ≠ 10 → a < 42 ∨ 114 ≤ a → mi' a = mi a := fun a h1 h2 => hf.1 a h1 (fun k hk => by omega)
  refine ⟨⟨h1, CQ_CFr h2 hW hf, ?_, ?_, CTab_CFr h5 hf, hk, by show mi' 41 33 = z; rw [g 41 (by decide) (by decide)]; exact h7⟩, fun _ _ => rfl, g 1 (by decide) (by decide), fun a h1 h2 => ⟨g a (by omega) (by omega), hf.2 a (by omega) (fun k hk => by omega)⟩, fun _ => rfl, Nat.le_refl _, Nat.le_add_right _ _, Nat.le_add_right _ _⟩
  · show clX x mi'
    unfold clX
    rw [g 6 (by decide) (by decide), g 7 (by decide) (by decide)]; exact h3
  · show clT t mi'
    unfold clT
    rw [g 8 (by decide) (by decide), g 9 (by decide) (by decide)]; exact h4
theorem CLw_CRf {Q : Pg} {x : Nat → Nat} {t : Tr} {z : Int32} {s : Nat → Nat × Nat} {n : Nat × Nat} {mi mi' : Nat → Nat → Int32} {ml : Nat → Nat → Int64} {mr : Nat → Nat → Nat} {ml' : Nat → Nat → Int64} {mr' : Nat → Nat → Nat} {z' : Int32} (hW : WP Q) (h : CLw Q x t z (s, n, mi, ml, mr)) (hz : mi' 41 33 = z') (hf : CRf mi mi' ml ml' mr mr') : CLw Q x t z' (s, n, mi', ml', mr') ∧ FCw (s, n, mi, ml, mr) (s, n, mi', ml', mr') := by
  obtain ⟨h1, h2, h3, h4, h5, h6, h7⟩ := h
  have g : ∀ a, a < 41 ∨ (114 ≤ a ∧ a < 142) → mi' a = mi a := fun a h1 => hf.1 a (by omega) (by omega) (fun k hk => by omega)
  refine ⟨⟨CS_CR h1 hf, CQ_CR h2 hW hf, ?_, ?_, CTab_o h5 (fun a ha => g a (by omega)), CK_CR h6 hf, hz⟩, fun _ _ => rfl, g 1 (by decide), fun a h1 h2 => ⟨g a (by omega), hf.2.2.2.1 a (fun k hk => by omega)⟩, fun f => by show mr' 114 f = mr 114 f; rw [hf.2.2.2.2.1 114 (by decide) (fun r hr => by omega)], Nat.le_refl _, Nat.le_add_right _ _, Nat.le_add_right _ _⟩
  · show clX x mi'
    unfold clX
    rw [g 6 (by decide), g 7 (by decide)]; exact h3
  · show clT t mi'
    unfold clT
    rw [g 8 (by decide), g 9 (by decide)]; exact h4
theorem MDw_MC {Q : Pg} {x : Nat → Nat} {t : Tr} {z : Int32} {s : Nat → Nat × Nat} {n : Nat × Nat} {mi mi' : Nat → Nat → Int32} {ml : Nat → Nat → Int64} {mr : Nat → Nat → Nat} {Q' : Pg} (h : MDw Q x t z (s, n, mi, ml, mr)) (hq : mdQ Q' mi') (hc : MC mi mi') : MDw Q' x t z (s, n, mi', ml, mr) ∧ FMw (s, n, mi, ml, mr) (s, n, mi', ml, mr) := by
  obtain ⟨h1, h2, h3, h4, h5, h6, h7⟩ := h
  obtain ⟨c1, c2, c3, c4, c5, c6⟩ := hc
  refine ⟨⟨h1, hq, ?_, ?_, ?_, ⟨false, c6, fun h => absurd h (by decide)⟩, (c5 57 (by decide) (by decide) (by decide)).trans h7⟩, rfl, rfl, rfl, fun a ha => ?_, fun _ _ => rfl⟩
  · show MX x mi'
    unfold MX
    rw [c3 120 (by decide) (by decide)]; exact h3
  · show MT t.1 t.2 mi'
    unfold MT
    rw [c5 59 (by decide) (by decide) (by decide), c3 121 (by decide) (by decide)]; exact h4
  · show MTab mi'
    unfold MTab
    rw [c3 122 (by decide) (by decide), c3 123 (by decide) (by decide), c4 132 (by decide) (by decide)]; exact h5
  · rcases ha with ha | ha
    · exact c1 a ha
    · exact c2 a ha
theorem MDw_KF {Q : Pg} {x : Nat → Nat} {t : Tr} {z : Int32} {s : Nat → Nat × Nat} {n : Nat × Nat} {mi mi' : Nat → Nat → Int32} {ml : Nat → Nat → Int64} {mr : Nat → Nat → Nat} {ml' : Nat → Nat → Int64} (h : MDw Q x t z (s, n, mi, ml, mr)) (hk : MKn Q mi' ml') (hf : KF mi mi') (hl : LF ml ml') : MDw Q x t z (s, n, mi', ml', mr) ∧ FMw (s, n, mi, ml, mr) (s, n, mi', ml', mr) := by
  obtain ⟨h1, h2, h3, h4, h5, h6, h7⟩ := h
  obtain ⟨c1, c2, c3, c4, c5⟩ := hf
  refine ⟨⟨h1, mdQ_KF h2 ⟨c1, c2, c3, c4, c5⟩, ?_, ?_, MTab_KF h5 ⟨c1, c2, c3, c4, c5⟩, hk, (c5 57 (by decide) (by decide)).trans h7⟩, rfl, rfl, rfl, fun a ha => ?_, fun a ha => hl a (by omega) (by omega)⟩
  · show MX x mi'
    unfold MX
    rw [c3 120 (by decide) (by decide)]; exact h3
  · show MT t.1 t.2 mi'
    unfold MT
    rw [c5 59 (by decide) (by decide), c3 121 (by decide) (by decide)]; exact h4
  · rcases ha with ha | ha
    · exact c1 a ha
    · exact c2 a ha
theorem MDw_MK {Q : Pg} {x : Nat → Nat} {t : Tr} {z : Int32} {s : Nat → Nat × Nat} {n : Nat × Nat} {mi mi' : Nat → Nat → Int32} {ml : Nat → Nat → Int64} {mr : Nat → Nat → Nat} (h : MDw Q x t z (s, n, mi, ml, mr)) (hf : MK mi mi') : MDw Q x t z (s, n, mi', ml, mr) ∧ FMw (s, n, mi, ml, mr) (s, n, mi', ml, mr) := MDw_KF h (MKn_MK h.2.2.2.2.2.1 hf) (KF_MK hf) (LF_refl _)
theorem MDw_MA {Q : Pg} {x : Nat → Nat} {t : Tr} {z : Int32} {s : Nat → Nat × Nat} {n : Nat × Nat} {mi mi' : Nat → Nat → Int32} {ml : Nat → Nat → Int64} {mr : Nat → Nat → Nat} {t' : Tr} (h : MDw Q x t z (s, n, mi, ml, mr)) (ht : MTp t' mi') (hf : MA mi mi') : MDw Q x t' z (s, n, mi', ml, mr) ∧ FMw (s, n, mi, ml, mr) (s, n, mi', ml, mr) := by
  obtain ⟨h1, h2, h3, h4, h5, ⟨b, h6, h6'⟩, h7⟩ := h
  obtain ⟨c1, c2, c3, c4, c5⟩ := hf
  refine ⟨⟨h1, ?_, ?_, ht, ?_, ⟨b, (c5 60 (by decide) (by decide)).trans h6, fun hb => KN_o (h6' hb) (c4 127 (by decide) (by decide)) (c4 128 (by decide) (by decide)) (c4 129 (by decide) (by decide)) rfl⟩, (c5 57 (by decide) (by decide)).trans h7⟩, rfl, rfl, rfl, fun a ha => ?_, fun _ _ => rfl⟩
  · show mdQ Q mi'
    unfold mdQ
    rw [c5 50 (by decide) (by decide), c3 115 (by decide) (by decide) (by decide), c3 116 (by decide) (by decide) (by decide), c3 117 (by decide) (by decide) (by decide), c3 118 (by decide) (by decide) (by decide), c3 119 (by decide) (by decide) (by decide)]
    exact h2
  · show MX x mi'
    unfold MX
    rw [c3 120 (by decide) (by decide) (by decide)]; exact h3
  · show MTab mi'
    unfold MTab
    rw [c3 122 (by decide) (by decide) (by decide), c3 123 (by decide) (by decide) (by decide), c4 132 (by decide) (by decide)]; exact h5
  · rcases ha with ha | ha
    · exact c1 a ha
    · exact c2 a ha
theorem MDw_MR {Q : Pg} {x : Nat → Nat} {t : Tr} {z : Int32} {s : Nat → Nat × Nat} {n : Nat × Nat} {mi mi' : Nat → Nat → Int32} {ml : Nat → Nat → Int64} {mr : Nat → Nat → Nat} {ml' : Nat → Nat → Int64} {z' : Int32} (h : MDw Q x t z (s, n, mi, ml, mr)) (hz : mi' 114 57 = z') (hf : MRf mi mi' ml ml') : MDw Q x t z' (s, n, mi', ml', mr) ∧ FMw (s, n, mi, ml, mr) (s, n, mi', ml', mr) := by
  obtain ⟨h1, h2, h3, h4, h5, h6, h7⟩ := h
  refine ⟨⟨h1, mdQ_MR h2 hf, ?_, ?_, MTab_MR h5 hf, MKn_MR h6 hf, hz⟩, rfl, rfl, rfl, fun a ha => hf.1 a (by omega) (by omega), fun a ha => hf.2.2 a (by omega) (by omega) (by omega)⟩
  · show MX x mi'
    unfold MX
    rw [hf.1 120 (by decide) (by decide)]; exact h3
  · show MT t.1 t.2 mi'
    unfold MT
    rw [hf.2.1 59 (by decide) (by decide), hf.1 121 (by decide) (by decide)]; exact h4
theorem FCw_trans0 {H : Hp} {H1 H2 : Hp} (h : FCw H H1) (h' : FCw H1 H2) (e : H1.2.1 = H.2.1) : FCw H H2 := by
  obtain ⟨a1, a2, a3, a4, a5, a6, a7⟩ := h
  obtain ⟨b1, b2, b3, b4, b5, b6, b7⟩ := h'
  rw [e] at b5 b6 b7
  exact ⟨fun a ha => (b1 a ha).trans (a1 a ha), b2.trans a2, fun a h1 h2 => ⟨(b3 a h1 h2).1.trans (a3 a h1 h2).1, (b3 a h1 h2).2.trans (a3 a h1 h2).2⟩, fun f => (b4 f).trans (a4 f), b5, b6, b7⟩
theorem FMw_trans {H H1 H2 : Hp} (h : FMw H H1) (h' : FMw H1 H2) : FMw H H2 := ⟨h'.1.trans h.1, h'.2.1.trans h.2.1, h'.2.2.1.trans h.2.2.1, fun a ha => (h'.2.2.2.1 a ha).trans (h.2.2.2.1 a ha), fun a ha => (h'.2.2.2.2 a ha).trans (h.2.2.2.2 a ha)⟩
/-- both sides answer the same and hold the same again -/
def STP {α : Type} (f : α → AV) (H : Hp) (cl : RT) (md : Hp → RT) : Prop := ∃ (v : α) (H1 H2 : Hp) (Q' : Pg) (x' : Nat → Nat) (t' : Tr) (z' : Int32), cl = some (some (f v), H1) ∧ FCw H H1 ∧ md H1 = some (some (f v), H2) ∧ FMw H1 H2 ∧ WP Q' ∧ (∀ q, x' q ≤ 2) ∧ CLw Q' x' t' z' H2 ∧ MDw Q' x' t' z' H2
theorem STP_mk {α : Type} {f : α → AV} {H : Hp} {cl : RT} {md : Hp → RT} {Q Q' : Pg} {x x' : Nat → Nat} {t t' : Tr} {z z' : Int32} {v : α} (hM : MDw Q x t z H) (hc : ∃ H1, cl = some (some (f v), H1) ∧ CLw Q' x' t' z' H1 ∧ FCw H H1) (hm : ∀ s n mi ml mr, MDw Q x t z (s, n, mi, ml, mr) → ∃ H2, md (s, n, mi, ml, mr) = some (some (f v), H2) ∧ MDw Q' x' t' z' H2 ∧ FMw (s, n, mi, ml, mr) H2) (hW : WP Q') (hx : ∀ q, x' q ≤ 2) : STP f H cl md := by
  obtain ⟨H1, e1, c1, f1⟩ := hc
  obtain ⟨s, n, mi, ml, mr⟩ := H1
  obtain ⟨H2, e2, m2, f2⟩ := hm s n mi ml mr (MDw_FC hM f1)
  exact ⟨v, _, H2, Q', x', t', z', e1, f1, e2, f2, hW, hx, CLw_FM hW c1 f2, m2⟩
