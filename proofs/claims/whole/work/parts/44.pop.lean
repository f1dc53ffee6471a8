/-! StepsAhead: an op fewer -/
theorem WP_pop {Q : Pg} {r : Nat} (hW : WP Q) (h0 : 0 < qn Q r) : WP (pop Q r) := by
  obtain ⟨h1, h2, h3, h4, h5, h6, h7⟩ := hW
  have le : ∀ a, up1 (qn Q) r (qn Q r - 1) a ≤ qn Q a := by
    intro a
    by_cases e : a = r
    · rw [e, up1_s]; omega
    · rw [up1_n _ _ e]; exact Nat.le_refl _
  refine ⟨h1, fun a => Nat.le_trans (le a) (h2 a), fun a ha => ?_, fun a => WF_le (h4 a) (le a), fun a p hp hk => h5 a p (Nat.lt_of_lt_of_le hp (le a)) hk, fun a p hp hk => h6 a p (Nat.lt_of_lt_of_le hp (le a)) hk, h7⟩
  have h := h3 a ha
  have := le a
  show up1 (qn Q) r (qn Q r - 1) a = 0
  omega
theorem CQ_pop {Q : Pg} {N : Nat} {s : Nat → Nat × Nat} {mi mi' : Nat → Nat → Int32} {mr : Nat → Nat → Nat} {r m : Nat} (hQ : CQ Q N s mi mr) (hW : WP Q) (hr : r < 8) (hm : qn Q r = m + 1)
    (A1 : ∀ a, a < 142 → a ≠ 42 + 9 * r → a ≠ 44 + 9 * r → mi' a = mi a) (A2 : ∀ f, f ≠ 23 → f ≠ 25 → f ≠ 26 → mi' (42 + 9 * r) f = mi (42 + 9 * r) f) (A3 : mi' (42 + 9 * r) 23 = zi m) (A4 : mi' (42 + 9 * r) 26 = zi (cbs (qk Q r) (qd Q r) m))
    (A5 : mi' (42 + 9 * r) 25 = zi (stk (qk Q r) m).length) (A6 : OB (stk (qk Q r) m) (mi' (44 + 9 * r)))
    (A7 : ∀ a, 142 ≤ a → (6 ≤ qk Q r m → a ≠ mr (43 + 9 * r) (hdp (stk (qk Q r) m))) → mi' a = mi a) (A8 : 6 ≤ qk Q r m → (∀ f, f ≠ cfl (qk Q r m) → mi' (mr (43 + 9 * r) (hdp (stk (qk Q r) m))) f = mi (mr (43 + 9 * r) (hdp (stk (qk Q r) m))) f) ∧ mi' (mr (43 + 9 * r) (hdp (stk (qk Q r) m))) (cfl (qk Q r m)) = -1) :
    CQ (pop Q r) N s mi' (up2 mr (43 + 9 * r) m 0) := by
  obtain ⟨g1, g2, g3⟩ := hQ
  have hWr := hW.2.2.2.1 r
  rw [hm] at hWr
  have hWm := WF_le hWr (Nat.le_succ m)
  have hk := hWr m (Nat.lt_succ_self m)
  have nn : ∀ a, up1 (qn Q) r (qn Q r - 1) a = if a = r then m else qn Q a := by
    intro a
    by_cases e : a = r
    · rw [e, up1_s, if_pos rfl, hm]; rfl
    · rw [up1_n _ _ e, if_neg e]
  have hq : 6 ≤ qk Q r m → hdp (stk (qk Q r) m) < m := fun h6 => hdp_lt hWr (Nat.lt_succ_self m) h6
  have own : ∀ a, 142 ≤ a → ∀ f, f ≠ 7 → f ≠ 8 → f ≠ 11 → mi' a f = mi a f := by
    intro a ha f f7 f8 f11
    by_cases e : 6 ≤ qk Q r m ∧ a = mr (43 + 9 * r) (hdp (stk (qk Q r) m))
    · rw [e.2]; exact (A8 e.1).1 f (by unfold cfl; split <;> (try split) <;> omega)
    · rw [A7 a ha (fun h6 h => e ⟨h6, h⟩)]
  have exr : ∀ {e u}, EX s mi N e u → EX s mi' N e u := by
    intro e u h
    refine ⟨h.1, h.2.1, h.2.2.1, fun q hq' => ?_⟩
    rw [own e h.1 q (by omega) (by omega) (by omega)]; exact h.2.2.2 q hq'
  have oth : ∀ (a b f : Nat), a < 8 → b < qn Q a → (a = r → 6 ≤ qk Q r m → b = hdp (stk (qk Q r) m) → f ≠ cfl (qk Q r m)) → mi' (mr (43 + 9 * a) b) f = mi (mr (43 + 9 * a) b) f := by
    intro a b f ha hb hf
    by_cases e : 6 ≤ qk Q r m ∧ mr (43 + 9 * a) b = mr (43 + 9 * r) (hdp (stk (qk Q r) m))
    · obtain ⟨e1, e2⟩ := g3 a b r _ ha hr hb (by have := hq e.1; omega) e.2
      rw [e.2]; exact (A8 e.1).1 f (hf e1 e.1 e2)
    · rw [A7 _ ((g2 a ha).2.2.2.2.2.1 b hb).1 (fun h6 h => e ⟨h6, h⟩)]
  have mrn : ∀ a p, (a = r → p < m) → up2 mr (43 + 9 * r) m 0 (43 + 9 * a) p = mr (43 + 9 * a) p := by
    intro a p hp
    by_cases e : a = r
    · rw [e, up2_s, up1_n _ _ (by have := hp e; omega)]
    · rw [up2_n _ _ (by omega)]
  have mro : ∀ a, 142 ≤ a → up2 mr (43 + 9 * r) m 0 a = mr a := fun a ha => up2_n _ _ (by omega)
  have inv := stk_inv hWm
  refine ⟨?_, fun a ha => ?_, fun a p a' p' ha ha' hp hp' e => ?_⟩
  · rw [A1 4 (by decide) (by omega) (by omega)]; exact g1
  · obtain ⟨a1, a2, a3, a4, a5, a6, a7⟩ := g2 a ha
    unfold CR
    show mi' (42 + 9 * a) 21 = zi a ∧ mi' (42 + 9 * a) 23 = zi (up1 (qn Q) r (qn Q r - 1) a) ∧ mi' (42 + 9 * a) 25 = zi (stk (qk Q a) (up1 (qn Q) r (qn Q r - 1) a)).length ∧ OB (stk (qk Q a) (up1 (qn Q) r (qn Q r - 1) a)) (mi' (44 + 9 * a)) ∧ mi' (42 + 9 * a) 26 = zi (cbs (qk Q a) (qd Q a) (up1 (qn Q) r (qn Q r - 1) a)) ∧ (∀ p, p < up1 (qn Q) r (qn Q r - 1) a → CO Q N s mi' (up2 mr (43 + 9 * r) m 0) a p) ∧ ∀ q, (q, 1) ∈ stk (qk Q a) (up1 (qn Q) r (qn Q r - 1) a) → mi' (up2 mr (43 + 9 * r) m 0 (43 + 9 * a) q) 7 = -1
    -- an op that stays
    have co : ∀ p, p < qn Q a → (a = r → p < m) → CO Q N s mi' (up2 mr (43 + 9 * r) m 0) a p := by
      intro p hpn hpm
      obtain ⟨b1, b2, b3, b4, b5, b6, b7, b8, b9, b10, b11, b12, b13⟩ := a6 p hpn
      have hl : 6 ≤ qk Q a p → hdp (stk (qk Q a) p) < p := fun h6 => hdp_lt (hW.2.2.2.1 a) hpn h6
      have hmh : 6 ≤ qk Q a p → up2 mr (43 + 9 * r) m 0 (43 + 9 * a) (hdp (stk (qk Q a) p)) = mr (43 + 9 * a) (hdp (stk (qk Q a) p)) := fun h6 => mrn a _ (fun e => by have := hl h6; have := hpm e; omega)
      have dif : a = r → (qk Q a p = 6 ∨ qk Q a p = 8) → 6 ≤ qk Q r m → hdp (stk (qk Q a) p) ≠ hdp (stk (qk Q r) m) := by
        intro e h68 h6 heq
        subst e
        rcases hk with h | ⟨h, -⟩ | h | h | ⟨-, q, T, hS⟩ | ⟨-, q, T, hS⟩ | ⟨-, q, T, hS⟩
        · omega
        · omega
        · omega
        · omega
        all_goals
          rw [hS] at heq
          exact inv.2.2 p (hpm rfl) h68 _ (by rw [hS]; exact List.mem_cons_self ..) heq.symm
      have dif7 : a = r → qk Q a p = 7 → qk Q r m = 7 → hdp (stk (qk Q a) p) ≠ hdp (stk (qk Q r) m) := by
        intro e h7 hk7 heq
        subst e
        rcases hk with h | ⟨h, -⟩ | h | h | ⟨h, q, T, hS⟩ | ⟨-, q, T, hS⟩ | ⟨h, q, T, hS⟩
        · omega
        · omega
        · omega
        · omega
        · omega
        · have he := inv.2.1 (q, 1) (by rw [hS]; exact List.mem_cons_self ..)
          rw [hS] at heq
          rcases he.2 with h | ⟨-, -, h⟩ | ⟨h, -⟩
          · exact absurd h.1 (by show (1 : Nat) ≠ 0; decide)
          · exact h p (hpm rfl) h7 heq
          · exact absurd h (by show (1 : Nat) ≠ 2; decide)
        · omega
      unfold CO
      rw [mrn a p hpm, mro _ b1, own _ b1 1 (by decide) (by decide) (by decide), own _ b1 2 (by decide) (by decide) (by decide), own _ b1 3 (by decide) (by decide) (by decide), own _ b1 4 (by decide) (by decide) (by decide), own _ b1 42 (by decide) (by decide) (by decide)]
      refine ⟨b1, b2, b3, b4, b5, b6, b7, b8, fun h => exr (b9 h), fun h => ⟨exr (b10 h).1, (b10 h).2⟩, fun h => ?_, fun h => ?_, fun h => ?_⟩
      · have hl' := hl (by omega)
        rw [hmh (by omega), oth a _ 11 ha (by omega) (fun e h6 heq => absurd heq (dif e (Or.inl h) h6))]; exact b11 h
      · have hl' := hl (by omega)
        rw [hmh (by omega), oth a _ 7 ha (by omega) (fun e h6 heq => by
          by_cases h7 : qk Q r m = 7
          · exact absurd heq (dif7 e h h7)
          · unfold cfl; rw [if_neg h7]; split <;> decide)]; exact b12 h
      · have hl' := hl (by omega)
        rw [hmh (by omega), oth a _ 8 ha (by omega) (fun e h6 heq => absurd heq (dif e (Or.inr h) h6))]; exact b13 h
    by_cases e : a = r
    · subst e
      rw [nn a, if_pos rfl]
      refine ⟨by rw [A2 21 (by decide) (by decide) (by decide)]; exact a1, A3, A5, A6, A4, fun p hp => co p (by omega) (fun _ => hp), fun q hq1 => ?_⟩
      have hqm : q < m := stk_lt hWm _ hq1
      rw [mrn a q (fun _ => hqm)]
      have e0 : stk (qk Q a) (qn Q a) = stq (qk Q a m) m (stk (qk Q a) m) := by rw [hm]; rfl
      have old : (q, 1) ∈ stk (qk Q a) (qn Q a) → (6 ≤ qk Q a m → q = hdp (stk (qk Q a) m) → 7 ≠ cfl (qk Q a m)) → mi' (mr (43 + 9 * a) q) 7 = -1 := by
        intro h1 h2
        rw [oth a q 7 ha (by omega) (fun _ => h2)]; exact a7 q h1
      rcases stq_ok (p := m) hk with ⟨hk', e⟩ | ⟨hk', e⟩ | ⟨hk', e⟩ | ⟨q', T, hS, hk', e⟩ | ⟨q', T, hS, hk', e⟩ | ⟨q', T, hS, hk', e⟩
      · exact old (by rw [e0, e]; exact hq1) (fun h6 => by omega)
      · exact old (by rw [e0, e]; exact List.mem_cons_of_mem _ hq1) (fun h6 => by omega)
      · exact old (by rw [e0, e]; exact List.mem_cons_of_mem _ hq1) (fun h6 => by omega)
      · rw [hS] at hq1
        rcases List.mem_cons.mp hq1 with h | h
        · exact absurd (congrArg Prod.snd h) (by show (1 : Nat) ≠ 0; decide)
        · exact old (by rw [e0, e]; exact h) (fun _ _ => by rw [hk']; decide)
      · have hA8 := (A8 (by omega)).2
        rw [hk', hS] at hA8
        rw [hS] at hq1
        rcases List.mem_cons.mp hq1 with h | h
        · have hqe : q = q' := congrArg Prod.fst h
          rw [hqe]; exact hA8
        · have hs := inv.1
          rw [hS] at hs
          have hlt := hs.1 _ h
          exact old (by rw [e0, e]; exact List.mem_cons_of_mem _ h) (fun _ heq => by rw [hS] at heq; have heq' : q = q' := heq; simp only at hlt; omega)
      · rw [hS] at hq1
        rcases List.mem_cons.mp hq1 with h | h
        · exact absurd (congrArg Prod.snd h) (by show (1 : Nat) ≠ 2; decide)
        · exact old (by rw [e0, e]; exact h) (fun _ _ => by rw [hk']; decide)
    · rw [nn a, if_neg e, A1 (42 + 9 * a) (by omega) (by omega) (by omega), A1 (44 + 9 * a) (by omega) (by omega) (by omega)]
      refine ⟨a1, a2, a3, a4, a5, fun p hp => co p hp (fun h => absurd h e), fun q hq1 => ?_⟩
      rw [mrn a q (fun h => absurd h e), oth a q 7 ha (stk_lt (hW.2.2.2.1 a) _ hq1) (fun h _ _ => absurd h e)]; exact a7 q hq1
  · have hp2 : p < up1 (qn Q) r (qn Q r - 1) a := hp
    have hp2' : p' < up1 (qn Q) r (qn Q r - 1) a' := hp'
    have cs : ∀ b c, c < up1 (qn Q) r (qn Q r - 1) b → c < qn Q b ∧ (b = r → c < m) := by
      intro b c h
      rw [nn b] at h
      by_cases e2 : b = r
      · rw [if_pos e2] at h; exact ⟨by rw [e2, hm]; omega, fun _ => h⟩
      · rw [if_neg e2] at h; exact ⟨h, fun h => absurd h e2⟩
    rw [mrn a p (cs a p hp2).2, mrn a' p' (cs a' p' hp2').2] at e
    exact g3 a p a' p' ha ha' (cs a p hp2).1 (cs a' p' hp2').1 e
