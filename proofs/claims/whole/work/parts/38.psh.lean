/-! StepsAhead: an op more: what its objects hold then -/
def cfl (k : Nat) : Nat := if k = 6 then 11 else if k = 7 then 7 else 8
/-- a new op's object -/
def NO (Q : Pg) (N : Nat) (s : Nat → Nat × Nat) (mi : Nat → Nat → Int32) (mr : Nat → Nat → Nat) (r k w d : Nat) (t : Nat → Nat) (o : Nat) : Prop :=
  142 ≤ o ∧ o < N ∧ s o = osh k ∧ mi o 1 = zi k ∧ mi o 2 = zi (qn Q r) ∧ mi o 3 = zi (lps (stk (qk Q r) (qn Q r))) ∧ mi o 4 = (if 6 ≤ k then zi (hdp (stk (qk Q r) (qn Q r))) else -1) ∧ (k = 1 → mi o 42 = zi w) ∧
  (k = 3 ∨ k = 4 → EX s mi N (mr o 0) t) ∧ (k = 4 → EX s mi N (mr o 5) (fun q => t (6 + q)) ∧ mr o 6 = 42 + 9 * d) ∧ (k = 5 → mi o 7 = -1) ∧ (∀ r' p', r' < 8 → p' < qn Q r' → mr (43 + 9 * r') p' ≠ o)
theorem okc_k {k : Nat} {S : List (Nat × Nat)} (h : okc k S) : k = 1 ∨ k = 3 ∨ k = 4 ∨ k = 5 ∨ k = 6 ∨ k = 7 ∨ k = 8 := by
  rcases h with h | ⟨h, -⟩ | h | h | ⟨h, -⟩ | ⟨h, -⟩ | ⟨h, -⟩ <;> omega
theorem stk_psh {K : Nat → Nat} {m k p : Nat} (hp : p ≤ m) : stk (up1 K m k) p = stk K p := stk_congr fun q hq => up1_n _ _ (by omega)
theorem stk_psh' {K : Nat → Nat} {m k : Nat} : stk (up1 K m k) (m + 1) = stq k m (stk K m) := by
  show stq (up1 K m k m) m (stk (up1 K m k) m) = _
  rw [up1_s, stk_psh (Nat.le_refl m)]
theorem WF_psh {K : Nat → Nat} {m k : Nat} (h : WF K m) (hk : okc k (stk K m)) : WF (up1 K m k) (m + 1) := by
  intro p hp
  by_cases e : p = m
  · rw [e, up1_s, stk_psh (Nat.le_refl m)]; exact hk
  · rw [up1_n _ _ e, stk_psh (by omega)]; exact h p (by omega)
theorem WP_psh {Q : Pg} {r k w d : Nat} {t : Nat → Nat} (hW : WP Q) (hr : r < qc Q) (hm : qn Q r < 24) (hk : okc k (stk (qk Q r) (qn Q r))) (hw : k = 1 → 1 ≤ w ∧ w ≤ 99) (hd : k = 4 → d < r) (ht : ∀ q, t q ≤ 2) : WP (psh Q r k w d t) := by
  obtain ⟨h1, h2, h3, h4, h5, h6, h7⟩ := hW
  have en : ∀ {α : Type} (f : Nat → Nat → α) (v : α) (a p : Nat), a ≠ r → up2 f r (qn Q r) v a p = f a p := fun f v a p h => by rw [up2_n _ _ h]
  refine ⟨h1, fun a => ?_, fun a ha => ?_, fun a => ?_, fun a p hp hk1 => ?_, fun a p hp hk4 => ?_, fun a p q => ?_⟩
  · show up1 (qn Q) r (qn Q r + 1) a ≤ 24
    by_cases e : a = r
    · rw [e, up1_s]; omega
    · rw [up1_n _ _ e]; exact h2 a
  · show up1 (qn Q) r (qn Q r + 1) a = 0
    have ha' : qc Q ≤ a := ha
    rw [up1_n _ _ (by omega)]; exact h3 a ha'
  · show WF (up2 (qk Q) r (qn Q r) k a) (up1 (qn Q) r (qn Q r + 1) a)
    by_cases e : a = r
    · rw [e, up1_s, up2_s]; exact WF_psh (h4 r) hk
    · rw [up1_n _ _ e, up2_n _ _ e]; exact h4 a
  · have hp' : p < up1 (qn Q) r (qn Q r + 1) a := hp
    have hk' : up2 (qk Q) r (qn Q r) k a p = 1 := hk1
    show 1 ≤ up2 (qw Q) r (qn Q r) w a p ∧ up2 (qw Q) r (qn Q r) w a p ≤ 99
    by_cases e : a = r
    · subst e
      rw [up1_s] at hp'
      rw [up2_s] at hk' ⊢
      by_cases e2 : p = qn Q a
      · rw [e2, up1_s] at hk' ⊢; exact hw hk'
      · rw [up1_n _ _ e2] at hk' ⊢; exact h5 a p (by omega) hk'
    · rw [up1_n _ _ e] at hp'; rw [up2_n _ _ e] at hk' ⊢; exact h5 a p hp' hk'
  · have hp' : p < up1 (qn Q) r (qn Q r + 1) a := hp
    have hk' : up2 (qk Q) r (qn Q r) k a p = 4 := hk4
    show up2 (qd Q) r (qn Q r) d a p < a
    by_cases e : a = r
    · subst e
      rw [up1_s] at hp'
      rw [up2_s] at hk' ⊢
      by_cases e2 : p = qn Q a
      · rw [e2, up1_s] at hk' ⊢; exact hd hk'
      · rw [up1_n _ _ e2] at hk' ⊢; exact h6 a p (by omega) hk'
    · rw [up1_n _ _ e] at hp'; rw [up2_n _ _ e] at hk' ⊢; exact h6 a p hp' hk'
  · show up2 (qt Q) r (qn Q r) t a p q ≤ 2
    by_cases e : a = r
    · rw [e, up2_s]
      by_cases e2 : p = qn Q r
      · rw [e2, up1_s]; exact ht q
      · rw [up1_n _ _ e2]; exact h7 _ _ _
    · rw [up2_n _ _ e]; exact h7 _ _ _
theorem cbs_congr {K D K' D' : Nat → Nat} : ∀ {p : Nat}, (∀ q, q < p → K' q = K q ∧ D' q = D q) → cbs K' D' p = cbs K D p
  | 0, _ => rfl
  | p + 1, h => by
    unfold cbs
    rw [(h p (by omega)).1, (h p (by omega)).2, cbs_congr fun q hq => h q (by omega)]
theorem CQ_psh {Q : Pg} {N : Nat} {s : Nat → Nat × Nat} {mi mi' : Nat → Nat → Int32} {mr : Nat → Nat → Nat} {r k w d o : Nat} {t : Nat → Nat} (hQ : CQ Q N s mi mr) (hW : WP Q) (hr : r < 8) (hk : okc k (stk (qk Q r) (qn Q r))) (hN : NO Q N s mi mr r k w d t o)
    (A1 : ∀ a, a < 142 → a ≠ 42 + 9 * r → a ≠ 44 + 9 * r → mi' a = mi a) (A2 : ∀ f, f ≠ 23 → f ≠ 25 → f ≠ 26 → mi' (42 + 9 * r) f = mi (42 + 9 * r) f) (A3 : mi' (42 + 9 * r) 23 = zi (qn Q r + 1)) (A4 : mi' (42 + 9 * r) 26 = zi (cbs (up1 (qk Q r) (qn Q r) k) (up1 (qd Q r) (qn Q r) d) (qn Q r + 1)))
    (A5 : mi' (42 + 9 * r) 25 = zi (stq k (qn Q r) (stk (qk Q r) (qn Q r))).length) (A6 : OB (stq k (qn Q r) (stk (qk Q r) (qn Q r))) (mi' (44 + 9 * r)))
    (A7 : ∀ a, 142 ≤ a → (6 ≤ k → a ≠ mr (43 + 9 * r) (hdp (stk (qk Q r) (qn Q r)))) → mi' a = mi a) (A8 : 6 ≤ k → (∀ f, f ≠ cfl k → mi' (mr (43 + 9 * r) (hdp (stk (qk Q r) (qn Q r)))) f = mi (mr (43 + 9 * r) (hdp (stk (qk Q r) (qn Q r)))) f) ∧ mi' (mr (43 + 9 * r) (hdp (stk (qk Q r) (qn Q r)))) (cfl k) = zi (qn Q r)) :
    CQ (psh Q r k w d t) N s mi' (up2 mr (43 + 9 * r) (qn Q r) o) := by
  have hQ0 := hQ
  obtain ⟨g1, g2, g3⟩ := hQ
  obtain ⟨o1, o2, o3, o4, o5, o6, o7, o8, o9, o10, o11, o12⟩ := hN
  have hWr := hW.2.2.2.1 r
  -- the opener's place and object
  have hq : 6 ≤ k → hdp (stk (qk Q r) (qn Q r)) < qn Q r := by
    intro h6
    have h := hdp_lt (WF_psh hWr hk) (Nat.lt_succ_self _) (by rw [up1_s]; exact h6)
    rw [stk_psh (Nat.le_refl _)] at h; exact h
  -- numbers of objects that an op's own fields are read from
  have own : ∀ a, 142 ≤ a → ∀ f, f ≠ 7 → f ≠ 8 → f ≠ 11 → mi' a f = mi a f := by
    intro a ha f f7 f8 f11
    by_cases e : 6 ≤ k ∧ a = mr (43 + 9 * r) (hdp (stk (qk Q r) (qn Q r)))
    · rw [e.2]; exact (A8 e.1).1 f (by unfold cfl; split <;> (try split) <;> omega)
    · rw [A7 a ha (fun h6 h => e ⟨h6, h⟩)]
  have exr : ∀ {e u}, EX s mi N e u → EX s mi' N e u := by
    intro e u h
    refine ⟨h.1, h.2.1, h.2.2.1, fun q hq' => ?_⟩
    rw [own e h.1 q (by omega) (by omega) (by omega)]; exact h.2.2.2 q hq'
  -- the field by which another op is closed
  have oth : ∀ (a b f : Nat), a < 8 → b < qn Q a → (a = r → 6 ≤ k → b = hdp (stk (qk Q r) (qn Q r)) → f ≠ cfl k) → mi' (mr (43 + 9 * a) b) f = mi (mr (43 + 9 * a) b) f := by
    intro a b f ha hb hf
    by_cases e : 6 ≤ k ∧ mr (43 + 9 * a) b = mr (43 + 9 * r) (hdp (stk (qk Q r) (qn Q r)))
    · obtain ⟨e1, e2⟩ := g3 a b r _ ha hr hb (hq e.1) e.2
      rw [e.2]; exact (A8 e.1).1 f (hf e1 e.1 e2)
    · rw [A7 _ ((g2 a ha).2.2.2.2.2.1 b hb).1 (fun h6 h => e ⟨h6, h⟩)]
  have mrn : ∀ a p, a < 8 → p < qn Q a → up2 mr (43 + 9 * r) (qn Q r) o (43 + 9 * a) p = mr (43 + 9 * a) p := by
    intro a p ha hp
    by_cases e : a = r
    · rw [e, up2_s, up1_n _ _ (by rw [e] at hp; omega)]
    · rw [up2_n _ _ (by omega)]
  have mro : ∀ a, 142 ≤ a → up2 mr (43 + 9 * r) (qn Q r) o a = mr a := fun a ha => up2_n _ _ (by omega)
  refine ⟨?_, fun a ha => ?_, fun a p a' p' ha ha' hp hp' e => ?_⟩
  · rw [A1 4 (by decide) (by omega) (by omega)]; exact g1
  · obtain ⟨a1, a2, a3, a4, a5, a6, a7⟩ := g2 a ha
    by_cases e : a = r
    · subst e
      unfold CR
      show mi' (42 + 9 * a) 21 = zi a ∧ mi' (42 + 9 * a) 23 = zi (up1 (qn Q) a (qn Q a + 1) a) ∧ mi' (42 + 9 * a) 25 = zi (stk (up2 (qk Q) a (qn Q a) k a) (up1 (qn Q) a (qn Q a + 1) a)).length ∧ OB (stk (up2 (qk Q) a (qn Q a) k a) (up1 (qn Q) a (qn Q a + 1) a)) (mi' (44 + 9 * a)) ∧ mi' (42 + 9 * a) 26 = zi (cbs (up2 (qk Q) a (qn Q a) k a) (up2 (qd Q) a (qn Q a) d a) (up1 (qn Q) a (qn Q a + 1) a)) ∧ (∀ p, p < up1 (qn Q) a (qn Q a + 1) a → CO (psh Q a k w d t) N s mi' (up2 mr (43 + 9 * a) (qn Q a) o) a p) ∧ ∀ q, (q, 1) ∈ stk (up2 (qk Q) a (qn Q a) k a) (up1 (qn Q) a (qn Q a + 1) a) → mi' (up2 mr (43 + 9 * a) (qn Q a) o (43 + 9 * a) q) 7 = -1
      rw [up1_s, up2_s, up2_s, stk_psh']
      refine ⟨by rw [A2 21 (by decide) (by decide) (by decide)]; exact a1, A3, A5, A6, A4, fun p hp => ?_, fun q hq1 => ?_⟩
      · unfold CO
        show 142 ≤ up2 mr (43 + 9 * a) (qn Q a) o (43 + 9 * a) p ∧ up2 mr (43 + 9 * a) (qn Q a) o (43 + 9 * a) p < N ∧ s (up2 mr (43 + 9 * a) (qn Q a) o (43 + 9 * a) p) = osh (up2 (qk Q) a (qn Q a) k a p) ∧ mi' (up2 mr (43 + 9 * a) (qn Q a) o (43 + 9 * a) p) 1 = zi (up2 (qk Q) a (qn Q a) k a p) ∧ mi' (up2 mr (43 + 9 * a) (qn Q a) o (43 + 9 * a) p) 2 = zi p ∧ mi' (up2 mr (43 + 9 * a) (qn Q a) o (43 + 9 * a) p) 3 = zi (lps (stk (up2 (qk Q) a (qn Q a) k a) p)) ∧
          mi' (up2 mr (43 + 9 * a) (qn Q a) o (43 + 9 * a) p) 4 = (if 6 ≤ up2 (qk Q) a (qn Q a) k a p then zi (hdp (stk (up2 (qk Q) a (qn Q a) k a) p)) else -1) ∧ (up2 (qk Q) a (qn Q a) k a p = 1 → mi' (up2 mr (43 + 9 * a) (qn Q a) o (43 + 9 * a) p) 42 = zi (up2 (qw Q) a (qn Q a) w a p)) ∧
          (up2 (qk Q) a (qn Q a) k a p = 3 ∨ up2 (qk Q) a (qn Q a) k a p = 4 → EX s mi' N (up2 mr (43 + 9 * a) (qn Q a) o (up2 mr (43 + 9 * a) (qn Q a) o (43 + 9 * a) p) 0) (up2 (qt Q) a (qn Q a) t a p)) ∧ (up2 (qk Q) a (qn Q a) k a p = 4 → EX s mi' N (up2 mr (43 + 9 * a) (qn Q a) o (up2 mr (43 + 9 * a) (qn Q a) o (43 + 9 * a) p) 5) (fun q => up2 (qt Q) a (qn Q a) t a p (6 + q)) ∧ up2 mr (43 + 9 * a) (qn Q a) o (up2 mr (43 + 9 * a) (qn Q a) o (43 + 9 * a) p) 6 = 42 + 9 * up2 (qd Q) a (qn Q a) d a p) ∧
          (up2 (qk Q) a (qn Q a) k a p = 6 → mi' (up2 mr (43 + 9 * a) (qn Q a) o (43 + 9 * a) (hdp (stk (up2 (qk Q) a (qn Q a) k a) p))) 11 = zi p) ∧ (up2 (qk Q) a (qn Q a) k a p = 7 → mi' (up2 mr (43 + 9 * a) (qn Q a) o (43 + 9 * a) (hdp (stk (up2 (qk Q) a (qn Q a) k a) p))) 7 = zi p) ∧ (up2 (qk Q) a (qn Q a) k a p = 8 → mi' (up2 mr (43 + 9 * a) (qn Q a) o (43 + 9 * a) (hdp (stk (up2 (qk Q) a (qn Q a) k a) p))) 8 = zi p)
        simp only [up2_s]
        rw [stk_psh (by omega)]
        by_cases e2 : p = qn Q a
        · subst e2
          simp only [up1_s]
          rw [mro o o1, own o o1 1 (by decide) (by decide) (by decide), own o o1 2 (by decide) (by decide) (by decide), own o o1 3 (by decide) (by decide) (by decide), own o o1 4 (by decide) (by decide) (by decide), own o o1 42 (by decide) (by decide) (by decide)]
          refine ⟨o1, o2, o3, o4, o5, o6, o7, o8, fun h => exr (o9 h), fun h => ⟨exr (o10 h).1, (o10 h).2⟩, fun h => ?_, fun h => ?_, fun h => ?_⟩
          · subst h; rw [up1_n _ _ (by have := hq (by decide); omega)]; exact (A8 (by decide)).2
          · subst h; rw [up1_n _ _ (by have := hq (by decide); omega)]; exact (A8 (by decide)).2
          · subst h; rw [up1_n _ _ (by have := hq (by decide); omega)]; exact (A8 (by decide)).2
        · have hp' : p < qn Q a := by omega
          obtain ⟨b1, b2, b3, b4, b5, b6, b7, b8, b9, b10, b11, b12, b13⟩ := a6 p hp'
          simp only [up1_n _ _ e2]
          rw [mro _ b1, own _ b1 1 (by decide) (by decide) (by decide), own _ b1 2 (by decide) (by decide) (by decide), own _ b1 3 (by decide) (by decide) (by decide), own _ b1 4 (by decide) (by decide) (by decide), own _ b1 42 (by decide) (by decide) (by decide)]
          have hl : 6 ≤ qk Q a p → hdp (stk (qk Q a) p) < p := fun h6 => hdp_lt hWr hp' h6
          have inv := stk_inv hWr
          -- what another closing op closed is not what the new one closes
          have dif : (qk Q a p = 6 ∨ qk Q a p = 8) → 6 ≤ k → hdp (stk (qk Q a) p) ≠ hdp (stk (qk Q a) (qn Q a)) := by
            intro h68 h6 heq
            rcases hk with h | ⟨h, -⟩ | h | h | ⟨-, q, T, hS⟩ | ⟨-, q, T, hS⟩ | ⟨-, q, T, hS⟩
            · omega
            · omega
            · omega
            · omega
            all_goals
              rw [hS] at heq
              exact inv.2.2 p hp' h68 _ (by rw [hS]; exact List.mem_cons_self ..) heq.symm
          have dif7 : qk Q a p = 7 → k = 7 → hdp (stk (qk Q a) p) ≠ hdp (stk (qk Q a) (qn Q a)) := by
            intro h7 hk7 heq
            rcases hk with h | ⟨h, -⟩ | h | h | ⟨h, q, T, hS⟩ | ⟨-, q, T, hS⟩ | ⟨h, q, T, hS⟩
            · omega
            · omega
            · omega
            · omega
            · omega
            · have he := inv.2.1 (q, 1) (by rw [hS]; exact List.mem_cons_self ..)
              rw [hS] at heq
              rcases he.2 with h | ⟨-, -, h⟩ | ⟨h, -⟩
              · exact absurd h.1 (by show (1 : Nat) ≠ 0; decide)
              · exact h p hp' h7 heq
              · exact absurd h (by show (1 : Nat) ≠ 2; decide)
            · omega
          refine ⟨b1, b2, b3, b4, b5, b6, b7, b8, fun h => exr (b9 h), fun h => ⟨exr (b10 h).1, (b10 h).2⟩, fun h => ?_, fun h => ?_, fun h => ?_⟩
          · have hl' := hl (by omega)
            rw [up1_n _ _ (by omega), oth a _ 11 ha (by omega) (fun _ h6 heq => absurd heq (dif (Or.inl h) h6))]; exact b11 h
          · have hl' := hl (by omega)
            rw [up1_n _ _ (by omega), oth a _ 7 ha (by omega) (fun _ h6 heq => by
              by_cases h7 : k = 7
              · exact absurd heq (dif7 h h7)
              · unfold cfl; rw [if_neg h7]; split <;> decide)]; exact b12 h
          · have hl' := hl (by omega)
            rw [up1_n _ _ (by omega), oth a _ 8 ha (by omega) (fun _ h6 heq => absurd heq (dif (Or.inr h) h6))]; exact b13 h
      · rw [up2_s]
        rcases stq_ok (p := qn Q a) hk with ⟨hk', e⟩ | ⟨hk', e⟩ | ⟨hk', e⟩ | ⟨q', T, hS, hk', e⟩ | ⟨q', T, hS, hk', e⟩ | ⟨q', T, hS, hk', e⟩ <;> rw [e] at hq1
        · have := stk_lt hWr _ hq1
          rw [up1_n _ _ (by simp only at this; omega), oth a q 7 ha this (fun _ h6 => by omega)]; exact a7 q hq1
        · rcases List.mem_cons.mp hq1 with h | h
          · exact absurd (congrArg Prod.snd h) (by show (1 : Nat) ≠ 0; decide)
          · have := stk_lt hWr _ h
            rw [up1_n _ _ (by simp only at this; omega), oth a q 7 ha this (fun _ h6 => by omega)]; exact a7 q h
        · rcases List.mem_cons.mp hq1 with h | h
          · have hqe : q = qn Q a := congrArg Prod.fst h
            rw [hqe, up1_s, A7 o o1 (fun h6 => by omega)]; exact o11 hk'
          · have := stk_lt hWr _ h
            rw [up1_n _ _ (by simp only at this; omega), oth a q 7 ha this (fun _ h6 => by omega)]; exact a7 q h
        · have hm : (q, 1) ∈ stk (qk Q a) (qn Q a) := by rw [hS]; exact List.mem_cons_of_mem _ hq1
          have := stk_lt hWr _ hm
          rw [up1_n _ _ (by simp only at this; omega), oth a q 7 ha this (fun _ h6 _ => by rw [hk']; decide)]; exact a7 q hm
        · rcases List.mem_cons.mp hq1 with h | h
          · exact absurd (congrArg Prod.snd h) (by show (1 : Nat) ≠ 2; decide)
          · have hm : (q, 1) ∈ stk (qk Q a) (qn Q a) := by rw [hS]; exact List.mem_cons_of_mem _ h
            have := stk_lt hWr _ hm
            have hs := (stk_inv hWr).1
            rw [hS] at hs
            have hlt := hs.1 _ h
            rw [up1_n _ _ (by simp only at this; omega), oth a q 7 ha this (fun _ h6 heq => by rw [hS] at heq; have heq' : q = q' := heq; simp only at hlt; omega)]; exact a7 q hm
        · have hm : (q, 1) ∈ stk (qk Q a) (qn Q a) := by rw [hS]; exact List.mem_cons_of_mem _ hq1
          have := stk_lt hWr _ hm
          rw [up1_n _ _ (by simp only at this; omega), oth a q 7 ha this (fun _ h6 _ => by rw [hk']; decide)]; exact a7 q hm
    · unfold CR
      show mi' (42 + 9 * a) 21 = zi a ∧ mi' (42 + 9 * a) 23 = zi (up1 (qn Q) r (qn Q r + 1) a) ∧ mi' (42 + 9 * a) 25 = zi (stk (up2 (qk Q) r (qn Q r) k a) (up1 (qn Q) r (qn Q r + 1) a)).length ∧ OB (stk (up2 (qk Q) r (qn Q r) k a) (up1 (qn Q) r (qn Q r + 1) a)) (mi' (44 + 9 * a)) ∧ mi' (42 + 9 * a) 26 = zi (cbs (up2 (qk Q) r (qn Q r) k a) (up2 (qd Q) r (qn Q r) d a) (up1 (qn Q) r (qn Q r + 1) a)) ∧ (∀ p, p < up1 (qn Q) r (qn Q r + 1) a → CO (psh Q r k w d t) N s mi' (up2 mr (43 + 9 * r) (qn Q r) o) a p) ∧ ∀ q, (q, 1) ∈ stk (up2 (qk Q) r (qn Q r) k a) (up1 (qn Q) r (qn Q r + 1) a) → mi' (up2 mr (43 + 9 * r) (qn Q r) o (43 + 9 * a) q) 7 = -1
      rw [up1_n _ _ e, up2_n _ _ e, up2_n _ _ e, A1 (42 + 9 * a) (by omega) (by omega) (by omega), A1 (44 + 9 * a) (by omega) (by omega) (by omega)]
      refine ⟨a1, a2, a3, a4, a5, fun p hp => ?_, fun q hq1 => ?_⟩
      · obtain ⟨b1, b2, b3, b4, b5, b6, b7, b8, b9, b10, b11, b12, b13⟩ := a6 p hp
        have hl : 6 ≤ qk Q a p → hdp (stk (qk Q a) p) < p := fun h6 => hdp_lt (hW.2.2.2.1 a) hp h6
        unfold CO
        show 142 ≤ up2 mr (43 + 9 * r) (qn Q r) o (43 + 9 * a) p ∧ up2 mr (43 + 9 * r) (qn Q r) o (43 + 9 * a) p < N ∧ s (up2 mr (43 + 9 * r) (qn Q r) o (43 + 9 * a) p) = osh (up2 (qk Q) r (qn Q r) k a p) ∧ mi' (up2 mr (43 + 9 * r) (qn Q r) o (43 + 9 * a) p) 1 = zi (up2 (qk Q) r (qn Q r) k a p) ∧ mi' (up2 mr (43 + 9 * r) (qn Q r) o (43 + 9 * a) p) 2 = zi p ∧ mi' (up2 mr (43 + 9 * r) (qn Q r) o (43 + 9 * a) p) 3 = zi (lps (stk (up2 (qk Q) r (qn Q r) k a) p)) ∧
          mi' (up2 mr (43 + 9 * r) (qn Q r) o (43 + 9 * a) p) 4 = (if 6 ≤ up2 (qk Q) r (qn Q r) k a p then zi (hdp (stk (up2 (qk Q) r (qn Q r) k a) p)) else -1) ∧ (up2 (qk Q) r (qn Q r) k a p = 1 → mi' (up2 mr (43 + 9 * r) (qn Q r) o (43 + 9 * a) p) 42 = zi (up2 (qw Q) r (qn Q r) w a p)) ∧
          (up2 (qk Q) r (qn Q r) k a p = 3 ∨ up2 (qk Q) r (qn Q r) k a p = 4 → EX s mi' N (up2 mr (43 + 9 * r) (qn Q r) o (up2 mr (43 + 9 * r) (qn Q r) o (43 + 9 * a) p) 0) (up2 (qt Q) r (qn Q r) t a p)) ∧ (up2 (qk Q) r (qn Q r) k a p = 4 → EX s mi' N (up2 mr (43 + 9 * r) (qn Q r) o (up2 mr (43 + 9 * r) (qn Q r) o (43 + 9 * a) p) 5) (fun q => up2 (qt Q) r (qn Q r) t a p (6 + q)) ∧ up2 mr (43 + 9 * r) (qn Q r) o (up2 mr (43 + 9 * r) (qn Q r) o (43 + 9 * a) p) 6 = 42 + 9 * up2 (qd Q) r (qn Q r) d a p) ∧
          (up2 (qk Q) r (qn Q r) k a p = 6 → mi' (up2 mr (43 + 9 * r) (qn Q r) o (43 + 9 * a) (hdp (stk (up2 (qk Q) r (qn Q r) k a) p))) 11 = zi p) ∧ (up2 (qk Q) r (qn Q r) k a p = 7 → mi' (up2 mr (43 + 9 * r) (qn Q r) o (43 + 9 * a) (hdp (stk (up2 (qk Q) r (qn Q r) k a) p))) 7 = zi p) ∧ (up2 (qk Q) r (qn Q r) k a p = 8 → mi' (up2 mr (43 + 9 * r) (qn Q r) o (43 + 9 * a) (hdp (stk (up2 (qk Q) r (qn Q r) k a) p))) 8 = zi p)
        simp only [up2_n _ _ e, up2_n _ _ (by omega : 43 + 9 * a ≠ 43 + 9 * r)]
        rw [mro _ b1, own _ b1 1 (by decide) (by decide) (by decide), own _ b1 2 (by decide) (by decide) (by decide), own _ b1 3 (by decide) (by decide) (by decide), own _ b1 4 (by decide) (by decide) (by decide), own _ b1 42 (by decide) (by decide) (by decide)]
        refine ⟨b1, b2, b3, b4, b5, b6, b7, b8, fun h => exr (b9 h), fun h => ⟨exr (b10 h).1, (b10 h).2⟩, fun h => ?_, fun h => ?_, fun h => ?_⟩
        · rw [oth a _ 11 ha (by have := hl (by omega); omega) (fun h _ _ => absurd h e)]; exact b11 h
        · rw [oth a _ 7 ha (by have := hl (by omega); omega) (fun h _ _ => absurd h e)]; exact b12 h
        · rw [oth a _ 8 ha (by have := hl (by omega); omega) (fun h _ _ => absurd h e)]; exact b13 h
      · rw [up2_n _ _ (by omega), oth a q 7 ha (stk_lt (hW.2.2.2.1 a) _ hq1) (fun h _ _ => absurd h e)]; exact a7 q hq1
  · have hp2 : p < up1 (qn Q) r (qn Q r + 1) a := hp
    have hp2' : p' < up1 (qn Q) r (qn Q r + 1) a' := hp'
    have cs : ∀ b c, c < up1 (qn Q) r (qn Q r + 1) b → (b = r ∧ c = qn Q r) ∨ c < qn Q b := by
      intro b c h
      by_cases e2 : b = r
      · rw [e2, up1_s] at h; rw [e2]; omega
      · rw [up1_n _ _ e2] at h; exact Or.inr h
    rcases cs a p hp2 with ⟨rfl, rfl⟩ | h1
    · rcases cs a' p' hp2' with ⟨rfl, rfl⟩ | h2
      · exact ⟨rfl, rfl⟩
      · rw [mrn a' p' ha' h2, up2_s, up1_s] at e
        exact absurd e.symm (o12 a' p' ha' h2)
    · rcases cs a' p' hp2' with ⟨rfl, rfl⟩ | h2
      · rw [mrn a p ha h1, up2_s, up1_s] at e
        exact absurd e (o12 a p ha h1)
      · rw [mrn a p ha h1, mrn a' p' ha' h2] at e
        exact g3 a p a' p' ha ha' h1 h2 e
