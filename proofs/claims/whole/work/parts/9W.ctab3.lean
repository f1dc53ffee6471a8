/-! the class's tables: the other loops -/
def D7 (d p v : Nat) : Nat → Nat → Prop := fun w q => q < lo d ∨ (lo d ≤ q ∧ q < upn d ∧ lv q ≤ w) ∨ (lo d ≤ q ∧ q < p ∧ w < lv q) ∨ (q = p ∧ w < v)
theorem t7i {G : AG} (hG : FIX G) {s : Nat → Nat × Nat} {mr : Nat → Nat → Nat} (hP : PSh s mr) {n : Nat × Nat} {ml : Nat → Nat → Int64} {d p : Nat} (hd : d < 5) (hp1 : lo d ≤ p) (hp2 : p < upn d) : ∀ (f v : Nat) (mi : Nat → Nat → Int32), v + f = lv p → TB (D7 d p v) mi → LPr (upn (d + 1)) mi → ∃ mi', G 7 21 [some (.inr (.inr 11)), some (.inr (.inr 19)), some (.inl (zi (lo d))), some (.inl (zi (upn d))), some (.inl (zi p)), some (.inl (zi (lv p))), some (.inl (zi v))] [] (s, n, mi, ml, mr) = G 7 3 [some (.inr (.inr 11)), some (.inr (.inr 19)), some (.inl (zi (lo d))), some (.inl (zi (upn d))), some (.inl (zi (p + 1))), some (.inl (zi (lv p))), some (.inl (zi (lv p)))] [] (s, n, mi', ml, mr) ∧ TB (D7 d (p + 1) 0) mi' ∧ LPr (upn (d + 1)) mi' ∧ T1f mi mi' := by
  have hu := f4 d hd
  have h126 : p < 126 := by omega
  obtain ⟨k1, k2, k3⟩ := f3 h126
  have hun : upn d ≤ upn (d + 1) := by
    have : ∀ d, d < 5 → upn d ≤ upn (d + 1) := by decide
    exact this d hd
  intro f
  induction f with
  | zero =>
    intro v mi hf hT hL
    have e : v = lv p := by omega
    subst e
    refine ⟨mi, ?_, TB_congr hT (fun w q hw hq => ?_), hL, fun _ _ => rfl⟩
    · refine (b7_21 hG ..).trans ?_
      rw [decide_eq_true (by rw [zi_le (by omega) (by omega)]; omega : zi (lv p) ≤ zi (lv p)), cnd_t, show zi p + 1 = zi (p + 1) from zi_add p 1]
    · unfold D7
      constructor
      · rintro (h | h | ⟨h1, h2, h3⟩ | ⟨h1, h2⟩)
        · exact Or.inl h
        · exact Or.inr (Or.inl h)
        · exact Or.inr (Or.inr (Or.inl ⟨h1, by omega, h3⟩))
        · exact Or.inr (Or.inr (Or.inl ⟨by omega, by omega, by rw [h1]; exact h2⟩))
      · rintro (h | h | ⟨h1, h2, h3⟩ | ⟨h1, h2⟩)
        · exact Or.inl h
        · exact Or.inr (Or.inl h)
        · by_cases e : q = p
          · exact Or.inr (Or.inr (Or.inr ⟨e, by rw [← e]; exact h3⟩))
          · exact Or.inr (Or.inr (Or.inl ⟨h1, by omega, h3⟩))
        · omega
  | succ f ih =>
    intro v mi hf hT hL
    have hv : v < lv p := by omega
    have hv5 : v < 5 := by omega
    obtain ⟨g1, g2, g3, g4, g5⟩ := f2 hd hp1 hp2 h126 hv hv5
    have hp0 : 1 ≤ p := by omega
    have hpr : pr p < 126 := by omega
    have n1 := (nx_eq hv5 hpr).1
    have n2 := (nx_eq k2 (by omega : nxl v (pr p) < 126)).1
    have n3 := (nx_eq hv5 h126).1
    have r19 : mi 19 p = zi (pr p) := hL.2 p hp0 (by omega)
    have rA : mi (13 + v) (pr p) = zi (nxl v (pr p)) := by
      rw [← n1]
      exact (hT v (pr p) hv5 (by omega)).1 (Or.inl g1)
    have rB : mi (13 + lv p) (nxl v (pr p)) = zi (nx v p) := by
      rw [n3, ← g5, ← n2]
      exact (hT (lv p) (nxl v (pr p)) k2 (by omega)).1 (Or.inr (Or.inl ⟨g2, g3, g4⟩))
    have hT' : TB (D7 d p (v + 1)) (up2 mi (13 + v) p (zi (nx v p))) := by
      refine TB_congr (TB_up (v := v) (p := p) hT) (fun w q hw hq => ?_)
      unfold D7
      constructor
      · rintro ((h | h | h | ⟨h1, h2⟩) | ⟨h1, h2⟩)
        · exact Or.inl h
        · exact Or.inr (Or.inl h)
        · exact Or.inr (Or.inr (Or.inl h))
        · exact Or.inr (Or.inr (Or.inr ⟨h1, by omega⟩))
        · exact Or.inr (Or.inr (Or.inr ⟨h2, by omega⟩))
      · rintro (h | h | h | ⟨h1, h2⟩)
        · exact Or.inl (Or.inl h)
        · exact Or.inl (Or.inr (Or.inl h))
        · exact Or.inl (Or.inr (Or.inr (Or.inl h)))
        · by_cases e : w = v
          · exact Or.inr ⟨e, h1⟩
          · exact Or.inl (Or.inr (Or.inr (Or.inr ⟨h1, by omega⟩)))
    have hL' : LPr (upn (d + 1)) (up2 mi (13 + v) p (zi (nx v p))) := ⟨fun q hq => by rw [up2_n _ _ (by omega)]; exact hL.1 q hq, fun q h1 hq => by rw [up2_n _ _ (by omega)]; exact hL.2 q h1 hq⟩
    obtain ⟨m', e, h1, h2, h3⟩ := ih (v + 1) _ (by omega) hT' hL'
    refine ⟨m', ?_, h1, h2, T1f_trans (fun a ha => up2_n _ _ (by omega)) h3⟩
    have hb5 : Nat.beq (s 11).1 5 = true := by rw [hP.1.2.1]; rfl
    refine (b7_21 hG ..).trans ?_
    rw [decide_eq_false (by rw [zi_le (by omega) (by omega)]; omega : ¬ zi (lv p) ≤ zi v), cnd_f, rgR hP.1.2.1 rfl, bind_s, hP.1.2.2.2.2.2.1, raR hP.1.2.2.1 rfl hv5 (by decide), bind_s, hP.2.2 v hv5, raI hP.1.2.2.2.2.1 (by omega) (by decide), bind_s, r19, hb5, cnd_t, t8 hG hP (by omega) hv5, bind_s, as_I, bind_s, rA, hb5, cnd_t, t8 hG hP (by omega) k2, bind_s, as_I, bind_s, rB, rsI (hP.2.1 v hv5) (by omega) (by decide) (by omega), bind_s, show zi v + 1 = zi (v + 1) from zi_add v 1]
    exact e
theorem t7 {G : AG} (hG : FIX G) {s : Nat → Nat × Nat} {mr : Nat → Nat → Nat} (hP : PSh s mr) {n : Nat × Nat} {ml : Nat → Nat → Int64} {d : Nat} (hd : d < 5) : ∀ (f p : Nat) (o5 o6 : Option AV) (mi : Nat → Nat → Int32), p + f = upn d → lo d ≤ p → TB (D7 d p 0) mi → LPr (upn (d + 1)) mi → ∃ mi', G 7 3 [some (.inr (.inr 11)), some (.inr (.inr 19)), some (.inl (zi (lo d))), some (.inl (zi (upn d))), some (.inl (zi p)), o5, o6] [] (s, n, mi, ml, mr) = some (none, (s, n, mi', ml, mr)) ∧ TB (D7 d (upn d) 0) mi' ∧ LPr (upn (d + 1)) mi' ∧ T1f mi mi' := by
  have hu := f4 d hd
  have hun : upn d ≤ upn (d + 1) := by
    have : ∀ d, d < 5 → upn d ≤ upn (d + 1) := by decide
    exact this d hd
  intro f
  induction f with
  | zero =>
    intro p o5 o6 mi hf hp hT hL
    have e : p = upn d := by omega
    subst e
    refine ⟨mi, ?_, hT, hL, fun _ _ => rfl⟩
    refine (b7_3 hG ..).trans ?_
    rw [decide_eq_true (by rw [zi_le (by omega) (by omega)]; omega : zi (upn d) ≤ zi (upn d)), cnd_t]
  | succ f ih =>
    intro p o5 o6 mi hf hp hT hL
    obtain ⟨m1, e1, h1, h2, h3⟩ := t7i hG hP (n := n) (ml := ml) hd hp (by omega) (lv p) 0 mi (by omega) hT hL
    obtain ⟨m2, e2, h4, h5, h6⟩ := ih (p + 1) (some (.inl (zi (lv p)))) (some (.inl (zi (lv p)))) m1 (by omega) (by omega) h1 h2
    refine ⟨m2, ?_, h4, h5, T1f_trans h3 h6⟩
    refine (b7_3 hG ..).trans ?_
    rw [decide_eq_false (by rw [zi_le (by omega) (by omega)]; omega : ¬ zi (upn d) ≤ zi p), cnd_f, rgR hP.1.2.1 rfl, bind_s, hP.1.2.2.2.2.2.2, raI hP.1.2.2.2.1 (by omega) (by decide), bind_s, hL.1 p (by omega)]
    exact e1.trans e2
theorem t58 {G : AG} (hG : FIX G) {s : Nat → Nat × Nat} {mr : Nat → Nat → Nat} (hP : PSh s mr) {n : Nat × Nat} {ml : Nat → Nat → Int64} : ∀ (f d : Nat) (mi : Nat → Nat → Int32), d + f = 5 → (∀ j, j < 6 → mi 2 j = zi (upn j)) → TB (fun _ q => q < (if d = 0 then 0 else upn (d - 1))) mi → LPr (upn d) mi → ∃ mi', G 4 58 [some (.inr (.inr 11)), some (.inr (.inr 19)), some (.inl (zi (if d = 0 then 0 else upn (d - 1)))), some (.inl (zi d))] [] (s, n, mi, ml, mr) = some (none, (s, n, mi', ml, mr)) ∧ TB (fun _ q => q < 126) mi' ∧ LPr 252 mi' ∧ T1f mi mi' := by
  intro f
  induction f with
  | zero =>
    intro d mi hf h2 hT hL
    have e : d = 5 := by omega
    subst e
    refine ⟨mi, ?_, hT, hL, fun _ _ => rfl⟩
    refine (b4_58 hG ..).trans ?_
    rw [show decide ((5 : Int32) ≤ zi 5) = true from by decide, cnd_t]
  | succ f ih =>
    intro d mi hf h2 hT hL
    have hd : d < 5 := by omega
    have hu := f4 d hd
    have hlo : (if d = 0 then 0 else upn (d - 1)) = lo d := by
      have : ∀ d, d < 5 → (if d = 0 then 0 else upn (d - 1)) = lo d := by decide
      exact this d hd
    rw [hlo] at hT ⊢
    have hb5 : Nat.beq (s 11).1 5 = true := by rw [hP.1.2.1]; rfl
    obtain ⟨m1, e1, a1, a2, a3⟩ := t6 hG hP (n := n) (ml := ml) hd (upn d - lo d) (lo d) none mi (by omega) (Nat.le_refl _) (TB_congr hT (fun w q hw hq => by
      unfold D6
      constructor
      · intro h; exact Or.inl h
      · rintro (h | ⟨h1, h2, h3⟩ | ⟨h1, h2, h3⟩)
        · exact h
        · omega
        · omega)) (by rw [hu.1]; exact hL)
    have e1' : G 6 0 [some (.inr (.inr 11)), some (.inr (.inr 19)), some (.inl (zi (lo d))), some (.inl (zi (upn d))), none, none, none] [] (s, n, mi, ml, mr) = some (none, (s, n, m1, ml, mr)) := by
      refine (b6_0 hG ..).trans ?_
      rw [hu.1] at e1
      exact e1
    obtain ⟨m2, e2, b1, b2, b3⟩ := t7 hG hP (n := n) (ml := ml) hd (upn d - lo d) (lo d) none none m1 (by omega) (Nat.le_refl _) (TB_congr a1 (fun w q hw hq => by
      unfold D6 D7
      constructor
      · rintro (h | h | ⟨h1, h2, h3⟩)
        · exact Or.inl h
        · exact Or.inr (Or.inl h)
        · omega
      · rintro (h | h | ⟨h1, h2, h3⟩ | ⟨h1, h2⟩)
        · exact Or.inl h
        · exact Or.inr (Or.inl h)
        · omega
        · omega)) a2
    have e2' : G 7 0 [some (.inr (.inr 11)), some (.inr (.inr 19)), some (.inl (zi (lo d))), some (.inl (zi (upn d))), none, none, none] [] (s, n, m1, ml, mr) = some (none, (s, n, m2, ml, mr)) := by
      refine (b7_0 hG ..).trans ?_
      exact e2
    have g1 : m1 2 = mi 2 := a3 2 (by decide)
    have g2 : m2 2 = mi 2 := (b3 2 (by decide)).trans g1
    obtain ⟨m3, e3, c1, c2, c3⟩ := ih (d + 1) m2 (by omega) (fun j hj => by rw [g2]; exact h2 j hj) (TB_congr b1 (fun w q hw hq => by
      rw [if_neg (by omega), Nat.add_sub_cancel]
      unfold D7
      constructor
      · rintro (h | ⟨h1, h2, h3⟩ | ⟨h1, h2, h3⟩ | ⟨h1, h2⟩) <;> omega
      · intro h
        by_cases hl : q < lo d
        · exact Or.inl hl
        · by_cases hw2 : lv q ≤ w
          · exact Or.inr (Or.inl ⟨by omega, h, hw2⟩)
          · exact Or.inr (Or.inr (Or.inl ⟨by omega, h, by omega⟩)))) b2
    refine ⟨m3, ?_, c1, c2, T1f_trans (T1f_trans a3 b3) c3⟩
    refine (b4_58 hG ..).trans ?_
    rw [decide_eq_false (by show ¬ zi 5 ≤ zi d; rw [zi_le (by omega) (by omega)]; omega : ¬ (5 : Int32) ≤ zi d), cnd_f, raC hP.1.1 (by omega) (by decide), bind_s, h2 d (by omega), hb5, cnd_t, e1', bind_s, as_V, bind_s, raC hP.1.1 (by omega) (by decide), bind_s, g1, h2 d (by omega), hb5, cnd_t, e2', bind_s, as_V, bind_s, raC hP.1.1 (by omega) (by decide), bind_s, g2, h2 d (by omega), show zi d + 1 = zi (d + 1) from zi_add d 1]
    rw [if_neg (by omega), Nat.add_sub_cancel] at e3
    exact e3
theorem t33 {G : AG} (hG : FIX G) {s : Nat → Nat × Nat} {mr : Nat → Nat → Nat} (hP : PSh s mr) {n : Nat × Nat} {ml : Nat → Nat → Int64} {mi : Nat → Nat → Int32} (h2 : ∀ j, j < 6 → mi 2 j = zi (upn j)) (h18 : mi 18 0 = 0) : ∃ mi', G 4 33 [some (.inr (.inr 11)), some (.inr (.inr 19)), some (.inl (zi 0)), none] [] (s, n, mi, ml, mr) = some (none, (s, n, mi', ml, mr)) ∧ TB (fun _ q => q < 126) mi' ∧ LPr 252 mi' ∧ T1f mi mi' := by
  have L : ∀ (f v : Nat) (mi' : Nat → Nat → Int32), v + f = 5 → (∀ w, w < v → ∀ p, p < 252 → mi' (13 + w) p = -1) → (∀ a, a < 13 ∨ 18 ≤ a → mi' a = mi a) → ∃ m', G 4 33 [some (.inr (.inr 11)), some (.inr (.inr 19)), some (.inl (zi v)), none] [] (s, n, mi', ml, mr) = G 4 58 [some (.inr (.inr 11)), some (.inr (.inr 19)), some (.inl (zi 0)), some (.inl (zi 0))] [] (s, n, m', ml, mr) ∧ (∀ w, w < 5 → ∀ p, p < 252 → m' (13 + w) p = -1) ∧ (∀ a, a < 13 ∨ 18 ≤ a → m' a = mi a) := by
    intro f
    induction f with
    | zero =>
      intro v mi' hf h1 h3
      have e : v = 5 := by omega
      subst e
      refine ⟨mi', ?_, h1, h3⟩
      refine (b4_33 hG ..).trans ?_
      rw [show decide ((5 : Int32) ≤ zi 5) = true from by decide, cnd_t]
      rfl
    | succ f ih =>
      intro v mi' hf h1 h3
      have hv5 : v < 5 := by omega
      obtain ⟨m1, e1, a1, a2⟩ := t5c hG hP (n := n) (ml := ml) hv5 mi'
      obtain ⟨m2, e2, b1, b2⟩ := ih (v + 1) m1 (by omega) (fun w hw p hp => by
        by_cases e : w = v
        · rw [e]; exact a1 p hp
        · rw [a2 _ (by omega)]; exact h1 w (by omega) p hp) (fun a ha => (a2 a (by omega)).trans (h3 a ha))
      refine ⟨m2, ?_, b1, b2⟩
      refine (b4_33 hG ..).trans ?_
      rw [decide_eq_false (by show ¬ zi 5 ≤ zi v; rw [zi_le (by omega) (by omega)]; omega : ¬ (5 : Int32) ≤ zi v), cnd_f, rgR hP.1.2.1 rfl, bind_s, hP.1.2.2.2.2.2.1, raR hP.1.2.2.1 rfl hv5 (by decide), bind_s, hP.2.2 v hv5, e1, bind_s, as_V, bind_s, show zi v + 1 = zi (v + 1) from zi_add v 1]
      exact e2
  obtain ⟨m1, e1, a1, a2⟩ := L 5 0 mi (by omega) (fun w hw => by omega) (fun _ _ => rfl)
  obtain ⟨m2, e2, b1, b2, b3⟩ := t58 hG hP (n := n) (ml := ml) 5 0 m1 (by omega) (fun j hj => by rw [a2 2 (by decide)]; exact h2 j hj) (fun v p hv hp => ⟨fun h => absurd h (Nat.not_lt_zero _), fun _ => a1 v hv p hp⟩) ⟨fun q hq => by
    have : q < 1 := hq
    have e : q = 0 := by omega
    rw [e, a2 18 (by decide), h18]; rfl, fun q h1 hq => by
    have : q < 1 := hq
    omega⟩
  exact ⟨m2, e1.trans e2, b1, b2, fun a ha => (b3 a ha).trans (a2 a (by omega))⟩