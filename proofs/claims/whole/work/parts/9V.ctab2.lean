/-! the class's tables: the loops -/
def PSh (s : Nat → Nat × Nat) (mr : Nat → Nat → Nat) : Prop := (s 2 = (30, 6) ∧ s 11 = (5, 2) ∧ s 12 = (25, 5) ∧ s 18 = (20, 252) ∧ s 19 = (20, 252) ∧ mr 11 12 = 12 ∧ mr 11 13 = 18) ∧ (∀ v, v < 5 → s (13 + v) = (20, 252)) ∧ ∀ v, v < 5 → mr 12 v = 13 + v
def TB (D : Nat → Nat → Prop) (mi : Nat → Nat → Int32) : Prop := ∀ v p, v < 5 → p < 252 → (D v p → mi (13 + v) p = zi (nx v p)) ∧ (¬ D v p → mi (13 + v) p = -1)
def LPr (c : Nat) (mi : Nat → Nat → Int32) : Prop := (∀ q, q < c → mi 18 q = zi (lv q)) ∧ ∀ q, 1 ≤ q → q < c → mi 19 q = zi (pr q)
def T1f (mi mi' : Nat → Nat → Int32) : Prop := ∀ a, a < 13 ∨ 19 < a → mi' a = mi a
theorem T1f_trans {a b c} (h : T1f a b) (h' : T1f b c) : T1f a c := fun x hx => (h' x hx).trans (h x hx)
theorem TB_congr {D D' : Nat → Nat → Prop} {mi} (h : TB D mi) (e : ∀ v p, v < 5 → p < 252 → (D v p ↔ D' v p)) : TB D' mi := fun v p hv hp => ⟨fun hd => (h v p hv hp).1 ((e v p hv hp).mpr hd), fun hd => (h v p hv hp).2 (fun h' => hd ((e v p hv hp).mp h'))⟩
theorem TB_up {D : Nat → Nat → Prop} {mi : Nat → Nat → Int32} {v p : Nat} (h : TB D mi) : TB (fun w q => D w q ∨ (w = v ∧ q = p)) (up2 mi (13 + v) p (zi (nx v p))) := fun w q hw hq => by
  by_cases e : w = v ∧ q = p
  · obtain ⟨rfl, rfl⟩ := e
    exact ⟨fun _ => by rw [up2_s, up1_s], fun hd => absurd (Or.inr ⟨rfl, rfl⟩) hd⟩
  · have hm : up2 mi (13 + v) p (zi (nx v p)) (13 + w) q = mi (13 + w) q := by
      rw [up2_ap]
      by_cases e1 : 13 + w = 13 + v
      · rw [if_pos e1, if_neg (by omega), e1]
      · rw [if_neg e1]
    rw [hm]
    exact ⟨fun hd => (h w q hw hq).1 (hd.elim id (fun x => absurd x e)), fun hd => (h w q hw hq).2 (fun x => hd (Or.inl x))⟩
theorem TB_o {D : Nat → Nat → Prop} {mi mi' : Nat → Nat → Int32} (h : TB D mi) (e : ∀ a, 13 ≤ a → a < 18 → mi' a = mi a) : TB D mi' := fun v p hv hp => by rw [e _ (by omega) (by omega)]; exact h v p hv hp
theorem t5 {G : AG} (hG : FIX G) {s : Nat → Nat × Nat} {mr : Nat → Nat → Nat} (hP : PSh s mr) {n : Nat × Nat} {ml : Nat → Nat → Int64} {v : Nat} (hv : v < 5) : ∀ (f i : Nat) (mi : Nat → Nat → Int32), i + f = 252 → (∀ p, p < i → mi (13 + v) p = -1) → ∃ mi', G 5 5 [some (.inr (.inr (13 + v))), some (.inl (-1)), some (.inl (zi i)), some (.inl (zi 252))] [] (s, n, mi, ml, mr) = some (none, (s, n, mi', ml, mr)) ∧ (∀ p, p < 252 → mi' (13 + v) p = -1) ∧ ∀ a, a ≠ 13 + v → mi' a = mi a := by
  intro f
  induction f with
  | zero =>
    intro i mi hf h
    have e : i = 252 := by omega
    subst e
    refine ⟨mi, ?_, h, fun _ _ => rfl⟩
    refine (b5_5 hG ..).trans ?_
    rw [show decide (zi 252 ≤ zi 252) = true from by decide, cnd_t]
  | succ f ih =>
    intro i mi hf h
    obtain ⟨m', e, h1, h2⟩ := ih (i + 1) (up2 mi (13 + v) i (-1)) (by omega) (fun p hp => by
      rw [up2_s]
      by_cases ep : p = i
      · rw [ep, up1_s]
      · rw [up1_n _ _ ep]; exact h p (by omega))
    refine ⟨m', ?_, h1, fun a ha => (h2 a ha).trans (up2_n _ _ ha)⟩
    refine (b5_5 hG ..).trans ?_
    rw [decide_eq_false (by rw [zi_le (by omega) (by omega)]; omega : ¬ zi 252 ≤ zi i), cnd_f, rsI (hP.2.1 v hv) (by omega) (by decide) (by omega), bind_s, show zi i + 1 = zi (i + 1) from zi_add i 1]
    exact e
theorem t5c {G : AG} (hG : FIX G) {s : Nat → Nat × Nat} {mr : Nat → Nat → Nat} (hP : PSh s mr) {n : Nat × Nat} {ml : Nat → Nat → Int64} {v : Nat} (hv : v < 5) (mi : Nat → Nat → Int32) : ∃ mi', G 5 0 [some (.inr (.inr (13 + v))), some (.inl (-1)), none, none] [] (s, n, mi, ml, mr) = some (none, (s, n, mi', ml, mr)) ∧ (∀ p, p < 252 → mi' (13 + v) p = -1) ∧ ∀ a, a ≠ 13 + v → mi' a = mi a := by
  obtain ⟨m', e, h⟩ := t5 hG hP (n := n) (ml := ml) hv 252 0 mi (by omega) (fun p hp => by omega)
  refine ⟨m', ?_, h⟩
  refine (b5_0 hG ..).trans ?_
  have hl : hLen ((s, n, mi, ml, mr) : Hp) (13 + v) = some (zi 252) := by unfold hLen; rw [show (s, n, mi, ml, mr).1 (13 + v) = (20, 252) from hP.2.1 v hv]; rfl
  rw [hl, bind_s]
  exact e
theorem t8 {G : AG} (hG : FIX G) {s : Nat → Nat × Nat} {mr : Nat → Nat → Nat} (hP : PSh s mr) {n : Nat × Nat} {ml : Nat → Nat → Int64} {mi : Nat → Nat → Int32} {p v : Nat} (hp : p < 252) (hv : v < 5) : G 8 0 [some (.inr (.inr 11)), some (.inl (zi p)), some (.inl (zi v))] [] (s, n, mi, ml, mr) = some (some (.inl (mi (13 + v) p)), (s, n, mi, ml, mr)) := by
  refine (b8_0 hG ..).trans ?_
  have h1 : ¬ zi p < 0 := Int32.not_lt.mpr (zi_ge0 (by omega))
  have h2 : ¬ zi v < 0 := Int32.not_lt.mpr (zi_ge0 (by omega))
  rw [decide_eq_false h1, cnd_f, decide_eq_false (by show ¬ zi 252 ≤ zi p; rw [zi_le (by omega) (by omega)]; omega : ¬ (252 : Int32) ≤ zi p), cnd_f, decide_eq_false h2, cnd_f, decide_eq_true (by show zi v < zi 5; rw [zi_lt (by omega) (by omega)]; exact hv : zi v < (5 : Int32)), cnd_t, rgR hP.1.2.1 rfl, bind_s, hP.1.2.2.2.2.2.1, raR hP.1.2.2.1 rfl hv (by decide), bind_s, hP.2.2 v hv, raI (hP.2.1 v hv) hp (by decide), bind_s]
def D6 (d p v : Nat) : Nat → Nat → Prop := fun w q => q < lo d ∨ (lo d ≤ q ∧ q < p ∧ lv q ≤ w) ∨ (q = p ∧ lv q ≤ w ∧ w < v)
theorem t6i {G : AG} (hG : FIX G) {s : Nat → Nat × Nat} {mr : Nat → Nat → Nat} (hP : PSh s mr) {n : Nat × Nat} {ml : Nat → Nat → Int64} {d p : Nat} (hd : d < 5) (hp1 : lo d ≤ p) (hp2 : p < upn d) : ∀ (f v : Nat) (mi : Nat → Nat → Int32), v + f = 5 → lv p ≤ v → TB (D6 d p v) mi → LPr (fc p + (v - lv p)) mi → ∃ mi', G 6 21 [some (.inr (.inr 11)), some (.inr (.inr 19)), some (.inl (zi (lo d))), some (.inl (zi (upn d))), some (.inl (zi (fc p + (v - lv p)))), some (.inl (zi p)), some (.inl (zi v))] [] (s, n, mi, ml, mr) = G 6 6 [some (.inr (.inr 11)), some (.inr (.inr 19)), some (.inl (zi (lo d))), some (.inl (zi (upn d))), some (.inl (zi (fc (p + 1)))), some (.inl (zi (p + 1))), some (.inl (zi 5))] [] (s, n, mi', ml, mr) ∧ TB (D6 d (p + 1) 0) mi' ∧ LPr (fc (p + 1)) mi' ∧ T1f mi mi' := by
  have h126 : p < 126 := by have := (f4 d hd).2.2.1; omega
  obtain ⟨k1, k2, k3⟩ := f3 h126
  intro f
  induction f with
  | zero =>
    intro v mi hf hv hT hL
    have e : v = 5 := by omega
    subst e
    refine ⟨mi, ?_, TB_congr hT (fun w q hw hq => ?_), by rw [k1]; exact hL, fun _ _ => rfl⟩
    · refine (b6_21 hG ..).trans ?_
      rw [show decide ((5 : Int32) ≤ zi 5) = true from by decide, cnd_t]
      refine (b6_71 hG ..).trans ?_
      rw [show zi p + 1 = zi (p + 1) from zi_add p 1, k1]
    · unfold D6
      constructor
      · rintro (h | ⟨h1, h2, h3⟩ | ⟨h1, h2, h3⟩)
        · exact Or.inl h
        · exact Or.inr (Or.inl ⟨h1, by omega, h3⟩)
        · exact Or.inr (Or.inl ⟨by omega, by omega, h2⟩)
      · rintro (h | ⟨h1, h2, h3⟩ | ⟨h1, h2, h3⟩)
        · exact Or.inl h
        · by_cases e : q = p
          · exact Or.inr (Or.inr ⟨e, h3, hw⟩)
          · exact Or.inr (Or.inl ⟨h1, by omega, h3⟩)
        · omega
  | succ f ih =>
    intro v mi hf hv hT hL
    have hv5 : v < 5 := by omega
    obtain ⟨g1, g2, g3, g4⟩ := f1 hv5 h126 hv
    obtain ⟨c, hc⟩ : ∃ c, c = fc p + (v - lv p) := ⟨_, rfl⟩
    rw [← hc] at hL g1 ⊢
    rw [g1] at g2 g3 g4
    have hT' : TB (D6 d p (v + 1)) (up2 (up2 (up2 mi (13 + v) p (zi c)) 18 c (zi v)) 19 c (zi p)) := by
      have h1 := TB_up (v := v) (p := p) hT
      rw [g1] at h1
      refine TB_congr (TB_o h1 (fun a h1 h2 => by rw [up2_n _ _ (by omega), up2_n _ _ (by omega)])) (fun w q hw hq => ?_)
      unfold D6
      constructor
      · rintro ((h | ⟨h1, h2, h3⟩ | ⟨h1, h2, h3⟩) | ⟨h1, h2⟩)
        · exact Or.inl h
        · exact Or.inr (Or.inl ⟨h1, h2, h3⟩)
        · exact Or.inr (Or.inr ⟨h1, h2, by omega⟩)
        · exact Or.inr (Or.inr ⟨h2, by rw [h2, h1]; exact hv, by omega⟩)
      · rintro (h | ⟨h1, h2, h3⟩ | ⟨h1, h2, h3⟩)
        · exact Or.inl (Or.inl h)
        · exact Or.inl (Or.inr (Or.inl ⟨h1, h2, h3⟩))
        · by_cases e : w = v
          · exact Or.inr ⟨e, h1⟩
          · exact Or.inl (Or.inr (Or.inr ⟨h1, h2, by omega⟩))
    have hL' : LPr (c + 1) (up2 (up2 (up2 mi (13 + v) p (zi c)) 18 c (zi v)) 19 c (zi p)) := by
      refine ⟨fun q hq => ?_, fun q h1 hq => ?_⟩
      · rw [up2_n _ _ (by decide), up2_s]
        by_cases e : q = c
        · rw [e, up1_s, g2]
        · rw [up1_n _ _ e, up2_n _ _ (by omega)]; exact hL.1 q (by omega)
      · rw [up2_s]
        by_cases e : q = c
        · rw [e, up1_s, g3]
        · rw [up1_n _ _ e, up2_n _ _ (by decide), up2_n _ _ (by omega)]; exact hL.2 q h1 (by omega)
    have ec : c + 1 = fc p + (v + 1 - lv p) := by omega
    obtain ⟨m', e, h1, h2, h3⟩ := ih (v + 1) _ (by omega) (by omega) hT' (by rw [← ec]; exact hL')
    refine ⟨m', ?_, h1, h2, T1f_trans (fun a ha => by rw [up2_n _ _ (by omega), up2_n _ _ (by omega), up2_n _ _ (by omega)]) h3⟩
    refine (b6_21 hG ..).trans ?_
    rw [decide_eq_false (by show ¬ zi 5 ≤ zi v; rw [zi_le (by omega) (by omega)]; omega : ¬ (5 : Int32) ≤ zi v), cnd_f, decide_eq_false (by show ¬ zi 252 ≤ zi c; rw [zi_le (by omega) (by omega)]; omega : ¬ (252 : Int32) ≤ zi c), cnd_f, rgR hP.1.2.1 rfl, bind_s, hP.1.2.2.2.2.2.1, raR hP.1.2.2.1 rfl hv5 (by decide), bind_s, hP.2.2 v hv5, rsI (hP.2.1 v hv5) (by omega) (by decide) (by omega), bind_s, rgR hP.1.2.1 rfl, bind_s, hP.1.2.2.2.2.2.2, rsI hP.1.2.2.2.1 g4 (by decide) (by decide), bind_s, rsI hP.1.2.2.2.2.1 g4 (by decide) (by decide), bind_s, show zi c + 1 = zi (c + 1) from zi_add c 1, show zi v + 1 = zi (v + 1) from zi_add v 1, ec]
    exact e
theorem t6 {G : AG} (hG : FIX G) {s : Nat → Nat × Nat} {mr : Nat → Nat → Nat} (hP : PSh s mr) {n : Nat × Nat} {ml : Nat → Nat → Int64} {d : Nat} (hd : d < 5) : ∀ (f p : Nat) (o6 : Option AV) (mi : Nat → Nat → Int32), p + f = upn d → lo d ≤ p → TB (D6 d p 0) mi → LPr (fc p) mi → ∃ mi', G 6 6 [some (.inr (.inr 11)), some (.inr (.inr 19)), some (.inl (zi (lo d))), some (.inl (zi (upn d))), some (.inl (zi (fc p))), some (.inl (zi p)), o6] [] (s, n, mi, ml, mr) = some (none, (s, n, mi', ml, mr)) ∧ TB (D6 d (upn d) 0) mi' ∧ LPr (upn (d + 1)) mi' ∧ T1f mi mi' := by
  have hu := f4 d hd
  intro f
  induction f with
  | zero =>
    intro p o6 mi hf hp hT hL
    have e : p = upn d := by omega
    subst e
    refine ⟨mi, ?_, hT, by rw [← hu.2.2.2.2]; exact hL, fun _ _ => rfl⟩
    refine (b6_6 hG ..).trans ?_
    rw [decide_eq_true (by rw [zi_le (by omega) (by omega)]; omega : zi (upn d) ≤ zi (upn d)), cnd_t]
  | succ f ih =>
    intro p o6 mi hf hp hT hL
    have h126 : p < 126 := by omega
    obtain ⟨k1, k2, k3⟩ := f3 h126
    have hlp : p < fc p := by
      have := (f1 (v := 4) (by decide) h126 (by omega)).1
      have h5 := f5 h126
      exact h5
    obtain ⟨m1, e1, h1, h2, h3⟩ := t6i hG hP (n := n) (ml := ml) hd hp (by omega) (5 - lv p) (lv p) mi (by omega) (Nat.le_refl _) (TB_congr hT (fun w q hw hq => by
      unfold D6
      constructor
      · rintro (h | h | ⟨h1, h2, h3⟩)
        · exact Or.inl h
        · exact Or.inr (Or.inl h)
        · omega
      · rintro (h | h | ⟨h1, h2, h3⟩)
        · exact Or.inl h
        · exact Or.inr (Or.inl h)
        · rw [h1] at h2; omega)) (by rw [Nat.sub_self]; exact hL)
    rw [Nat.sub_self, Nat.add_zero] at e1
    obtain ⟨m2, e2, h4, h5, h6⟩ := ih (p + 1) (some (.inl (zi 5))) m1 (by omega) (by omega) h1 h2
    refine ⟨m2, ?_, h4, h5, T1f_trans h3 h6⟩
    refine (b6_6 hG ..).trans ?_
    rw [decide_eq_false (by rw [zi_le (by omega) (by omega)]; omega : ¬ zi (upn d) ≤ zi p), cnd_f, rgR hP.1.2.1 rfl, bind_s, hP.1.2.2.2.2.2.2, raI hP.1.2.2.2.1 (by omega) (by decide), bind_s, hL.1 p hlp]
    exact e1.trans e2