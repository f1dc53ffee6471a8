/-! the model's tables -/
def MSh (s : Nat → Nat × Nat) (mr : Nat → Nat → Nat) : Prop := s 114 = (12, 40) ∧ s 122 = (20, 1260) ∧ s 123 = (20, 7776) ∧ mr 114 61 = 122 ∧ mr 114 62 = 123
def MT1 (c : Nat) (mi : Nat → Nat → Int32) : Prop := (∀ b, b < c → mi 123 b = if degc b < 6 then zi (rk b) else -zi 1) ∧ ∀ b, b < c → degc b < 6 → ∀ v, v < 5 → mi 122 (5 * rk b + v) = zi (b / 6 ^ v % 6)
theorem degc_eq (c : Nat) : 0 + c % 6 + c / 6 % 6 + c / 6 / 6 % 6 + c / 6 / 6 / 6 % 6 + c / 6 / 6 / 6 / 6 % 6 = degc c := by
  unfold degc
  rw [Nat.zero_add, Nat.div_div_eq_div_mul, Nat.div_div_eq_div_mul, Nat.div_div_eq_div_mul]
theorem rk_le : ∀ c, rk c ≤ c
  | 0 => Nat.le_refl _
  | c + 1 => by
    unfold rk
    have := rk_le c
    split <;> omega
theorem y415 {G : AG} (hG : FIX G) {s : Nat → Nat × Nat} {mr : Nat → Nat → Nat} (hP : MSh s mr) {n : Nat × Nat} {ml : Nat → Nat → Int64} {mi : Nat → Nat → Int32} {x1 x2 : Int32} {a d j : Nat} (ha : a < 10000) (hj : j < 5) : G 127 415 [some (.inr (.inr 114)), some (.inl x1), some (.inl x2), some (.inl (zi a)), some (.inl (zi d)), some (.inl (zi j))] [] (s, n, mi, ml, mr) = G 127 415 [some (.inr (.inr 114)), some (.inl x1), some (.inl x2), some (.inl (zi (a / 6))), some (.inl (zi (d + a % 6))), some (.inl (zi (j + 1)))] [] (s, n, mi, ml, mr) := by
  have hq : zi a / 6 = zi (a / 6) := zi_div (b := 6) (by omega) (by decide) (by decide)
  have hm : zi a - zi (a / 6) * 6 = zi (a % 6) := by
    rw [show (6 : Int32) = zi 6 from rfl, zi_mul, zi_sub (by omega)]
    congr 1
    omega
  refine (b127_415 hG ..).trans ?_
  rw [decide_eq_false (by show ¬ zi 5 ≤ zi j; rw [zi_le (by omega) (by omega)]; omega : ¬ (5 : Int32) ≤ zi j), cnd_f, if_neg (by decide), bind_s, if_neg (by decide), bind_s, hq, hm, zi_add, show zi j + 1 = zi (j + 1) from zi_add j 1]
theorem y467 {G : AG} (hG : FIX G) {s : Nat → Nat × Nat} {mr : Nat → Nat → Nat} (hP : MSh s mr) {n : Nat × Nat} {ml : Nat → Nat → Int64} {mi : Nat → Nat → Int32} {x2 x4 : Int32} {k a j : Nat} (ha : a < 10000) (hj : j < 5) (hk : k < 252) : G 127 467 [some (.inr (.inr 114)), some (.inl (zi k)), some (.inl x2), some (.inl (zi a)), some (.inl x4), some (.inl (zi j))] [] (s, n, mi, ml, mr) = G 127 467 [some (.inr (.inr 114)), some (.inl (zi k)), some (.inl x2), some (.inl (zi (a / 6))), some (.inl x4), some (.inl (zi (j + 1)))] [] (s, n, up2 mi 122 (5 * k + j) (zi (a % 6)), ml, mr) := by
  have hq : zi a / 6 = zi (a / 6) := zi_div (b := 6) (by omega) (by decide) (by decide)
  have hm : zi a - zi (a / 6) * 6 = zi (a % 6) := by
    rw [show (6 : Int32) = zi 6 from rfl, zi_mul, zi_sub (by omega)]
    congr 1
    omega
  refine (b127_467 hG ..).trans ?_
  rw [decide_eq_false (by show ¬ zi 5 ≤ zi j; rw [zi_le (by omega) (by omega)]; omega : ¬ (5 : Int32) ≤ zi j), cnd_f, rgR hP.1 rfl, bind_s, hP.2.2.2.1, if_neg (by decide), bind_s, hq, hm, show (5 : Int32) * zi k = zi (5 * k) from zi_mul 5 k, zi_add, rsI hP.2.1 (by omega) (by decide) (by decide), bind_s, if_neg (by decide), bind_s, show zi j + 1 = zi (j + 1) from zi_add j 1]
theorem y400 {G : AG} (hG : FIX G) {s : Nat → Nat × Nat} {mr : Nat → Nat → Nat} (hP : MSh s mr) {n : Nat × Nat} {ml : Nat → Nat → Int64} : ∀ (f c : Nat) (o3 o4 o5 : Option AV) (mi : Nat → Nat → Int32), c + f = 7776 → MT1 c mi → ∃ mi', G 127 400 [some (.inr (.inr 114)), some (.inl (zi (rk c))), some (.inl (zi c)), o3, o4, o5] [] (s, n, mi, ml, mr) = some (none, (s, n, mi', ml, mr)) ∧ MT1 7776 mi' ∧ ∀ a, a ≠ 122 → a ≠ 123 → mi' a = mi a := by
  intro f
  induction f with
  | zero =>
    intro c o3 o4 o5 mi hf hT
    have e : c = 7776 := by omega
    subst e
    refine ⟨mi, ?_, hT, fun _ _ _ => rfl⟩
    refine (b127_400 hG ..).trans ?_
    rw [show decide ((7776 : Int32) ≤ zi 7776) = true from by decide, cnd_t]
  | succ f ih =>
    intro c o3 o4 o5 mi hf hT
    have hc : c < 7776 := by omega
    have hrkc := rk_le c
    have st : G 127 400 [some (.inr (.inr 114)), some (.inl (zi (rk c))), some (.inl (zi c)), o3, o4, o5] [] (s, n, mi, ml, mr) = G 127 415 [some (.inr (.inr 114)), some (.inl (zi (rk c))), some (.inl (zi c)), some (.inl (zi (c / 6 / 6 / 6 / 6 / 6))), some (.inl (zi (degc c))), some (.inl (zi 5))] [] (s, n, mi, ml, mr) := by
      refine (b127_400 hG ..).trans ?_
      rw [decide_eq_false (by show ¬ zi 7776 ≤ zi c; rw [zi_le (by omega) (by omega)]; omega : ¬ (7776 : Int32) ≤ zi c), cnd_f, show (0 : Int32) = zi 0 from rfl]
      rw [y415 hG hP (by omega) (by decide : 0 < 5), y415 hG hP (by omega) (by decide : 0 + 1 < 5), y415 hG hP (by omega) (by decide : 0 + 1 + 1 < 5), y415 hG hP (by omega) (by decide : 0 + 1 + 1 + 1 < 5), y415 hG hP (by omega) (by decide : 0 + 1 + 1 + 1 + 1 < 5), degc_eq]
    have hdl : degc c < 100 := by
      unfold degc
      omega
    have s5 : ∀ m' : Nat → Nat → Int32, True := fun _ => trivial
    by_cases hd : degc c < 6
    · obtain ⟨v1, v2⟩ := cd_rk (⟨hc, hd⟩ : vc c)
      have hrk : rk (c + 1) = rk c + 1 := by show rk c + (if degc c < 6 then 1 else 0) = _; rw [if_pos hd]
      obtain ⟨m1, hm1⟩ : ∃ x, x = up2 (up2 mi 123 c (-1)) 123 c (zi (rk c)) := ⟨_, rfl⟩
      obtain ⟨m2, hm2⟩ : ∃ x, x = up2 (up2 (up2 (up2 (up2 m1 122 (5 * rk c + 0) (zi (c % 6))) 122 (5 * rk c + (0 + 1)) (zi (c / 6 % 6))) 122 (5 * rk c + (0 + 1 + 1)) (zi (c / 6 / 6 % 6))) 122 (5 * rk c + (0 + 1 + 1 + 1)) (zi (c / 6 / 6 / 6 % 6))) 122 (5 * rk c + (0 + 1 + 1 + 1 + 1)) (zi (c / 6 / 6 / 6 / 6 % 6)) := ⟨_, rfl⟩
      have hn : ∀ a, a ≠ 122 → a ≠ 123 → m2 a = mi a := fun a h1 h2 => by rw [hm2, up2_n _ _ h1, up2_n _ _ h1, up2_n _ _ h1, up2_n _ _ h1, up2_n _ _ h1, hm1, up2_n _ _ h2, up2_n _ _ h2]
      have h123 : m2 123 = up1 (up1 (mi 123) c (-1)) c (zi (rk c)) := by rw [hm2, up2_n _ _ (by decide), up2_n _ _ (by decide), up2_n _ _ (by decide), up2_n _ _ (by decide), up2_n _ _ (by decide), hm1, up2_s, up2_s]
      have hT' : MT1 (c + 1) m2 := by
        refine ⟨fun b hb => ?_, fun b hb hdb v hv => ?_⟩
        · rw [h123]
          by_cases e : b = c
          · rw [e, up1_s, if_pos hd]
          · rw [up1_n _ _ e, up1_n _ _ e]; exact hT.1 b (by omega)
        · by_cases e : b = c
          · subst e
            have hv5 : v = 0 ∨ v = 1 ∨ v = 2 ∨ v = 3 ∨ v = 4 := by omega
            rw [hm2]
            rcases hv5 with rfl | rfl | rfl | rfl | rfl
            · rw [up2_s, up1_n _ _ (by omega), up2_s, up1_n _ _ (by omega), up2_s, up1_n _ _ (by omega), up2_s, up1_n _ _ (by omega), up2_s, up1_s, Nat.pow_zero, Nat.div_one]
            · rw [up2_s, up1_n _ _ (by omega), up2_s, up1_n _ _ (by omega), up2_s, up1_n _ _ (by omega), up2_s, up1_s]
            · rw [up2_s, up1_n _ _ (by omega), up2_s, up1_n _ _ (by omega), up2_s, up1_s, Nat.div_div_eq_div_mul]
            · rw [up2_s, up1_n _ _ (by omega), up2_s, up1_s, Nat.div_div_eq_div_mul, Nat.div_div_eq_div_mul]
            · rw [up2_s, up1_s, Nat.div_div_eq_div_mul, Nat.div_div_eq_div_mul, Nat.div_div_eq_div_mul]
          · have hne : rk b ≠ rk c := fun h => by
              have w1 := (cd_rk (⟨by omega, hdb⟩ : vc b)).1
              rw [h, v1] at w1
              exact e w1.symm
            have x : m2 122 (5 * rk b + v) = mi 122 (5 * rk b + v) := by
              rw [hm2, up2_s, up1_n _ _ (by omega), up2_s, up1_n _ _ (by omega), up2_s, up1_n _ _ (by omega), up2_s, up1_n _ _ (by omega), up2_s, up1_n _ _ (by omega), hm1, up2_n _ _ (by decide), up2_n _ _ (by decide)]
            rw [x]
            exact hT.2 b (by omega) hdb v hv
      obtain ⟨m3, e3, c1, c2⟩ := ih (c + 1) (some (.inl (zi (c / 6 / 6 / 6 / 6 / 6)))) (some (.inl (zi (degc c)))) (some (.inl (zi 5))) m2 (by omega) hT'
      refine ⟨m3, ?_, c1, fun a h1 h2 => (c2 a h1 h2).trans (hn a h1 h2)⟩
      rw [st]
      refine (b127_415 hG ..).trans ?_
      rw [show decide ((5 : Int32) ≤ zi 5) = true from by decide, cnd_t, rgR hP.1 rfl, bind_s, hP.2.2.2.2, rsI hP.2.2.1 hc (by decide) (by decide), bind_s, decide_eq_false (by show ¬ zi 6 ≤ zi (degc c); rw [zi_le (by omega) (by omega)]; omega : ¬ (6 : Int32) ≤ zi (degc c)), cnd_f, rgR hP.1 rfl, bind_s, hP.2.2.2.2, rsI hP.2.2.1 hc (by decide) (by decide), bind_s, ← hm1, show (0 : Int32) = zi 0 from rfl]
      rw [y467 hG hP (by omega) (by decide : 0 < 5) v2, y467 hG hP (by omega) (by decide : 0 + 1 < 5) v2, y467 hG hP (by omega) (by decide : 0 + 1 + 1 < 5) v2, y467 hG hP (by omega) (by decide : 0 + 1 + 1 + 1 < 5) v2, y467 hG hP (by omega) (by decide : 0 + 1 + 1 + 1 + 1 < 5) v2, ← hm2]
      refine (b127_467 hG ..).trans ?_
      rw [show decide ((5 : Int32) ≤ zi (0 + 1 + 1 + 1 + 1 + 1)) = true from by decide, cnd_t]
      refine (b127_502 hG ..).trans ?_
      rw [show zi (rk c) + 1 = zi (rk c + 1) from zi_add _ 1, ← hrk, show zi c + 1 = zi (c + 1) from zi_add c 1]
      exact e3
    · have hrk : rk (c + 1) = rk c := by show rk c + (if degc c < 6 then 1 else 0) = _; rw [if_neg hd, Nat.add_zero]
      obtain ⟨m3, e3, c1, c2⟩ := ih (c + 1) (some (.inl (zi (c / 6 / 6 / 6 / 6 / 6)))) (some (.inl (zi (degc c)))) (some (.inl (zi 5))) (up2 mi 123 c (-1)) (by omega) ⟨fun b hb => by
        rw [up2_s]
        by_cases e : b = c
        · rw [e, up1_s, if_neg hd]; rfl
        · rw [up1_n _ _ e]; exact hT.1 b (by omega), fun b hb hdb v hv => by
        have e : b ≠ c := fun e => hd (by rw [← e]; exact hdb)
        rw [up2_n _ _ (by decide)]
        exact hT.2 b (by omega) hdb v hv⟩
      refine ⟨m3, ?_, c1, fun a h1 h2 => (c2 a h1 h2).trans (up2_n _ _ h2)⟩
      rw [st]
      refine (b127_415 hG ..).trans ?_
      rw [show decide ((5 : Int32) ≤ zi 5) = true from by decide, cnd_t, rgR hP.1 rfl, bind_s, hP.2.2.2.2, rsI hP.2.2.1 hc (by decide) (by decide), bind_s, decide_eq_true (by show zi 6 ≤ zi (degc c); rw [zi_le (by omega) (by omega)]; omega : (6 : Int32) ≤ zi (degc c)), cnd_t]
      refine (b127_502 hG ..).trans ?_
      rw [show zi c + 1 = zi (c + 1) from zi_add c 1]
      rw [hrk] at e3
      exact e3