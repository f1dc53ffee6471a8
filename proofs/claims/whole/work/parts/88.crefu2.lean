/-! the class: refusalOf -/
def CK (Q : Pg) (mi : Nat → Nat → Int32) (ml : Nat → Nat → Int64) : Prop := ∀ r, r < 8 → ∀ sd, sd < 2 → mi (48 + 9 * r) sd = zi 0 ∨ KS mi ml sd r (fml Q sd r)
def CFr (mi mi' : Nat → Nat → Int32) (ml ml' : Nat → Nat → Int64) : Prop := (∀ a, a ≠ 10 → (∀ k, k < 8 → a ≠ 48 + 9 * k) → mi' a = mi a) ∧ (∀ x, x < 21 ∨ 41 ≤ x → (∀ k, k < 8 → x ≠ 46 + 9 * k ∧ x ≠ 47 + 9 * k) → ml' x = ml x)
theorem CFr_refl (mi ml) : CFr mi mi ml ml := ⟨fun _ _ _ => rfl, fun _ _ _ => rfl⟩
theorem CFr_trans {a b c x y z} (h : CFr a b x y) (h' : CFr b c y z) : CFr a c x z := ⟨fun k h1 h2 => (h'.1 k h1 h2).trans (h.1 k h1 h2), fun k h1 h2 => (h'.2 k h1 h2).trans (h.2 k h1 h2)⟩
theorem CFr_OR1 {r sd a b x y} (h : OR1 r sd a b x y) (hr : r < 8) (hs : sd < 2) : CFr a b x y := ⟨fun k h1 h2 => h.1 k h1 (h2 r hr), fun k h1 h2 => h.2.2 k h1 (by have := h2 r hr; omega)⟩
theorem CTab_CFr {mi mi' ml ml'} (hT : CTab mi) (h : CFr mi mi' ml ml') : CTab mi' := by
  obtain ⟨t1, t2, t3, t4⟩ := hT
  exact ⟨fun v p h1 h2 => by rw [h.1 _ (by omega) (fun k _ => by omega)]; exact t1 v p h1 h2, fun p h2 => by rw [h.1 _ (by omega) (fun k _ => by omega)]; exact t2 p h2, fun j hj => by rw [h.1 _ (by omega) (fun k _ => by omega)]; exact t3 j hj, fun j hj => by rw [h.1 _ (by omega) (fun k _ => by omega)]; exact t4 j hj⟩
theorem CQ_CFr {Q N s mi mi' mr ml ml'} (hQ : CQ Q N s mi mr) (hW : WP Q) (h : CFr mi mi' ml ml') : CQ Q N s mi' mr := CQ_i hQ hW (fun a ha => h.1 a (by
  rcases ha with e | ⟨r, hr, e | e⟩ | e <;> omega) (fun k hk => by
  rcases ha with e | ⟨r, hr, e | e⟩ | e <;> omega))
theorem KS_OR1 {r sd j sd' a b x y F} (h : OR1 r sd a b x y) (hs : sd < 2) (hs' : sd' < 2) (hne : j ≠ r ∨ sd' ≠ sd) (hk : KS a x sd' j F) : KS b y sd' j F := by
  have e1 : b (48 + 9 * j) sd' = a (48 + 9 * j) sd' := by
    by_cases e : j = r
    · subst e; exact h.2.1 sd' (by omega)
    · rw [h.1 _ (by omega) (by omega)]
  rcases hk with ⟨g1, g2⟩ | ⟨W, g1, g2, g3, g4⟩
  · exact Or.inl ⟨g1, e1.trans g2⟩
  · exact Or.inr ⟨W, g1, e1.trans g2, fun i hi => by rw [h.2.2 _ (by omega) (by omega)]; exact g3 i hi, g4⟩
theorem CK_OR1 {Q r sd a b x y} (h : OR1 r sd a b x y) (hs : sd < 2) (hk : CK Q a x) (hn : KS b y sd r (fml Q sd r)) : CK Q b y := by
  intro j hj sd' hs'
  by_cases e : j = r ∧ sd' = sd
  · rw [e.1, e.2]; exact Or.inr hn
  · have hne : j ≠ r ∨ sd' ≠ sd := by omega
    rcases hk j hj sd' hs' with g | g
    · left
      by_cases e2 : j = r
      · subst e2; rw [h.2.1 sd' (by omega)]; exact g
      · rw [h.1 _ (by omega) (by omega)]; exact g
    · exact Or.inr (KS_OR1 h hs hs' hne g)
/-- the other side's formulas stay -/
def KP (sd : Nat) (mi mi' : Nat → Nat → Int32) (ml ml' : Nat → Nat → Int64) : Prop := ∀ sd', sd' < 2 → sd' ≠ sd → ∀ j F, KS mi ml sd' j F → KS mi' ml' sd' j F
theorem KP_refl (sd mi ml) : KP sd mi mi ml ml := fun _ _ _ _ _ h => h
theorem KP_trans {sd a b c x y z} (h : KP sd a b x y) (h' : KP sd b c y z) : KP sd a c x z := fun sd' h1 h2 j F hk => h' sd' h1 h2 j F (h sd' h1 h2 j F hk)
def rFus (Q : Pg) (sd r : Nat) : Int32 := bif whl Q r then (bif (fml Q sd r).isSome then 0 else -1000003) else -1000002
theorem c67L {G : AG} (hG : FIX G) {s : Nat → Nat × Nat} {mr : Nat → Nat → Nat} (hC : CS s mr) {n : Nat × Nat} {Q : Pg} {N : Nat} (hW : WP Q) {r sd : Nat} (hr : r < 8) (hs : sd < 2) (hw : whl Q r = true) : ∀ (f k : Nat) (o5 : Option AV) (mi : Nat → Nat → Int32) (ml : Nat → Nat → Int64), k + f = r + 1 → CTab mi → CQ Q N s mi mr → CK Q mi ml → (∀ j, j < k → (rcd Q r).testBit j = true → KS mi ml sd j (fml Q sd j)) →
    ∃ mi' ml', G 67 20 [some (.inr (.inr 4)), some (.inr (.inr (42 + 9 * r))), some (.inl (zi sd)), some (.inl (zi (rcd Q r))), some (.inl (zi k)), o5] [] (s, n, mi, ml, mr) = some (some (.inl (bif (fml Q sd r).isSome then 0 else -1000003)), (s, n, mi', ml', mr)) ∧ CK Q mi' ml' ∧ KS mi' ml' sd r (fml Q sd r) ∧ CFr mi mi' ml ml' ∧ KP sd mi mi' ml ml'
  | 0, k, o5, mi, ml, hk, hT, hQ, hK, hS => by
    have e : k = r + 1 := by omega
    subst e
    have hKr := hS r (by omega) (rcd_self Q r)
    refine ⟨mi, ml, ?_, hK, hKr, CFr_refl _ _, KP_refl _ _ _⟩
    refine (b67_20 hG ..).trans ?_
    rw [gc21 hC hr, bind_s, (hQ.2.1 r hr).1, decide_eq_true (by rw [zi_lt (by omega) (by omega)]; omega : zi r < zi (r + 1)), cnd_t, gc28 hC hr, bind_s, ac48 hC hr hs, bind_s]
    rcases hKr with ⟨g1, g2⟩ | ⟨W, g1, g2, -⟩
    · rw [g2, g1, show decide ((-1000003 : Int32) ≠ 1) = true from by decide, cnd_t]
      exact b67_89 hG ..
    · rw [g2, g1, show decide (zi 1 ≠ (1 : Int32)) = false from by decide, cnd_f]
      exact b67_89 hG ..
  | f + 1, k, o5, mi, ml, hk, hT, hQ, hK, hS => by
    have hk8 : k < 8 := by omega
    have hb6 : Nat.beq (s 10).1 6 = true := by rw [kc10 hC]; rfl
    have e67 : ∀ (H : Hp), G 67 67 [some (.inr (.inr 4)), some (.inr (.inr (42 + 9 * r))), some (.inl (zi sd)), some (.inl (zi (rcd Q r))), some (.inl (zi k)), some (.inr (.inr (42 + 9 * k)))] [] H = G 67 20 [some (.inr (.inr 4)), some (.inr (.inr (42 + 9 * r))), some (.inl (zi sd)), some (.inl (zi (rcd Q r))), some (.inl (zi (k + 1))), some (.inr (.inr (42 + 9 * k)))] [] H := by
      intro H
      refine (b67_67 hG ..).trans ?_
      rw [show zi k + 1 = zi (k + 1) from zi_add k 1]
    have st : G 67 20 [some (.inr (.inr 4)), some (.inr (.inr (42 + 9 * r))), some (.inl (zi sd)), some (.inl (zi (rcd Q r))), some (.inl (zi k)), o5] [] (s, n, mi, ml, mr) = bif !((rcd Q r).testBit k) then G 67 67 [some (.inr (.inr 4)), some (.inr (.inr (42 + 9 * r))), some (.inl (zi sd)), some (.inl (zi (rcd Q r))), some (.inl (zi k)), some (.inr (.inr (42 + 9 * k)))] [] (s, n, mi, ml, mr) else bif decide (mi (48 + 9 * k) sd ≠ 0) then G 67 67 [some (.inr (.inr 4)), some (.inr (.inr (42 + 9 * r))), some (.inl (zi sd)), some (.inl (zi (rcd Q r))), some (.inl (zi k)), some (.inr (.inr (42 + 9 * k)))] [] (s, n, mi, ml, mr) else (G 71 0 [some (.inr (.inr 10)), some (.inr (.inr (42 + 9 * k))), some (.inl (zi sd)), none, none, none, none, none, none] [] (s, n, mi, ml, mr)).bind fun u9 => (asV u9.1).bind fun _ => G 67 67 [some (.inr (.inr 4)), some (.inr (.inr (42 + 9 * r))), some (.inl (zi sd)), some (.inl (zi (rcd Q r))), some (.inl (zi k)), some (.inr (.inr (42 + 9 * k)))] [] u9.2 := by
      refine (b67_20 hG ..).trans ?_
      rw [gc21 hC hr, bind_s, (hQ.2.1 r hr).1, decide_eq_false (by rw [zi_lt (by omega) (by omega)]; omega : ¬ zi r < zi k), cnd_f, gc43 hC, bind_s, ac5 hC hk8, bind_s, bit_z (rcd_lt hW hr) hk8, gc28 hC hk8, bind_s, ac48 hC hk8 hs, bind_s, gc48 hC, bind_s, hb6, cnd_t]
    rw [st]
    cases hb : (rcd Q r).testBit k
    · obtain ⟨mi', ml', e1, z1, z2, z3, z4⟩ := c67L hG hC (s := s) (mr := mr) (n := n) (N := N) hW hr hs hw f (k + 1) (some (.inr (.inr (42 + 9 * k)))) mi ml (by omega) hT hQ hK (fun j hj hbj => by
        by_cases e : j = k
        · rw [e, hb] at hbj; cases hbj
        · exact hS j (by omega) hbj)
      refine ⟨mi', ml', ?_, z1, z2, z3, z4⟩
      rw [Bool.not_false, cnd_t, e67]
      exact e1
    · rw [Bool.not_true, cnd_f]
      rcases hK k hk8 sd hs with g | g
      · have hwk : whl Q k = true := (rch_whl hW (k := r + 1) (b := 2 ^ r) (by omega) (fun d hd => by
          rw [Nat.testBit_two_pow, decide_eq_true_eq] at hd
          rw [← hd]; exact ⟨hw, hr⟩) k hb).1
        obtain ⟨m1, l1, e1, y1, y2⟩ := c71 hG hC hT (n := n) hQ hW hk8 hs (whl_nil hW hk8 hwk) (fun p hp hk4 => by
          have hl := hW.2.2.2.2.2.1 k p hp hk4
          exact hS _ hl (rch_cl hW (by omega) hb hp hk4))
        have fr := CFr_OR1 y2 hk8 hs
        obtain ⟨mi', ml', e2, z1, z2, z3, z4⟩ := c67L hG hC (s := s) (mr := mr) (n := n) (N := N) hW hr hs hw f (k + 1) (some (.inr (.inr (42 + 9 * k)))) m1 l1 (by omega) (CTab_CFr hT fr) (CQ_CFr hQ hW fr) (CK_OR1 y2 hs hK y1) (fun j hj hbj => by
          by_cases e : j = k
          · rw [e]; exact y1
          · exact KS_OR1 y2 hs hs (Or.inl e) (hS j (by omega) hbj))
        refine ⟨mi', ml', ?_, z1, z2, CFr_trans fr z3, KP_trans (fun sd' h1 h2 j F hk => KS_OR1 y2 hs h1 (Or.inr h2) hk) z4⟩
        rw [g, show decide (zi 0 ≠ (0 : Int32)) = false from by decide, cnd_f, e1, bind_s, as_V, bind_s, e67]
        exact e2
      · have hne : decide (mi (48 + 9 * k) sd ≠ 0) = true := by
          rcases g with ⟨-, g2⟩ | ⟨W, -, g2, -⟩ <;> rw [g2] <;> decide
        obtain ⟨mi', ml', e1, z1, z2, z3, z4⟩ := c67L hG hC (s := s) (mr := mr) (n := n) (N := N) hW hr hs hw f (k + 1) (some (.inr (.inr (42 + 9 * k)))) mi ml (by omega) hT hQ hK (fun j hj hbj => by
          by_cases e : j = k
          · rw [e]; exact g
          · exact hS j (by omega) hbj)
        refine ⟨mi', ml', ?_, z1, z2, z3, z4⟩
        rw [hne, cnd_t, e67]
        exact e1
theorem c67 {G : AG} (hG : FIX G) {s : Nat → Nat × Nat} {mr : Nat → Nat → Nat} (hC : CS s mr) {n : Nat × Nat} {Q : Pg} {N : Nat} (hW : WP Q) {r sd : Nat} (hr : r < 8) (hs : sd < 2) {mi : Nat → Nat → Int32} {ml : Nat → Nat → Int64} (hT : CTab mi) (hQ : CQ Q N s mi mr) (hK : CK Q mi ml) :
    ∃ mi' ml', G 67 0 [some (.inr (.inr 4)), some (.inr (.inr (42 + 9 * r))), some (.inl (zi sd)), none, none, none] [] (s, n, mi, ml, mr) = some (some (.inl (rFus Q sd r)), (s, n, mi', ml', mr)) ∧ CK Q mi' ml' ∧ (whl Q r = true → KS mi' ml' sd r (fml Q sd r)) ∧ CFr mi mi' ml ml' ∧ KP sd mi mi' ml ml' := by
  have hb11 : Nat.beq (s 4).1 11 = true := by rw [kc4 hC]; rfl
  have st : G 67 0 [some (.inr (.inr 4)), some (.inr (.inr (42 + 9 * r))), some (.inl (zi sd)), none, none, none] [] (s, n, mi, ml, mr) = bif whl Q r then G 67 20 [some (.inr (.inr 4)), some (.inr (.inr (42 + 9 * r))), some (.inl (zi sd)), some (.inl (zi (rcd Q r))), some (.inl (zi 0)), none] [] (s, n, mi, ml, mr) else some (some (.inl (-1000002)), (s, n, mi, ml, mr)) := by
    refine (b67_0 hG ..).trans ?_
    rw [hb11, cnd_t, c68 hG hC hQ hW hr, bind_s, as_I, bind_s, hb11, cnd_t, c69 hG hC hQ hW (rcd_lt hW hr), bind_s, as_I, bind_s, bz_n0, rcd_alw hW hr]
    rfl
  rw [st]
  unfold rFus
  cases hw : whl Q r
  · exact ⟨mi, ml, rfl, hK, fun h => (by cases h), CFr_refl _ _, KP_refl _ _ _⟩
  · obtain ⟨mi', ml', e1, z1, z2, z3, z4⟩ := c67L hG hC (n := n) (N := N) hW hr hs hw (r + 1) 0 none mi ml (by omega) hT hQ hK (fun j hj => by omega)
    exact ⟨mi', ml', e1, z1, fun _ => z2, z3, z4⟩