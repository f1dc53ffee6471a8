/-! runs: from beginning to end; the class: worth, allowed -/
def rnf (Q : Pg) (w : Nat) : Nat → Rs → Int32 × Int32
  | 0, A => (0, A.2.2.2)
  | f + 1, A => match stA Q w A with
    | .inl v => v
    | .inr B => rnf Q w f B
theorem rnf_l {Q : Pg} {w f : Nat} {A : Rs} {v} (h : stA Q w A = .inl v) : rnf Q w (f + 1) A = v := by rw [rnf, h]
theorem rnf_r {Q : Pg} {w f : Nat} {A B : Rs} (h : stA Q w A = .inr B) : rnf Q w (f + 1) A = rnf Q w f B := by rw [rnf, h]
def rn (Q : Pg) (w r x0 x1 : Nat) (z : Int32) : Int32 × Int32 := rnf Q w 500100 ([(r, 0, x0, x1, [])], 0, 0, z)
theorem IA_0 {Q : Pg} {r x0 x1 : Nat} {z : Int32} (hW : WP Q) (hr : r < 8) (hw : whl Q r = true) (h0 : x0 ≤ 20) (h1 : x1 ≤ 20) : IA Q 0 ([(r, 0, x0, x1, [])], 0, 0, z) := by
  have h4 : 1 ≤ 4 ^ (7 - r) := Nat.pow_pos (by decide)
  have h24 : qn Q r ≤ 24 := hW.2.1 r
  have hx : 21 ≤ 4 ^ (7 - r) * (21 + tot Q []) := by
    have : 1 * 21 ≤ 4 ^ (7 - r) * 21 := Nat.mul_le_mul_right _ h4
    exact this
  refine ⟨⟨⟨hr, hw, Nat.zero_le _, rfl, by show LI [] []; unfold LI; exact trivial⟩, trivial, trivial⟩, List.cons_ne_nil _ _, Nat.zero_le _, Nat.le_refl _, ⟨by omega, by omega, trivial⟩, ?_, Nat.le_refl _, by show EBs _ _ [] []; unfold EBs; exact trivial, trivial⟩
  show 0 + ((qn Q r - 0) + 1 + 0) ≤ 25 + 25 * 0
  omega
theorem IA_t {Q : Pg} {t : Nat} {A : Rs} (h : IA Q t A) : t ≤ 500025 := by
  obtain ⟨-, -, b1, -, -, b6, -⟩ := h
  omega
theorem CK_CR {Q : Pg} {mi mi' ml ml' mr mr'} (hK : CK Q mi ml) (h : CRf mi mi' ml ml' mr mr') : CK Q mi' ml' := by
  intro r hr sd hsd
  have e1 : mi' (48 + 9 * r) = mi (48 + 9 * r) := h.1 _ (by omega) (by omega) (fun r' _ => by omega)
  have e2 : ml' (46 + 9 * r + sd) = ml (46 + 9 * r + sd) := h.2.2.2.1 _ (fun r' _ => by omega)
  have := hK r hr sd hsd
  unfold KS CF at this ⊢
  rw [e1, e2]
  exact this
theorem c108x {G : AG} (hG : FIX G) {s : Nat → Nat × Nat} {n : Nat × Nat} {mr : Nat → Nat → Nat} (hC : CS s mr) {w t x1 : Nat} {a b c d : Int32} {Q : Pg} {mi : Nat → Nat → Int32} {ml : Nat → Nat → Int64} {v : Int32 × Int32} (ht : t < 10000000) (hP : PC Q w mi ml mr (.inl v)) : G 108 44 [some (.inr (.inr 41)), some (.inr (.inr x1)), some (.inl a), some (.inl b), some (.inl c), some (.inl (zi t))] [] (s, n, mi, ml, mr) = some (some (.inl v.1), (s, n, mi, ml, mr)) := by
  refine (b108_44 hG ..).trans ?_
  rw [decide_eq_false (by show ¬ zi 10000000 ≤ zi t; rw [zi_le (by omega) (by omega)]; omega : ¬ (10000000 : Int32) ≤ zi t), cnd_f, gc38 hC, bind_s]
  obtain ⟨-, ⟨h1, h2⟩ | ⟨h1, h2, h3⟩⟩ := hP
  · rw [h1, Nat.beq_refl, cnd_t]
    refine (b108_79 hG ..).trans ?_
    rw [gc38 hC, bind_s, h1, Nat.beq_refl, Bool.not_true, cnd_f, gc35 hC, bind_s, h2]
    exact b108_95 hG ..
  · rw [nbeq_f h1, cnd_f, gc37 hC, bind_s, h2, show decide (bz true ≠ 0) = true from rfl, cnd_t]
    refine (b108_79 hG ..).trans ?_
    rw [gc38 hC, bind_s, nbeq_f h1, Bool.not_false, cnd_t, h3]
    exact b108_95 hG ..
theorem c108l {G : AG} (hG : FIX G) {s : Nat → Nat × Nat} {n : Nat × Nat} {Q : Pg} {N w x1 : Nat} {a b c : Int32} (hW : WP Q) (hw : w ≤ 4) : ∀ (f t : Nat) (A : Rs) (mi : Nat → Nat → Int32) (ml : Nat → Nat → Int64) (mr : Nat → Nat → Nat), t + f = 500100 → CS s mr → CQ Q N s mi mr → IA Q t A → RC Q w mi ml mr A → ∃ mi' ml' mr', G 108 44 [some (.inr (.inr 41)), some (.inr (.inr x1)), some (.inl a), some (.inl b), some (.inl c), some (.inl (zi t))] [] (s, n, mi, ml, mr) = some (some (.inl (rnf Q w f A).1), (s, n, mi', ml', mr')) ∧ mi' 41 33 = (rnf Q w f A).2 ∧ CRf mi mi' ml ml' mr mr' := by
  intro f
  induction f with
  | zero =>
    intro t A mi ml mr hf hC hQ hI hR
    have := IA_t hI
    omega
  | succ f ih =>
    intro t A mi ml mr hf hC hQ hI hR
    have htb := IA_t hI
    obtain ⟨fs, sp, k, z⟩ := A
    cases fs with
    | nil => exact absurd rfl hI.2.1
    | cons fr R =>
      obtain ⟨r, p, x0', x1', L⟩ := fr
      have hb8 : Nat.beq (s 41).1 8 = true := by rw [kc41 hC]; rfl
      have g6 : mr 41 38 = 42 + 9 * r := hR.2.1.1
      have g4 : mi 41 37 = bz false := hR.1.2.2.2.1
      obtain ⟨m1, l1, r1, e1, hP, hF⟩ := c110 hG hC (n := n) hW hQ hw hI hR
      have st : G 108 44 [some (.inr (.inr 41)), some (.inr (.inr x1)), some (.inl a), some (.inl b), some (.inl c), some (.inl (zi t))] [] (s, n, mi, ml, mr) = G 108 44 [some (.inr (.inr 41)), some (.inr (.inr x1)), some (.inl a), some (.inl b), some (.inl c), some (.inl (zi (t + 1)))] [] (s, n, m1, l1, r1) := by
        refine (b108_44 hG ..).trans ?_
        rw [decide_eq_false (by show ¬ zi 10000000 ≤ zi t; rw [zi_le (by omega) (by omega)]; omega : ¬ (10000000 : Int32) ≤ zi t), cnd_f, gc38 hC, bind_s, g6, nbeq_f (by omega), cnd_f, gc37 hC, bind_s, g4, show decide (bz false ≠ 0) = false from rfl, cnd_f, bind_s, hb8, cnd_t, e1, bind_s, as_V, bind_s, show zi t + 1 = zi (t + 1) from zi_add t 1]
      cases hs : stA Q w ((r, p, x0', x1', L) :: R, sp, k, z) with
      | inl v =>
        rw [hs] at hP
        rw [rnf_l hs, st]
        exact ⟨m1, l1, r1, c108x hG (CS_CR hC hF) (d := 0) (by omega) hP, hP.1, hF⟩
      | inr B =>
        rw [hs] at hP
        rw [rnf_r hs, st]
        obtain ⟨m2, l2, r2, e2, h33, hF2⟩ := ih (t + 1) B m1 l1 r1 (by omega) (CS_CR hC hF) (CQ_CR hQ hW hF) (IA_st hW hI hs) hP
        exact ⟨m2, l2, r2, e2, h33, CRf_trans hF hF2⟩
theorem c108 {G : AG} (hG : FIX G) {s : Nat → Nat × Nat} {n : Nat × Nat} {Q : Pg} {N w r x0 x1 : Nat} {z : Int32} {mi : Nat → Nat → Int32} {ml : Nat → Nat → Int64} {mr : Nat → Nat → Nat} (hC : CS s mr) (hW : WP Q) (hw : w ≤ 4) (hQ : CQ Q N s mi mr) (hr : r < 8) (hwh : whl Q r = true) (h0 : x0 ≤ 20) (h1 : x1 ≤ 20) (h33 : mi 41 33 = z) : ∃ mi' ml' mr', G 108 0 [some (.inr (.inr 41)), some (.inr (.inr (42 + 9 * r))), some (.inl (zi x0)), some (.inl (zi x1)), some (.inl (zi w)), none] [] (s, n, mi, ml, mr) = some (some (.inl (rn Q w r x0 x1 z).1), (s, n, mi', ml', mr')) ∧ mi' 41 33 = (rn Q w r x0 x1 z).2 ∧ CRf mi mi' ml ml' mr mr' := by
  have hb7 : Nat.beq (s (42 + 9 * r)).1 7 = true := by rw [kc42 hC hr]; rfl
  obtain ⟨m1, hm1⟩ : ∃ m, m = up2 (up2 (up2 (up2 (up2 mi 41 34 (zi w)) 41 35 (zi 0)) 41 36 (zi 0)) 41 37 (bz false)) 41 39 (zi 0) := ⟨_, rfl⟩
  have fr1 : CRf mi m1 ml ml mr mr := by rw [hm1]; exact CRf_trans (CRf_trans (CRf_trans (CRf_trans CRf_41 CRf_41) CRf_41) CRf_41) CRf_41
  have fr2 : CRf m1 m1 ml ml mr (up2 mr 41 38 (42 + 9 * r)) := ⟨fun _ _ _ _ => rfl, fun _ _ _ _ => rfl, fun _ _ _ _ _ => rfl, fun _ _ => rfl, fun a h1 _ => up2_n _ _ h1, fun r hr f hf => by rw [up2_n _ _ (by omega)]⟩
  have hC2 := CS_CR hC fr2
  obtain ⟨ml', e3, z1, z2, z3, z4⟩ := c109 hG hC2 (n := n) (mi := m1) (ml := ml) (r := r) (fr := 0) (a := zl x0) (b := zl x1) (pl := 0) hr
  have z4' : ∀ a, a ≠ 49 + 9 * r → ml' a = ml a := z4
  have fr3 : CRf m1 (up2 m1 (42 + 9 * r) 32 0) ml ml' (up2 mr 41 38 (42 + 9 * r)) (up2 (up2 mr 41 38 (42 + 9 * r)) (42 + 9 * r) 31 0) := ⟨fun a _ _ h => up2_n _ _ (h _ hr), fun r' hr' f hf => by
        rw [up2_ap]
        split
        · rename_i e; rw [e]
        · rfl, fun a ha f _ _ => by rw [up2_n _ _ (by omega)], fun x hx => z4' x (hx _ hr).1, fun a _ h => up2_n _ _ (h _ hr), fun r' hr' f hf => by
        rw [up2_ap]
        split
        · rename_i e; rw [e]
        · rfl⟩
  have fr := CRf_trans (CRf_trans fr1 fr2) fr3
  have h41 : ∀ f, up2 m1 (42 + 9 * r) 32 0 41 f = m1 41 f := fun f => by rw [up2_n _ _ (by omega)]
  have hR : RC Q w (up2 m1 (42 + 9 * r) 32 0) ml' (up2 (up2 mr 41 38 (42 + 9 * r)) (42 + 9 * r) 31 0) ([(r, 0, x0, x1, [])], 0, 0, z) := by
    refine ⟨⟨by rw [h41, hm1]; simp only [up2_ap]; rfl, by rw [h41, hm1]; simp only [up2_ap]; rfl, by rw [h41, hm1]; simp only [up2_ap]; rfl, by rw [h41, hm1]; simp only [up2_ap]; rfl, by rw [h41, hm1]; simp only [up2_ap]; exact h33⟩, ⟨by rw [up2_n _ _ (by omega), up2_s, up1_s], by rw [h41, hm1, up2_s, up1_s]⟩, ⟨z1, z2, fun j hj => z3 j hj, fun j hj => absurd hj (Nat.not_lt_zero _), fun _ => by show EC _ _ [] []; unfold EC; exact trivial⟩, ?_, trivial⟩
    show up2 (up2 mr 41 38 (42 + 9 * r)) (42 + 9 * r) 31 0 (42 + 9 * r) 31 = 0
    rw [up2_s, up1_s]
  obtain ⟨m2, l2, r2, e2, h33', hF2⟩ := c108l hG (n := n) (x1 := 42 + 9 * r) (a := zi x0) (b := zi x1) (c := zi w) hW hw 500100 0 _ _ _ _ (by omega) (CS_CR hC fr) (CQ_CR hQ hW fr) (IA_0 hW hr hwh h0 h1) hR
  refine ⟨m2, l2, r2, ?_, h33', CRf_trans fr hF2⟩
  refine (b108_0 hG ..).trans ?_
  rw [pc34 hC, bind_s, show (0 : Int32) = zi 0 from rfl, pc35 hC, bind_s, pc36 hC, bind_s, show zi 0 = bz false from rfl, rpZ (cs41 hC) hF8_37 (by omega), bind_s, pc38 hC, bind_s, show bz false = zi 0 from rfl, pc39 hC2, bind_s, show zi 0 = (0 : Int32) from rfl]
  rw [show up2 (up2 (up2 (up2 (up2 mi 41 34 (zi w)) 41 35 (0 : Int32)) 41 36 (0 : Int32)) 41 37 (0 : Int32)) 41 39 (0 : Int32) = m1 from hm1.symm, hb7, cnd_t, zi_64 (by omega), zi_64 (by omega), e3, bind_s, as_V, bind_s]
  exact e2