/-! the class: runs: CALL, EITHER, OR, DONE -/
theorem c110c {G : AG} (hG : FIX G) {s : Nat → Nat × Nat} {mr : Nat → Nat → Nat} (hC : CS s mr) {n : Nat × Nat} {Q : Pg} {N w t r p x0 x1 sp k : Nat} {z : Int32} {L : List En} {R : List Fr} {mi : Nat → Nat → Int32} {ml : Nat → Nat → Int64} (hW : WP Q) (hQ : CQ Q N s mi mr) (hI : IA Q t ((r, p, x0, x1, L) :: R, sp, k, z)) (hR : RC Q w mi ml mr ((r, p, x0, x1, L) :: R, sp, k, z)) (hp : p < qn Q r) (hk : qk Q r p = 4) :
    ∃ mi' ml' mr', G 110 0 [some (.inr (.inr 41)), some (.inr (.inr (42 + 9 * r))), none, none, none, none, none] [] (s, n, mi, ml, mr) = some (none, (s, n, mi', ml', mr')) ∧ PC Q w mi' ml' mr' (stA Q w ((r, p, x0, x1, L) :: R, sp, k, z)) ∧ CRf mi mi' ml ml' mr mr' := by
  have hgt := FsI_gt hW hI.1
  have hFs := hI.1
  obtain ⟨⟨⟨i1, i2, i3, i4, i5⟩, i6, i7⟩, -, j1, j2, jX, -⟩ := hI
  obtain ⟨⟨g1, g2, g3, g4, g5⟩, ⟨g6, g7⟩, g8⟩ := hR
  have f1 := g8.1.1
  have f2 := g8.1.2.1
  have f3 := g8.1.2.2.1
  have j1' : k ≤ 20000 := j1
  have g2' : mi 41 35 = zi sp := g2
  have g3' : mi 41 36 = zi k := g3
  have h24 : qn Q r ≤ 24 := hW.2.1 r
  have hCR := hQ.2.1 r i1
  have h23 := hCR.2.1
  have hd := hW.2.2.2.2.2.1 r p hp hk
  obtain ⟨c1, c2, c3, c4, c5, c6, c7, c8, c9, c10, -⟩ := hCR.2.2.2.2.2.1 p hp
  have hE := c9 (Or.inr hk)
  obtain ⟨hE2, hd6⟩ := c10 hk
  rw [hk] at c3
  rw [osh_4] at c3
  have hb7 : Nat.beq (s (42 + 9 * r)).1 7 = true := by rw [kc42 hC i1]; rfl
  have hb7d : Nat.beq (s (42 + 9 * qd Q r p)).1 7 = true := by rw [kc42 hC (by omega)]; rfl
  have hb8 : Nat.beq (s 41).1 8 = true := by rw [kc41 hC]; rfl
  have e18 := c18_t hG hC (n := n) (ml := ml) i1 h23 h24 hp
  have ho0 : Nat.beq (mr (43 + 9 * r) p) 0 = false := nbeq_f (by omega)
  have t10 : ([10].any (Nat.beq (s (mr (43 + 9 * r) p)).1)) = false := by rw [c3]; rfl
  have t14 : ([1, 2, 3, 4].any (Nat.beq (s (mr (43 + 9 * r) p)).1)) = true := by rw [c3]; rfl
  have t3 : ([3].any (Nat.beq (s (mr (43 + 9 * r) p)).1)) = false := by rw [c3]; rfl
  have t31 : ([1, 2, 4, 10].any (Nat.beq (s (mr (43 + 9 * r) p)).1)) = true := by rw [c3]; rfl
  have t1 : ([1].any (Nat.beq (s (mr (43 + 9 * r) p)).1)) = true := by rw [c3]; rfl
  have st : G 110 0 [some (.inr (.inr 41)), some (.inr (.inr (42 + 9 * r))), none, none, none, none, none] [] (s, n, mi, ml, mr) = (G 117 0 [some (.inr (.inr 41)), some (.inr (.inr (42 + 9 * r))), some (.inr (.inr (mr (43 + 9 * r) p)))] [] (s, n, mi, ml, mr)).bind fun u => (asV u.1).bind fun _ => some (none, u.2) := by
    refine (b110_0 hG ..).trans ?_
    rw [gc39 hC, bind_s, g7, hb7, cnd_t, e18, bind_s, as_R, bind_s, ho0, Bool.not_false, cnd_t]
    simp only [cnd_f, t10, t14, t3, t31, t1, cnd_t, bind_s, decide_true, Bool.or_true]
    rw [show decide ((1 : Int32) = 0) = false from by decide, cnd_f, hb8, cnd_t]
    congr 1
    funext u
    congr 1
    funext _
    exact b110_167 hG ..
  rw [st, stA_4 hp hk]
  by_cases hk2 : k = 20000
  · rw [hk2] at g3'
    have e117 : G 117 0 [some (.inr (.inr 41)), some (.inr (.inr (42 + 9 * r))), some (.inr (.inr (mr (43 + 9 * r) p)))] [] (s, n, mi, ml, mr) = some (none, (s, n, up2 mi 41 37 (bz true), ml, mr)) := by
      refine (b117_0 hG ..).trans ?_
      rw [hb8, cnd_t, c116_f hG hC g3', bind_s, as_I, bind_s, show decide (bz false = 0) = true from rfl, cnd_t]
      exact b117_50 hG ..
    rw [e117, if_pos hk2]
    exact ⟨_, _, _, rfl, ⟨by rw [up2_s, up1_n _ _ (by decide)]; exact g5, Or.inr ⟨by rw [g6]; omega, by rw [up2_s, up1_s], rfl⟩⟩, CRf_41⟩
  · rw [if_neg hk2]
    obtain ⟨v1, hv1⟩ : ∃ v, v = exv (qt Q r p) x0 x1 (cf (stk (qk Q r) p) L) := ⟨_, rfl⟩
    obtain ⟨v2, hv2⟩ : ∃ v, v = exv (fun q => qt Q r p (6 + q)) x0 x1 (cf (stk (qk Q r) p) L) := ⟨_, rfl⟩
    obtain ⟨m1, hm1⟩ : ∃ m, m = up2 (up2 mi 41 36 (zi (k + 1))) 41 35 (zi (sp + 1)) := ⟨_, rfl⟩
    have fr1 : CRf mi m1 ml ml mr mr := by rw [hm1]; exact CRf_trans CRf_41 CRf_41
    have m41 : ∀ a, a ≠ 41 → m1 a = mi a := fun a ha => by rw [hm1, up2_n _ _ ha, up2_n _ _ ha]
    have e1 := c111 hG hC (n := n) (c := cf (stk (qk Q r) p) L) i1 (EX_CR fr1 hE) (fun q => hW.2.2.2.2.2.2 r p q) f1 f2 f3
    have e2 := c111 hG hC (n := n) (c := cf (stk (qk Q r) p) L) i1 (EX_CR fr1 hE2) (fun q => hW.2.2.2.2.2.2 r p (6 + q)) f1 f2 f3
    rw [← hv1] at e1
    rw [← hv2] at e2
    obtain ⟨ml', e3, z1, z2, z3, z4⟩ := c109 hG hC (n := n) (mi := m1) (ml := ml) (r := qd Q r p) (fr := 42 + 9 * r) (a := zl v1) (b := zl v2) (pl := zi (p + 1)) (by omega)
    have z4' : ∀ a, a ≠ 49 + 9 * qd Q r p → ml' a = ml a := fun a ha => by first | exact z4 a ha | (funext i; exact z4 a ha i) | (funext i; exact z4 a i ha)
    have fr2 : CRf m1 (up2 m1 (42 + 9 * qd Q r p) 32 (zi (p + 1))) ml ml' mr (up2 mr (42 + 9 * qd Q r p) 31 (42 + 9 * r)) := ⟨fun a _ _ h => up2_n _ _ (h _ (by omega)), fun r' hr' f hf => by
        rw [up2_ap]
        split
        · rename_i e; rw [e]
        · rfl, fun a ha f _ _ => by rw [up2_n _ _ (by omega)], fun x hx => z4' x (hx _ (by omega)).1, fun a _ h => up2_n _ _ (h _ (by omega)), fun r' hr' f hf => by
        rw [up2_ap]
        split
        · rename_i e; rw [e]
        · rfl⟩
    have hC2 := CS_CR hC fr2
    have e117 : G 117 0 [some (.inr (.inr 41)), some (.inr (.inr (42 + 9 * r))), some (.inr (.inr (mr (43 + 9 * r) p)))] [] (s, n, mi, ml, mr) = some (none, (s, n, up2 (up2 m1 (42 + 9 * qd Q r p) 32 (zi (p + 1))) 41 39 (zi 0), ml', up2 (up2 mr (42 + 9 * qd Q r p) 31 (42 + 9 * r)) 41 38 (42 + 9 * qd Q r p))) := by
      refine (b117_0 hG ..).trans ?_
      rw [hb8, cnd_t, c116_t hG hC g3' g2' (by omega), bind_s, as_I, bind_s, show decide (bz true = 0) = false from rfl, cnd_f, ← hm1]
      rw [rgR c3 hF1_6, bind_s, hd6, rgR c3 hF1_0, bind_s, hb7, cnd_t, e1, bind_s, as_J, bind_s, rgR c3 hF1_5, bind_s, hb7, cnd_t, e2, bind_s, as_J, bind_s, gc39 hC, bind_s, hm1, up2_s, up1_n _ _ (by decide), up2_s, up1_n _ _ (by decide), g7, ← hm1, show zi p + 1 = zi (p + 1) from zi_add p 1, hb7d, cnd_t, e3, bind_s, as_V, bind_s, rgR c3 hF1_6, bind_s, up2_n _ _ (by omega : mr (43 + 9 * r) p ≠ 42 + 9 * qd Q r p), hd6, pc38 hC2, bind_s, show (0 : Int32) = zi 0 from rfl]
      rw [rpI (cs41 hC) hF8_39 (by omega), bind_s]
      exact b117_50 hG ..
    rw [e117]
    have fr3 : CRf (up2 m1 (42 + 9 * qd Q r p) 32 (zi (p + 1))) (up2 (up2 m1 (42 + 9 * qd Q r p) 32 (zi (p + 1))) 41 39 (zi 0)) ml' ml' (up2 mr (42 + 9 * qd Q r p) 31 (42 + 9 * r)) (up2 (up2 mr (42 + 9 * qd Q r p) 31 (42 + 9 * r)) 41 38 (42 + 9 * qd Q r p)) := ⟨(CRf_41 (ml := ml) (mr := mr)).1, (CRf_41 (ml := ml) (mr := mr)).2.1, (CRf_41 (ml := ml) (mr := mr)).2.2.1, fun _ _ => rfl, fun a h1 _ => up2_n _ _ h1, fun r hr f hf => by rw [up2_n _ _ (by omega)]⟩
    refine ⟨_, _, _, rfl, ?_, CRf_trans (CRf_trans fr1 fr2) fr3⟩
    have h41 : ∀ f, f ≠ 39 → up2 (up2 m1 (42 + 9 * qd Q r p) 32 (zi (p + 1))) 41 39 (zi 0) 41 f = m1 41 f := fun f hf => by rw [up2_s, up1_n _ _ hf, up2_n _ _ (by omega)]
    refine ⟨⟨by rw [h41 _ (by decide), hm1]; simp only [up2_ap]; exact g1, by rw [h41 _ (by decide), hm1]; simp only [up2_ap]; rfl, by rw [h41 _ (by decide), hm1]; simp only [up2_ap]; rfl, by rw [h41 _ (by decide), hm1]; simp only [up2_ap]; exact g4, by rw [h41 _ (by decide), hm1]; simp only [up2_ap]; exact g5⟩, ⟨by rw [up2_s, up1_s], by rw [up2_s, up1_s]⟩, ⟨by rw [z1, hv1], by rw [z2, hv2], fun j hj => z3 j hj, fun j hj => absurd hj (Nat.not_lt_zero _), fun _ => by show EC _ _ [] []; unfold EC; exact trivial⟩, ⟨?_, ?_⟩, ?_⟩
    · rw [up2_n _ _ (by omega), up2_s, up1_s]
    · rw [up2_n _ _ (by omega), up2_s, up1_s]
    · refine FsC_mv (r0 := qd Q r p) hW (fun r' h1 h2 => ⟨z4' _ (by omega), z4' _ (by omega), by rw [up2_n _ _ (by omega), up2_n _ _ (by omega)], by rw [up2_n _ _ (by omega), up2_n _ _ (by omega), m41 _ (by omega)], fun q hq => ?_⟩) (R := (r, p, x0, x1, L) :: R) ⟨hd, RGt_mono (Nat.le_of_lt hd) hgt⟩ hFs g8
      have c1' := ((hQ.2.1 r' h2).2.2.2.2.2.1 q hq).1
      rw [up2_n _ _ (by omega : 43 + 9 * r' ≠ 41), up2_n _ _ (by omega : 43 + 9 * r' ≠ 42 + 9 * qd Q r p), up2_n _ _ (by omega), up2_n _ _ (by omega), m41 _ (by omega)]
      exact ⟨rfl, rfl⟩