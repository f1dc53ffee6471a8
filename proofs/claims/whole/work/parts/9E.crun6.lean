/-! the class: runs: EITHER, OR, DONE -/
theorem RC_o {Q : Pg} {N w r p p' q x0 x1 sp k : Nat} {z : Int32} {L L' : List En} {R : List Fr} {s mi mi'} {ml : Nat → Nat → Int64} {mr : Nat → Nat → Nat} (hW : WP Q) (hQ : CQ Q N s mi mr) (hq : q < qn Q r) (m41 : ∀ a, a ≠ 41 → a ≠ mr (43 + 9 * r) q → mi' a = mi a) (hFs : FsI Q ((r, p, x0, x1, L) :: R)) (g8 : FsC Q w mi ml mr ((r, p, x0, x1, L) :: R)) (h41 : mi' 41 34 = zi w ∧ mi' 41 35 = zi sp ∧ mi' 41 36 = zi k ∧ mi' 41 37 = bz false ∧ mi' 41 33 = z) (g6 : mr 41 38 = 42 + 9 * r) (h39 : mi' 41 39 = zi p') (f3 : ∀ j, cf (stk (qk Q r) p') L' j = cf (stk (qk Q r) p) L j) (hl : lps (stk (qk Q r) p') = lps (stk (qk Q r) p)) (f4 : ∀ j, ef (stk (qk Q r) p') L' j = ef (stk (qk Q r) p) L j) (f5 : 3 ≤ w → EC mi' (mr (43 + 9 * r)) (stk (qk Q r) p') L') : RC Q w mi' ml mr ((r, p', x0, x1, L') :: R, sp, k, z) := by
  have hgt := FsI_gt hW hFs
  obtain ⟨⟨i1, i2, i3, i4, i5⟩, i6, i7⟩ := hFs
  obtain ⟨⟨d1, d2, d3, d4, d5⟩, d6, d7⟩ := g8
  have o1 := ((hQ.2.1 r i1).2.2.2.2.2.1 q hq).1
  refine ⟨h41, ⟨g6, h39⟩, ⟨d1, d2, fun j hj => by rw [f3]; exact d3 j hj, fun j hj => by rw [f4]; rw [hl] at hj; exact d4 j hj, f5⟩, ?_, ?_⟩
  · cases R with
    | nil => exact d6
    | cons f R => obtain ⟨r', q', y0, y1, L'⟩ := f; exact ⟨d6.1, by rw [m41 _ (by omega) (by omega)]; exact d6.2⟩
  · refine FsC_mv hW (fun r' h1 h2 => ⟨rfl, rfl, rfl, by rw [m41 _ (by omega) (by omega)], fun q' hq' => ?_⟩) hgt i7 d7
    have o2 := ((hQ.2.1 r' h2).2.2.2.2.2.1 q' hq').1
    rw [m41 _ (by omega) (fun e => by have := (hQ.2.2 r' q' r q h2 i1 hq' hq e).1; omega)]
    exact ⟨rfl, rfl⟩
theorem EC_o {Q : Pg} {N r p q : Nat} {L : List En} {s mi mi'} {mr : Nat → Nat → Nat} (hW : WP Q) (hQ : CQ Q N s mi mr) (hr : r < 8) (hp : p ≤ q) (hq : q < qn Q r) (m41 : ∀ a, a ≠ 41 → a ≠ mr (43 + 9 * r) q → mi' a = mi a) (h : EC mi (mr (43 + 9 * r)) (stk (qk Q r) p) L) : EC mi' (mr (43 + 9 * r)) (stk (qk Q r) p) L := EC_mv (fun a ha => by
  have hl := stk_lt (WF_le (hW.2.2.2.1 r) (by omega : p ≤ qn Q r)) a ha
  have o1 := ((hQ.2.1 r hr).2.2.2.2.2.1 a.1 (by omega)).1
  rw [m41 _ (by omega) (fun e => by have := (hQ.2.2 r a.1 r q hr hr (by omega) hq e).2; omega)]
  exact ⟨rfl, rfl⟩) h
theorem c110i {G : AG} (hG : FIX G) {s : Nat → Nat × Nat} {mr : Nat → Nat → Nat} (hC : CS s mr) {n : Nat × Nat} {Q : Pg} {N w t r p x0 x1 sp k : Nat} {z : Int32} {L : List En} {R : List Fr} {mi : Nat → Nat → Int32} {ml : Nat → Nat → Int64} (hW : WP Q) (hQ : CQ Q N s mi mr) (hw : w ≤ 4) (hI : IA Q t ((r, p, x0, x1, L) :: R, sp, k, z)) (hR : RC Q w mi ml mr ((r, p, x0, x1, L) :: R, sp, k, z)) (hp : p < qn Q r) (hk : qk Q r p = 5) :
    ∃ mi' ml' mr', G 110 0 [some (.inr (.inr 41)), some (.inr (.inr (42 + 9 * r))), none, none, none, none, none] [] (s, n, mi, ml, mr) = some (none, (s, n, mi', ml', mr')) ∧ PC Q w mi' ml' mr' (stA Q w ((r, p, x0, x1, L) :: R, sp, k, z)) ∧ CRf mi mi' ml ml' mr mr' := by
  have hFs := hI.1
  obtain ⟨⟨⟨i1, i2, i3, i4, i5⟩, i6, i7⟩, -, j1, -⟩ := hI
  obtain ⟨⟨g1, g2, g3, g4, g5⟩, ⟨g6, g7⟩, g8⟩ := hR
  have f5 := g8.1.2.2.2.2
  have j1' : k ≤ 20000 := j1
  have g1' : mi 41 34 = zi w := g1
  have g2' : mi 41 35 = zi sp := g2
  have g3' : mi 41 36 = zi k := g3
  have g5' : mi 41 33 = z := g5
  have h24 : qn Q r ≤ 24 := hW.2.1 r
  have hWF := hW.2.2.2.1 r
  have hnil := whl_nil hW i1 i2
  have hCR := hQ.2.1 r i1
  have h23 := hCR.2.1
  obtain ⟨c1, c2, c3, -⟩ := hCR.2.2.2.2.2.1 p hp
  rw [hk, osh_5] at c3
  have hb7 : Nat.beq (s (42 + 9 * r)).1 7 = true := by rw [kc42 hC i1]; rfl
  have hb8 : Nat.beq (s 41).1 8 = true := by rw [kc41 hC]; rfl
  have e18 := c18_t hG hC (n := n) (ml := ml) i1 h23 h24 hp
  have ho0 : Nat.beq (mr (43 + 9 * r) p) 0 = false := nbeq_f (by omega)
  have t10 : ([10].any (Nat.beq (s (mr (43 + 9 * r) p)).1)) = false := by rw [c3]; rfl
  have t14 : ([1, 2, 3, 4].any (Nat.beq (s (mr (43 + 9 * r) p)).1)) = true := by rw [c3]; rfl
  have t3 : ([3].any (Nat.beq (s (mr (43 + 9 * r) p)).1)) = false := by rw [c3]; rfl
  have t31 : ([1, 2, 4, 10].any (Nat.beq (s (mr (43 + 9 * r) p)).1)) = true := by rw [c3]; rfl
  have t1 : ([1].any (Nat.beq (s (mr (43 + 9 * r) p)).1)) = false := by rw [c3]; rfl
  have t11 : ([2, 3, 4, 10].any (Nat.beq (s (mr (43 + 9 * r) p)).1)) = true := by rw [c3]; rfl
  have t2 : ([2].any (Nat.beq (s (mr (43 + 9 * r) p)).1)) = true := by rw [c3]; rfl
  obtain ⟨E0, q1, q2, q3, q4⟩ := opn_or hWF hnil hp hk
  obtain ⟨k1, k2, k3, k4, -⟩ := cls_ok ⟨E0, q1, q2, q3, q4⟩
  obtain ⟨E, hEe⟩ : ∃ E, E = cls (qk Q r) (qn Q r) p 7 := ⟨_, rfl⟩
  rw [← hEe] at k1 k2 k3 k4
  have es2 := (st_or hWF k4 k1 k2).2.1
  have es1 : stk (qk Q r) (p + 1) = (p, 1) :: stk (qk Q r) p := by show stq (qk Q r p) p _ = _; rw [hk, stq_5]
  have h7 : mi (mr (43 + 9 * r) p) 7 = zi E := by
    have := (hCR.2.2.2.2.2.1 _ k4).2.2.2.2.2.2.2.2.2.2.2.1 k1
    rw [k2] at this; exact this
  have st : G 110 0 [some (.inr (.inr 41)), some (.inr (.inr (42 + 9 * r))), none, none, none, none, none] [] (s, n, mi, ml, mr) = (G 118 0 [some (.inr (.inr 41)), some (.inr (.inr (mr (43 + 9 * r) p)))] [] (s, n, mi, ml, mr)).bind fun u => (asV u.1).bind fun _ => some (none, u.2) := by
    refine (b110_0 hG ..).trans ?_
    rw [gc39 hC, bind_s, g7, hb7, cnd_t, e18, bind_s, as_R, bind_s, ho0, Bool.not_false, cnd_t]
    simp only [cnd_f, t10, t14, t3, t31, t1, t11, t2, cnd_t, bind_s, decide_true, Bool.or_true]
    rw [show decide ((1 : Int32) = 0) = false from by decide, cnd_f, hb8, cnd_t]
    congr 1
    funext u
    congr 1
    funext _
    exact b110_167 hG ..
  rw [st, stA_5 hp hk, ← hEe]
  by_cases hk2 : k = 20000
  · rw [hk2] at g3'
    have e118 : G 118 0 [some (.inr (.inr 41)), some (.inr (.inr (mr (43 + 9 * r) p)))] [] (s, n, mi, ml, mr) = some (none, (s, n, up2 mi 41 37 (bz true), ml, mr)) := by
      refine (b118_0 hG ..).trans ?_
      rw [hb8, cnd_t, c116_f hG hC g3', bind_s, as_I, bind_s, show decide (bz false ≠ 0) = false from rfl, cnd_f]
    rw [e118, if_pos hk2]
    exact ⟨_, _, _, rfl, ⟨by rw [up2_s, up1_n _ _ (by decide)]; exact g5, Or.inr ⟨by rw [g6]; omega, by rw [up2_s, up1_s], rfl⟩⟩, CRf_41⟩
  rw [if_neg hk2]
  obtain ⟨m1, hm1⟩ : ∃ m, m = up2 (up2 (up2 mi 41 36 (zi (k + 1))) 41 35 (zi (sp + 1))) 41 39 (zi (p + 1)) := ⟨_, rfl⟩
  have fr1 : CRf mi m1 ml ml mr mr := by rw [hm1]; exact CRf_trans (CRf_trans CRf_41 CRf_41) CRf_41
  have m41 : ∀ a, a ≠ 41 → m1 a = mi a := fun a ha => by rw [hm1, up2_n _ _ ha, up2_n _ _ ha, up2_n _ _ ha]
  have n33 : m1 41 33 = z := by rw [hm1]; simp only [up2_ap]; exact g5
  have n34 : m1 41 34 = zi w := by rw [hm1]; simp only [up2_ap]; exact g1
  have n35 : m1 41 35 = zi (sp + 1) := by rw [hm1]; simp only [up2_ap]; rfl
  have n36 : m1 41 36 = zi (k + 1) := by rw [hm1]; simp only [up2_ap]; rfl
  have n37 : m1 41 37 = bz false := by rw [hm1]; simp only [up2_ap]; exact g4
  have n39 : m1 41 39 = zi (p + 1) := by rw [hm1, up2_s, up1_s]
  have s1 : G 118 0 [some (.inr (.inr 41)), some (.inr (.inr (mr (43 + 9 * r) p)))] [] (s, n, mi, ml, mr) = ((G 119 0 [some (.inr (.inr 41))] [] (s, n, m1, ml, mr)).bind fun u5 => (asI u5.1).bind fun i6 => bif decide ((i6 : Int32) = 0) then (hgI u5.2 41 34).bind fun i7 => bif decide ((i7 : Int32) = (1 : Int32)) then G 118 64 [some (.inr (.inr 41)), some (.inr (.inr (mr (43 + 9 * r) p)))] [] u5.2 else (hgI u5.2 41 34).bind fun i8 => bif decide ((i8 : Int32) ≠ (2 : Int32)) then G 118 74 [some (.inr (.inr 41)), some (.inr (.inr (mr (43 + 9 * r) p)))] [] u5.2 else bif Nat.beq (u5.2.1 41).1 8 then (G 120 0 [some (.inr (.inr 41))] [] u5.2).bind fun u9 => (asI u9.1).bind fun i10 => bif decide ((i10 : Int32) = 0) then G 118 74 [some (.inr (.inr 41)), some (.inr (.inr (mr (43 + 9 * r) p)))] [] u9.2 else G 118 64 [some (.inr (.inr 41)), some (.inr (.inr (mr (43 + 9 * r) p)))] [] u9.2 else none else (hgI u5.2 41 35).bind fun i11 => (hpI u5.2 (mr (43 + 9 * r) p) 9 i11).bind fun H12 => (hpI H12 41 35 0).bind fun H13 => G 118 74 [some (.inr (.inr 41)), some (.inr (.inr (mr (43 + 9 * r) p)))] [] H13) := by
    refine (b118_0 hG ..).trans ?_
    rw [hb8, cnd_t, c116_t hG hC g3' g2' (by omega), bind_s, as_I, bind_s, show decide (bz true ≠ 0) = true from rfl, cnd_t, gc39 hC, bind_s, up2_s, up1_n _ _ (by decide), up2_s, up1_n _ _ (by decide), g7, show zi p + 1 = zi (p + 1) from zi_add p 1, pc39 hC, bind_s, ← hm1, hb8, cnd_t]
  have s64 : ∀ m : Nat → Nat → Int32, m (mr (43 + 9 * r) p) 7 = zi E → G 118 64 [some (.inr (.inr 41)), some (.inr (.inr (mr (43 + 9 * r) p)))] [] (s, n, m, ml, mr) = some (none, (s, n, up2 m 41 39 (zi (E + 1)), ml, mr)) := by
    intro m hm
    refine (b118_64 hG ..).trans ?_
    rw [rgI c3 hF2_7, bind_s, hm, show zi E + 1 = zi (E + 1) from zi_add E 1, pc39 hC, bind_s]
    exact b118_74 hG ..
  rw [s1, c119 hG hC hw n34, bind_s, as_I, bind_s]
  by_cases hw3 : 3 ≤ w
  · rw [if_pos hw3, decide_eq_true hw3, show decide (bz true = 0) = false from rfl, cnd_f, gc35 hC, bind_s, n35, rpI c3 hF2_9 (by omega), bind_s, pc35 hC, bind_s, b118_74 hG]
    refine ⟨_, _, _, rfl, ?_, CRf_trans (CRf_trans fr1 (CRf_910 c1 (Or.inl rfl))) CRf_41⟩
    have mo : ∀ a, a ≠ 41 → a ≠ mr (43 + 9 * r) p → up2 (up2 m1 (mr (43 + 9 * r) p) 9 (zi (sp + 1))) 41 35 0 a = mi a := fun a h1 h2 => by rw [up2_n _ _ h1, up2_n _ _ h2, m41 _ h1]
    have h41 : ∀ f, f ≠ 35 → up2 (up2 m1 (mr (43 + 9 * r) p) 9 (zi (sp + 1))) 41 35 0 41 f = m1 41 f := fun f hf => by rw [up2_s, up1_n _ _ hf, up2_n _ _ (by omega)]
    refine RC_o hW hQ hp mo hFs g8 ⟨(h41 34 (by decide)).trans n34, by rw [up2_s, up1_s]; rfl, (h41 36 (by decide)).trans n36, (h41 37 (by decide)).trans n37, (h41 33 (by decide)).trans n33⟩ g6 ((h41 39 (by decide)).trans n39) (fun j => by rw [es1, cf_1]) (by rw [es1, lps_1]) (fun j => by rw [es1, ef_1]) (fun h3 => ?_)
    rw [es1, EC_1]
    exact ⟨by rw [up2_n _ _ (by omega), up2_s, up1_s], EC_o hW hQ i1 (Nat.le_refl _) hp mo (f5 h3)⟩
  rw [if_neg hw3, decide_eq_false hw3, show decide (bz false = 0) = true from rfl, cnd_t, gc34 hC, bind_s, n34]
  have hw012 : w = 0 ∨ w = 1 ∨ w = 2 := by omega
  rcases hw012 with hw0 | hw0 | hw0
  · rw [if_neg (by omega), if_neg (by omega), hw0, show decide (zi 0 = (1 : Int32)) = false from by decide, cnd_f, bind_s, show decide (zi 0 ≠ (2 : Int32)) = true from by decide, cnd_t, b118_74 hG]
    rw [hw0] at n34 g8 f5
    refine ⟨_, _, _, rfl, ?_, fr1⟩
    exact RC_o hW hQ hp (fun a h1 _ => m41 a h1) hFs g8 ⟨n34, n35, n36, n37, n33⟩ g6 n39 (fun j => by rw [es1, cf_1]) (by rw [es1, lps_1]) (fun j => by rw [es1, ef_1]) (fun h3 => absurd h3 (by decide))
  · rw [if_neg (by omega), if_pos hw0, hw0, show decide (zi 1 = (1 : Int32)) = true from by decide, cnd_t, s64 m1 (by rw [m41 _ (by omega)]; exact h7)]
    rw [hw0] at n34 g8 f5
    refine ⟨_, _, _, rfl, ?_, CRf_trans fr1 CRf_41⟩
    have h41 : ∀ f, f ≠ 39 → up2 m1 41 39 (zi (E + 1)) 41 f = m1 41 f := fun f hf => by rw [up2_s, up1_n _ _ hf]
    exact RC_o hW hQ hp (fun a h1 _ => by rw [up2_n _ _ h1]; exact m41 a h1) hFs g8 ⟨(h41 34 (by decide)).trans n34, (h41 35 (by decide)).trans n35, (h41 36 (by decide)).trans n36, (h41 37 (by decide)).trans n37, (h41 33 (by decide)).trans n33⟩ g6 (by rw [up2_s, up1_s]) (fun j => by rw [es2, cf_2]) (by rw [es2, lps_2]) (fun j => by rw [es2, ef_2]) (fun h3 => absurd h3 (by decide))
  · rw [if_pos hw0, hw0, show decide (zi 2 = (1 : Int32)) = false from by decide, cnd_f, bind_s, show decide (zi 2 ≠ (2 : Int32)) = false from by decide, cnd_f, hb8, cnd_t, c120 hG hC n33, bind_s, as_I, bind_s]
    rw [hw0] at n34 g8 f5
    have h41 : ∀ f, f ≠ 33 → up2 m1 41 33 (lotN z) 41 f = m1 41 f := fun f hf => by rw [up2_s, up1_n _ _ hf]
    cases hl : lot2 (lotN z)
    · rw [cnd_f, show decide (bz false = 0) = true from rfl, cnd_t, b118_74 hG]
      refine ⟨_, _, _, rfl, ?_, CRf_trans fr1 CRf_41⟩
      exact RC_o hW hQ hp (fun a h1 _ => by rw [up2_n _ _ h1]; exact m41 a h1) hFs g8 ⟨(h41 34 (by decide)).trans n34, (h41 35 (by decide)).trans n35, (h41 36 (by decide)).trans n36, (h41 37 (by decide)).trans n37, by rw [up2_s, up1_s]⟩ g6 ((h41 39 (by decide)).trans n39) (fun j => by rw [es1, cf_1]) (by rw [es1, lps_1]) (fun j => by rw [es1, ef_1]) (fun h3 => absurd h3 (by decide))
    · rw [cnd_t, show decide (bz true = 0) = false from rfl, cnd_f, s64 _ (by rw [up2_n _ _ (by omega), m41 _ (by omega)]; exact h7)]
      refine ⟨_, _, _, rfl, ?_, CRf_trans (CRf_trans fr1 CRf_41) CRf_41⟩
      have h41' : ∀ f, f ≠ 39 → up2 (up2 m1 41 33 (lotN z)) 41 39 (zi (E + 1)) 41 f = up2 m1 41 33 (lotN z) 41 f := fun f hf => by rw [up2_s, up1_n _ _ hf]
      exact RC_o hW hQ hp (fun a h1 _ => by rw [up2_n _ _ h1, up2_n _ _ h1]; exact m41 a h1) hFs g8 ⟨(h41' 34 (by decide)).trans ((h41 34 (by decide)).trans n34), (h41' 35 (by decide)).trans ((h41 35 (by decide)).trans n35), (h41' 36 (by decide)).trans ((h41 36 (by decide)).trans n36), (h41' 37 (by decide)).trans ((h41 37 (by decide)).trans n37), (h41' 33 (by decide)).trans (by rw [up2_s, up1_s])⟩ g6 (by rw [up2_s, up1_s]) (fun j => by rw [es2, cf_2]) (by rw [es2, lps_2]) (fun j => by rw [es2, ef_2]) (fun h3 => absurd h3 (by decide))