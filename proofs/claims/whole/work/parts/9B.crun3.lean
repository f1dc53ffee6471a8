/-! the class: runs: one step -/
theorem FsC_mvA {Q : Pg} {w : Nat} {mi mi' : Nat → Nat → Int32} {ml ml' : Nat → Nat → Int64} {mr mr' : Nat → Nat → Nat} (hW : WP Q) (h : ∀ r, r < 8 → ml' (49 + 9 * r) = ml (49 + 9 * r) ∧ ml' (50 + 9 * r) = ml (50 + 9 * r) ∧ mr' (42 + 9 * r) 31 = mr (42 + 9 * r) 31 ∧ mi' (42 + 9 * r) 32 = mi (42 + 9 * r) 32 ∧ ∀ q, q < qn Q r → mi' (mr' (43 + 9 * r) q) 9 = mi (mr (43 + 9 * r) q) 9 ∧ mi' (mr' (43 + 9 * r) q) 10 = mi (mr (43 + 9 * r) q) 10) : ∀ {R : List Fr}, FsI Q R → FsC Q w mi ml mr R → FsC Q w mi' ml' mr' R
  | [], _, _ => trivial
  | (r, p, x0, x1, L) :: R, hi, hh => by
    obtain ⟨⟨i1, i2, i3, i4, i5⟩, -, i7⟩ := hi
    obtain ⟨g1, g2, g3, g4, g5⟩ := h r i1
    obtain ⟨⟨f1, f2, f3, f4, f5⟩, f6, f7⟩ := hh
    have hlt := stk_lt (WF_le (hW.2.2.2.1 r) i3)
    refine ⟨⟨by rw [g1]; exact f1, by rw [g1]; exact f2, fun j hj => by rw [g1]; exact f3 j hj, fun j hj => by rw [g2]; exact f4 j hj, fun h3 => EC_mv (fun q hq => g5 q.1 (by have := hlt q hq; omega)) (f5 h3)⟩, ?_, FsC_mvA hW h i7 f7⟩
    cases R with
    | nil => rw [g3]; exact f6
    | cons f R =>
      obtain ⟨r', q', y0, y1, L'⟩ := f
      exact ⟨g3.trans f6.1, g4.trans f6.2⟩
/-- only the runner's own numbers have changed -/
theorem FsC_41 {Q : Pg} {w N : Nat} {s mi mi'} {ml : Nat → Nat → Int64} {mr mr' : Nat → Nat → Nat} (hW : WP Q) (hQ : CQ Q N s mi mr) (hm : ∀ a, a ≠ 41 → mi' a = mi a) (hr : ∀ a, a ≠ 41 → mr' a = mr a) {R : List Fr} (hi : FsI Q R) (h : FsC Q w mi ml mr R) : FsC Q w mi' ml mr' R := FsC_mvA hW (fun r hr8 => ⟨rfl, rfl, by rw [hr _ (by omega)], by rw [hm _ (by omega)], fun q hq => by
  have c1 := ((hQ.2.1 r hr8).2.2.2.2.2.1 q hq).1
  rw [hr _ (by omega), hm _ (by omega)]
  exact ⟨rfl, rfl⟩⟩) hi h
/-- the routine's end -/
theorem c110e {G : AG} (hG : FIX G) {s : Nat → Nat × Nat} {mr : Nat → Nat → Nat} (hC : CS s mr) {n : Nat × Nat} {Q : Pg} {N w t r x0 x1 sp k : Nat} {z : Int32} {L : List En} {R : List Fr} {mi : Nat → Nat → Int32} {ml : Nat → Nat → Int64} (hW : WP Q) (hQ : CQ Q N s mi mr) (hI : IA Q t ((r, qn Q r, x0, x1, L) :: R, sp, k, z)) (hR : RC Q w mi ml mr ((r, qn Q r, x0, x1, L) :: R, sp, k, z)) :
    ∃ mi' ml' mr', G 110 0 [some (.inr (.inr 41)), some (.inr (.inr (42 + 9 * r))), none, none, none, none, none] [] (s, n, mi, ml, mr) = some (none, (s, n, mi', ml', mr')) ∧ PC Q w mi' ml' mr' (stA Q w ((r, qn Q r, x0, x1, L) :: R, sp, k, z)) ∧ CRf mi mi' ml ml' mr mr' := by
  obtain ⟨⟨i1, i2, i3, i4, i5⟩, i6, i7⟩ := hI.1
  obtain ⟨⟨g1, g2, g3, g4, g5⟩, ⟨g6, g7⟩, g8⟩ := hR
  have h24 : qn Q r ≤ 24 := hW.2.1 r
  have h23 := (hQ.2.1 r i1).2.1
  have hb7 : Nat.beq (s (42 + 9 * r)).1 7 = true := by rw [kc42 hC i1]; rfl
  have e18 := c18_f hG hC (n := n) (ml := ml) (x := zi (qn Q r)) i1 h23 h24 (by rw [isN_zi (by omega)]; exact decide_eq_false (by omega))
  have st : G 110 0 [some (.inr (.inr 41)), some (.inr (.inr (42 + 9 * r))), none, none, none, none, none] [] (s, n, mi, ml, mr) = some (none, (s, n, up2 mi 41 39 (mi (42 + 9 * r) 32), ml, up2 mr 41 38 (mr (42 + 9 * r) 31))) := by
    refine (b110_0 hG ..).trans ?_
    rw [gc39 hC, bind_s, g7, hb7, cnd_t, e18, bind_s, as_R, bind_s, Nat.beq_refl, Bool.not_true, cnd_f, gc32 hC i1, bind_s, pc39 hC, bind_s, gc31 hC i1, bind_s, pc38 hC, bind_s]
    exact b110_167 hG ..
  have fr : CRf mi (up2 mi 41 39 (mi (42 + 9 * r) 32)) ml ml mr (up2 mr 41 38 (mr (42 + 9 * r) 31)) := ⟨(CRf_41 (ml := ml) (mr := mr)).1, (CRf_41 (ml := ml) (mr := mr)).2.1, (CRf_41 (ml := ml) (mr := mr)).2.2.1, fun _ _ => rfl, fun a h1 _ => up2_n _ _ h1, fun r hr f hf => by rw [up2_n _ _ (by omega)]⟩
  refine ⟨_, _, _, st, ?_, fr⟩
  cases R with
  | nil =>
    rw [stA_0 rfl]
    refine ⟨by rw [up2_s, up1_n _ _ (by decide)]; exact g5, Or.inl ⟨?_, by rw [up2_s, up1_n _ _ (by decide)]; exact g2⟩⟩
    rw [up2_s, up1_s]; exact g8.2.1
  | cons f R =>
    obtain ⟨r', q', y0, y1, L'⟩ := f
    rw [stA_0c rfl]
    obtain ⟨c1, c2, c3⟩ := i6
    obtain ⟨f1, ⟨f2, f3⟩, f4⟩ := g8
    have es : stk (qk Q r') (q' + 1) = stk (qk Q r') q' := by show stq (qk Q r' q') q' _ = _; rw [c2, stq_4]
    have h2 := FsC_41 (mi' := up2 mi 41 39 (mi (42 + 9 * r) 32)) (mr' := up2 mr 41 38 (mr (42 + 9 * r) 31)) hW hQ (fun a ha => up2_n _ _ ha) (fun a ha => up2_n _ _ ha) i7 f4
    refine ⟨⟨by rw [up2_s, up1_n _ _ (by decide)]; exact g1, by rw [up2_s, up1_n _ _ (by decide)]; exact g2, by rw [up2_s, up1_n _ _ (by decide)]; exact g3, by rw [up2_s, up1_n _ _ (by decide)]; exact g4, by rw [up2_s, up1_n _ _ (by decide)]; exact g5⟩, ⟨by rw [up2_s, up1_s]; exact f2, by rw [up2_s, up1_s]; exact f3⟩, ?_⟩
    obtain ⟨⟨d1, d2, d3, d4, d5⟩, d6, d7⟩ := h2
    exact ⟨⟨d1, d2, by rw [es]; exact d3, by rw [es]; exact d4, by rw [es]; exact d5⟩, d6, d7⟩
/-- WORK -/
theorem c110w {G : AG} (hG : FIX G) {s : Nat → Nat × Nat} {mr : Nat → Nat → Nat} (hC : CS s mr) {n : Nat × Nat} {Q : Pg} {N w t r p x0 x1 sp k : Nat} {z : Int32} {L : List En} {R : List Fr} {mi : Nat → Nat → Int32} {ml : Nat → Nat → Int64} (hW : WP Q) (hQ : CQ Q N s mi mr) (hI : IA Q t ((r, p, x0, x1, L) :: R, sp, k, z)) (hR : RC Q w mi ml mr ((r, p, x0, x1, L) :: R, sp, k, z)) (hp : p < qn Q r) (hk : qk Q r p = 1) :
    ∃ mi' ml' mr', G 110 0 [some (.inr (.inr 41)), some (.inr (.inr (42 + 9 * r))), none, none, none, none, none] [] (s, n, mi, ml, mr) = some (none, (s, n, mi', ml', mr')) ∧ PC Q w mi' ml' mr' (stA Q w ((r, p, x0, x1, L) :: R, sp, k, z)) ∧ CRf mi mi' ml ml' mr mr' := by
  obtain ⟨⟨i1, i2, i3, i4, i5⟩, i6, i7⟩ := hI.1
  obtain ⟨⟨g1, g2, g3, g4, g5⟩, ⟨g6, g7⟩, g8⟩ := hR
  have h24 : qn Q r ≤ 24 := hW.2.1 r
  have hCR := hQ.2.1 r i1
  have h23 := hCR.2.1
  obtain ⟨c1, c2, c3, c4, c5, c6, c7, c8, -⟩ := hCR.2.2.2.2.2.1 p hp
  have c8' := c8 hk
  rw [hk] at c3
  have hb7 : Nat.beq (s (42 + 9 * r)).1 7 = true := by rw [kc42 hC i1]; rfl
  have e18 := c18_t hG hC (n := n) (ml := ml) i1 h23 h24 hp
  have ho0 : Nat.beq (mr (43 + 9 * r) p) 0 = false := nbeq_f (by omega)
  have t10 : ([10].any (Nat.beq (s (mr (43 + 9 * r) p)).1)) = true := by rw [c3]; rfl
  refine ⟨up2 (up2 mi 41 35 (zi (sp + qw Q r p))) 41 39 (zi (p + 1)), ml, mr, ?_, ?_, CRf_trans CRf_41 CRf_41⟩
  · refine (b110_0 hG ..).trans ?_
    rw [gc39 hC, bind_s, g7, hb7, cnd_t, e18, bind_s, as_R, bind_s, ho0, Bool.not_false, cnd_t]
    simp only [cnd_f, t10, cnd_t, bind_s, Bool.or_true]
    rw [show decide ((1 : Int32) = 0) = false from by decide, cnd_f, gc35 hC, bind_s, g2, rgI c3 hF10_42, bind_s, c8', zi_add, pc35 hC, bind_s, gc39 hC, bind_s, up2_s, up1_n _ _ (by decide), g7, show zi p + 1 = zi (p + 1) from zi_add p 1, pc39 hC, bind_s]
    exact b110_167 hG ..
  · rw [stA_1 hp hk]
    have es : stk (qk Q r) (p + 1) = stk (qk Q r) p := by show stq (qk Q r p) p _ = _; rw [hk, stq_1]
    obtain ⟨⟨d1, d2, d3, d4, d5⟩, d6, d7⟩ := FsC_41 (mi' := up2 (up2 mi 41 35 (zi (sp + qw Q r p))) 41 39 (zi (p + 1))) (mr' := mr) hW hQ (fun a ha => by rw [up2_n _ _ ha, up2_n _ _ ha]) (fun a ha => rfl) hI.1 g8
    refine ⟨⟨by rw [up2_s, up1_n _ _ (by decide), up2_s, up1_n _ _ (by decide)]; exact g1, by rw [up2_s, up1_n _ _ (by decide), up2_s, up1_s], by rw [up2_s, up1_n _ _ (by decide), up2_s, up1_n _ _ (by decide)]; exact g3, by rw [up2_s, up1_n _ _ (by decide), up2_s, up1_n _ _ (by decide)]; exact g4, by rw [up2_s, up1_n _ _ (by decide), up2_s, up1_n _ _ (by decide)]; exact g5⟩, ⟨g6, by rw [up2_s, up1_s]⟩, ?_⟩
    exact ⟨⟨d1, d2, by rw [es]; exact d3, by rw [es]; exact d4, by rw [es]; exact d5⟩, d6, d7⟩