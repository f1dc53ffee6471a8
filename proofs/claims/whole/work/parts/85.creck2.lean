/-! the class: reckon: each op -/
/-- below an entry lies the stack as it was when it came -/
def TLs (K : Nat → Nat) : List (Nat × Nat) → Prop
  | [] => True
  | q :: T => stk K q.1 = T ∧ TLs K T
theorem stk_tls {K : Nat → Nat} : ∀ {p : Nat}, WF K p → TLs K (stk K p)
  | 0, _ => trivial
  | p + 1, hW => by
    have ih := stk_tls (WF_le hW (Nat.le_succ p))
    have e0 : stk K (p + 1) = stq (K p) p (stk K p) := rfl
    rw [e0]
    rcases stq_ok (p := p) (hW p (Nat.lt_succ_self p)) with ⟨-, e⟩ | ⟨-, e⟩ | ⟨-, e⟩ | ⟨q, T, hS, -, e⟩ | ⟨q, T, hS, -, e⟩ | ⟨q, T, hS, -, e⟩ <;> rw [e]
    · exact ih
    · exact ⟨rfl, ih⟩
    · exact ⟨rfl, ih⟩
    · rw [hS] at ih; exact ih.2
    · rw [hS] at ih; exact ⟨ih.1, ih.2⟩
    · rw [hS] at ih; exact ih.2
theorem stk_lps {K : Nat → Nat} {p : Nat} (hW : WF K p) (q : Nat) {k : Nat} (T : List (Nat × Nat)) (h : stk K p = (q, k) :: T) : lps (stk K q) = lps T := by
  have := stk_tls hW
  rw [h] at this
  rw [this.1]
/-- what is known of a routine's formula: its standing, and the formula itself -/
def KS (mi : Nat → Nat → Int32) (ml : Nat → Nat → Int64) (sd r : Nat) (F : Option Po) : Prop := (F = none ∧ mi (48 + 9 * r) sd = -1000003) ∨ ∃ W, F = some W ∧ mi (48 + 9 * r) sd = zi 1 ∧ CF (46 + 9 * r + sd) W ml ∧ vlt 2 W
theorem c71k {G : AG} (hG : FIX G) {s : Nat → Nat × Nat} {mr : Nat → Nat → Nat} (hC : CS s mr) {n : Nat × Nat} {mi : Nat → Nat → Int32} {Q : Pg} {N : Nat} (hQ : CQ Q N s mi mr) (hW : WP Q) {r sd p : Nat} {tp : Int32} {ml : Nat → Nat → Int64} (hr : r < 8) (hp : p < qn Q r) (o4 o5 o6 o7 o8 : Option AV) (h5 : noR o5) :
    (qk Q r p = 4 → G 71 21 (l71 r sd p o4 o5 o6 o7 o8) [] (s, n, rk3 mi (zi sd) tp false, ml, mr) = (G 75 0 [some (.inr (.inr 10)), some (.inr (.inr (mr (43 + 9 * r) p))), none, none, none, none] [] (s, n, rk3 mi (zi sd) tp false, ml, mr)).bind fun u10 => (asV u10.1).bind fun _ => G 71 175 (l71 r sd p (some (.inr (.inr (mr (43 + 9 * r) p)))) o5 (some (.inr (.inr (mr (43 + 9 * r) p)))) o7 o8) [] u10.2) ∧
    (qk Q r p = 8 → G 71 21 (l71 r sd p o4 o5 o6 o7 o8) [] (s, n, rk3 mi (zi sd) tp false, ml, mr) = (G 83 0 [some (.inr (.inr 10)), none, none, none] [] (s, n, rk3 mi (zi sd) tp false, ml, mr)).bind fun u8 => (asV u8.1).bind fun _ => G 71 175 (l71 r sd p (some (.inr (.inr (mr (43 + 9 * r) p)))) o5 o6 o7 o8) [] u8.2) := by
  have h24 : qn Q r ≤ 24 := hW.2.1 r
  have hQ' := CQ_rk3 (sd := zi sd) (tp := tp) (b := false) hQ hW
  have hR := hQ'.2.1 r hr
  have h23 := hR.2.1
  obtain ⟨c1, c2, c3, c4, -⟩ := hR.2.2.2.2.2.1 p hp
  obtain ⟨o, ho⟩ : ∃ o, o = mr (43 + 9 * r) p := ⟨_, rfl⟩
  rw [← ho] at c1 c2 c3 c4
  have e18 := c18_t hG hC (n := n) (ml := ml) hr h23 h24 hp
  rw [← ho] at e18 ⊢
  have hb7 : Nat.beq (s (42 + 9 * r)).1 7 = true := by rw [kc42 hC hr]; rfl
  have hb6 : Nat.beq (s 10).1 6 = true := by rw [kc10 hC]; rfl
  have ho0 : Nat.beq o 0 = false := nbeq_f (by omega)
  refine ⟨fun hk => ?_, fun hk => ?_⟩
  · have hsk : (s o).1 = 1 := by rw [c3, hk]; rfl
    have t10 : ([10].any (Nat.beq (s o).1)) = false := by rw [hsk]; rfl
    have t14 : ([1, 2, 3, 4].any (Nat.beq (s o).1)) = true := by rw [hsk]; rfl
    have t1 : ([1].any (Nat.beq (s o).1)) = true := by rw [hsk]; rfl
    refine (b71_21 hG _ _ _ _ _ _ _ _ _ h5 _).trans ?_
    rw [gc23 hC hr, bind_s, h23, decide_eq_false (by rw [zi_le (by omega) (by omega)]; omega : ¬ zi (qn Q r) ≤ zi p), cnd_f, gc20 hC, bind_s, rk3_20, show decide (bz false ≠ 0) = false from rfl, cnd_f, hb7, cnd_t, e18, bind_s, as_R, bind_s]
    simp only [ho0, t10, t14, t1, cnd_f, cnd_t, bind_s, decide_true, Bool.or_true, hb6]
    rw [show decide ((1 : Int32) = 0) = false from by decide, cnd_f]
  · have hsk : (s o).1 = 4 := by rw [c3, hk]; rfl
    have t10 : ([10].any (Nat.beq (s o).1)) = false := by rw [hsk]; rfl
    have t14 : ([1, 2, 3, 4].any (Nat.beq (s o).1)) = true := by rw [hsk]; rfl
    have t1 : ([1].any (Nat.beq (s o).1)) = false := by rw [hsk]; rfl
    have t2 : ([2, 3, 4, 10].any (Nat.beq (s o).1)) = true := by rw [hsk]; rfl
    refine (b71_21 hG _ _ _ _ _ _ _ _ _ h5 _).trans ?_
    rw [gc23 hC hr, bind_s, h23, decide_eq_false (by rw [zi_le (by omega) (by omega)]; omega : ¬ zi (qn Q r) ≤ zi p), cnd_f, gc20 hC, bind_s, rk3_20, show decide (bz false ≠ 0) = false from rfl, cnd_f, hb7, cnd_t, e18, bind_s, as_R, bind_s]
    simp only [ho0, t10, t14, t1, t2, cnd_f, cnd_t, bind_s, decide_true]
    rw [opF1 c3, bind_s, c4, hk, show decide (zi 8 ≠ (8 : Int32)) = false from by decide, cnd_f, hb6, cnd_t]
theorem c71w {G : AG} (hG : FIX G) {s : Nat → Nat × Nat} {mr : Nat → Nat → Nat} (hC : CS s mr) {n : Nat × Nat} {mi : Nat → Nat → Int32} {Q : Pg} {N : Nat} (hQ : CQ Q N s mi mr) (hW : WP Q) {r sd p tp : Nat} {T : Po} {ml : Nat → Nat → Int64} (hr : r < 8) (hp : p < qn Q r) (hk : qk Q r p = 1) (ht : tp < 18) (hg : gdn T 252 = true) (hT : CPo (21 + tp) T ml) (o4 o5 o6 o7 o8 : Option AV) (h5 : noR o5) :
    ∃ ml', G 71 21 (l71 r sd p o4 o5 o6 o7 o8) [] (s, n, rk3 mi (zi sd) (zi tp) false, ml, mr) = G 71 175 (l71 r sd p (some (.inr (.inr (mr (43 + 9 * r) p)))) (some (.inr (.inr (mr (43 + 9 * r) p)))) o6 o7 o8) [] (s, n, rk3 mi (zi sd) (zi tp) (!(gdn (cst (qw Q r p)) 252 && gdn (pad T (cst (qw Q r p))) 252)), ml', mr) ∧ CPo (21 + tp) (pad T (cst (qw Q r p))) ml' ∧ OW tp ml ml' := by
  have h24 : qn Q r ≤ 24 := hW.2.1 r
  have hQ' := CQ_rk3 (sd := zi sd) (tp := zi tp) (b := false) hQ hW
  have hR := hQ'.2.1 r hr
  have h23 := hR.2.1
  obtain ⟨c1, c2, c3, c4, c5, c6, c7, c8, -⟩ := hR.2.2.2.2.2.1 p hp
  have hw := hW.2.2.2.2.1 r p hp hk
  have c8' := c8 hk
  obtain ⟨o, ho⟩ : ∃ o, o = mr (43 + 9 * r) p := ⟨_, rfl⟩
  rw [← ho] at c1 c2 c3 c4 c8'
  rw [hk] at c3
  have e18 := c18_t hG hC (n := n) (ml := ml) hr h23 h24 hp
  rw [← ho] at e18 ⊢
  have hb7 : Nat.beq (s (42 + 9 * r)).1 7 = true := by rw [kc42 hC hr]; rfl
  have hb6 : Nat.beq (s 10).1 6 = true := by rw [kc10 hC]; rfl
  have ho0 : Nat.beq o 0 = false := nbeq_f (by omega)
  have t10 : ([10].any (Nat.beq (s o).1)) = true := by rw [c3]; rfl
  have e74 := c74 hG hC (n := n) (mi := up2 (up2 mi 10 19 (zi sd)) 10 16 (zi tp)) (a := 21 + tp) (i := 0) (b := false) (v := (zi (qw Q r p)).toInt64 * 8640) (ml := ml) (csW hC tp ht) (by omega) (by decide)
  rw [cst_good (by omega) hg]
  have hv : (zi (qw Q r p)).toInt64 * 8640 = 8640 * zl (qw Q r p) := by rw [zi_64 (by omega), Int64.mul_comm]
  have h0 : ml (21 + tp) 0 = T 0 := hT 0 (by decide)
  rw [hv, h0, Bool.false_or] at e74
  refine ⟨up2 ml (21 + tp) 0 (T 0 + 8640 * zl (qw Q r p)), ?_, fun q hq => ?_, OW_OF OF_up (by omega)⟩
  · refine (b71_21 hG _ _ _ _ _ _ _ _ _ h5 _).trans ?_
    rw [gc23 hC hr, bind_s, h23, decide_eq_false (by rw [zi_le (by omega) (by omega)]; omega : ¬ zi (qn Q r) ≤ zi p), cnd_f, gc20 hC, bind_s, rk3_20, show decide (bz false ≠ 0) = false from rfl, cnd_f, hb7, cnd_t, e18, bind_s, as_R, bind_s]
    simp only [ho0, t10, cnd_f, cnd_t, bind_s, Bool.or_true, hb6]
    rw [show decide ((1 : Int32) = 0) = false from by decide, cnd_f, gc15 hC, bind_s, gc16 hC, bind_s, rk3_16, ac20 hC ht, bind_s, rgI c3 hF10_42, bind_s, c8', hv]
    rw [show rk3 mi (zi sd) (zi tp) false = up2 (up2 (up2 mi 10 19 (zi sd)) 10 16 (zi tp)) 10 20 (bz false) from rfl, show (0 : Int32) = zi 0 from rfl, e74, bind_s, as_V, bind_s]
    rfl
  · rw [up2_s]
    show _ = T (pq q) + (if pq q = 0 then 8640 * zl (qw Q r p) else 0)
    by_cases e : q = 0
    · rw [e, up1_s, show pq 0 = 0 from rfl, if_pos rfl]
    · rw [up1_n _ _ e, if_neg (fun hc : pq q = 0 => e (pq_inj hq (by decide : (0 : Nat) < 252) hc)), Int64.add_zero]
      exact hT q hq
theorem c71S {G : AG} (hG : FIX G) {s : Nat → Nat × Nat} {mr : Nat → Nat → Nat} (hC : CS s mr) {n : Nat × Nat} {mi : Nat → Nat → Int32} (hT : CTab mi) {Q : Pg} {N : Nat} (hQ : CQ Q N s mi mr) (hW : WP Q) {r sd p : Nat} {F : Nat → Option Po} {R : List Po} {ml : Nat → Nat → Int64} (hr : r < 8) (hs : sd < 2) (hp : p < qn Q r) (h0 : stk (qk Q r) (qn Q r) = [])
    (hF : qk Q r p = 4 → KS mi ml sd (qd Q r p) (F (qd Q r p))) (hl0 : R.length = 1 + rc (stk (qk Q r) p)) (hRV : RV (dps (stk (qk Q r) p)) R) (hR : CW R ml) (o4 o5 o6 o7 o8 : Option AV) (h5 : noR o5) (h6 : noR o6) (h7 : noR o7) :
    ∃ ml' tp' b' p4 p5 p6 p7 p8, G 71 21 (l71 r sd p o4 o5 o6 o7 o8) [] (s, n, rk3 mi (zi sd) (zi (rc (stk (qk Q r) p))) false, ml, mr) = G 71 21 (l71 r sd (p + 1) p4 p5 p6 p7 p8) [] (s, n, rk3 mi (zi sd) tp' b', ml', mr) ∧ noR p5 ∧ noR p6 ∧ noR p7 ∧ OW 0 ml ml' ∧
      ((sfp sd (qk Q r p) (qw Q r p) (qt Q r p) (qt Q r (hdp (stk (qk Q r) p))) (F (qd Q r p)) (lps (stk (qk Q r) p)) R = none ∧ b' = true) ∨ ∃ R', sfp sd (qk Q r p) (qw Q r p) (qt Q r p) (qt Q r (hdp (stk (qk Q r) p))) (F (qd Q r p)) (lps (stk (qk Q r) p)) R = some R' ∧ b' = false ∧ tp' = zi (rc (stk (qk Q r) (p + 1))) ∧ CW R' ml') := by
  have h24 : qn Q r ≤ 24 := hW.2.1 r
  have hWF := hW.2.2.2.1 r
  have hWp := WF_le hWF (Nat.le_of_lt hp)
  have hrc := rc_16 hWF h0 h24 (Nat.le_of_lt hp)
  have hrc' := rc_16 hWF h0 h24 (by omega : p + 1 ≤ qn Q r)
  have hl3 := lps_3 hWp
  have hlt := stk_lt hWp
  have hCR := hQ.2.1 r hr
  have hCO := hCR.2.2.2.2.2.1 p hp
  have hd6 : 6 ≤ qk Q r p → hdp (stk (qk Q r) p) < p := fun h => hdp_lt hWF hp h
  have e0 : stk (qk Q r) (p + 1) = stq (qk Q r p) p (stk (qk Q r) p) := rfl
  have hok := hWF p hp
  have c71o' := fun tp => c71o hG hC (n := n) (sd := sd) (tp := tp) (ml := ml) hQ hW hr hp
  have c71k' := c71k hG hC (n := n) (sd := sd) (tp := zi (rc (stk (qk Q r) p))) (ml := ml) hQ hW hr hp o4 o5 o6 o7 o8 h5
  rw [e0] at hrc' ⊢
  obtain ⟨S, hS⟩ : ∃ S, S = stk (qk Q r) p := ⟨_, rfl⟩
  rw [← hS] at hl0 hRV hrc hrc' hl3 hlt hok hd6 c71k' ⊢
  obtain ⟨P, R, rfl⟩ : ∃ P R0, R = P :: R0 := by
    cases R with
    | nil => rw [List.length_nil] at hl0; omega
    | cons P R0 => exact ⟨P, R0, rfl⟩
  rw [List.length_cons] at hl0
  have hl0' : R.length = rc S := by omega
  obtain ⟨D, hD⟩ := dps_hd S
  have hRV0 := hRV
  rw [hD] at hRV0
  have hgP := hRV0.2.1
  have hvP := hRV0.1
  have hP0 : CPo (21 + rc S) P ml := by have := hR.1; rw [hl0'] at this; exact this
  have push : (qk Q r p = 3 ∨ qk Q r p = 5 ∨ qk Q r p = 7) → rc (stq (qk Q r p) p S) = rc S + 1 → ∃ ml' tp' b' p4 p5 p6 p7 p8, G 71 21 (l71 r sd p o4 o5 o6 o7 o8) [] (s, n, rk3 mi (zi sd) (zi (rc S)) false, ml, mr) = G 71 21 (l71 r sd (p + 1) p4 p5 p6 p7 p8) [] (s, n, rk3 mi (zi sd) tp' b', ml', mr) ∧ noR p5 ∧ noR p6 ∧ noR p7 ∧ OW 0 ml ml' ∧ b' = false ∧ tp' = zi (rc (stq (qk Q r p) p S)) ∧ CW ((fun _ => 0) :: P :: R) ml' := by
    intro hk hrcq
    obtain ⟨x, p8, -, e1⟩ := c71o' (zi (rc S)) (by omega) o4 o5 o6 o7 o8 h5 h6 h7
    obtain ⟨m1, e2, z1, z2⟩ := c72 hG hC (n := n) (mi := mi) (sd := zi sd) (tp := zi (rc S)) (b := false) (nt := rc S + 1) (ml := ml) (zi_add _ 1) (by omega)
    refine ⟨m1, zi (rc S + 1), false, some (.inr (.inr x)), o5, o6, o7, p8, ?_, h5, h6, h7, OW_OF z2 (by omega), rfl, by rw [hrcq], ?_, CW_mv hR (OW_OF (k := rc S + 1) z2 (by omega)) (by rw [List.length_cons]; omega) (by omega)⟩
    · rw [e1 (by omega), e2, bind_s, as_V, bind_s]
      exact c71n hG hC _ _ _ _ _
    · rw [List.length_cons, hl0']; exact z1
  rcases hok with hk | ⟨hk, hl⟩ | hk | hk | ⟨hk, q, T, hq⟩ | ⟨hk, q, T, hq⟩ | ⟨hk, q, T, hq⟩
  · obtain ⟨m1, e1, z1, z2⟩ := c71w hG hC (n := n) (sd := sd) hQ hW hr hp hk (by omega : rc S < 18) hgP hP0 o4 o5 o6 o7 o8 h5
    refine ⟨m1, zi (rc S), _, _, _, o6, o7, o8, e1.trans (c71n hG hC _ _ _ _ _), noR_R _, h6, h7, OW_mono z2 (Nat.zero_le _), ?_⟩
    rw [hk, sfp_c, if_pos rfl, stq_1]
    unfold jn
    cases hb : (gdn (cst (qw Q r p)) 252 && gdn (pad P (cst (qw Q r p))) 252)
    · exact Or.inl ⟨rfl, rfl⟩
    · refine Or.inr ⟨_, rfl, rfl, rfl, ?_, CW_mv hR.2 z2 (by omega) (by omega)⟩
      rw [hl0']; exact z1
  · obtain ⟨ml', tp', b', p4, p5, p6, p7, p8, e1, n5, n6, n7, f1, hb, ht, hcw⟩ := push (Or.inl hk) (by rw [hk, stq_3, rc_0]; omega)
    exact ⟨ml', tp', b', p4, p5, p6, p7, p8, e1, n5, n6, n7, f1, Or.inr ⟨_, by rw [hk]; rfl, hb, ht, hcw⟩⟩
  · obtain ⟨k1, k2, k3, k4, k5, k6, k7, k8, k9, k10, -⟩ := hCO
    obtain ⟨k10a, k10b⟩ := k10 hk
    have hd := hW.2.2.2.2.2.1 r p hp hk
    rw [hk] at k3
    rw [← hS] at k6
    have e1 := c71k'.1 hk
    rcases hF hk with ⟨hFn, hst⟩ | ⟨W, hFs, hst, hcf, hvW⟩
    · have e2 := c75_f hG hC (n := n) (mi := mi) (sd := sd) (tp := zi (rc S)) (ml := ml) (by omega : qd Q r p < 8) hs k3 k10b hst
      refine ⟨ml, zi (rc S), true, some (.inr (.inr (mr (43 + 9 * r) p))), o5, some (.inr (.inr (mr (43 + 9 * r) p))), o7, o8, ?_, h5, noR_R _, h7, OW_refl _ _, Or.inl ⟨?_, rfl⟩⟩
      · rw [e1, e2, bind_s, as_V, bind_s]
        exact c71n hG hC _ _ _ _ _
      · rw [hk, hFn]; rfl
    · obtain ⟨m1, e2, z1, z2⟩ := c75 hG hC hT (n := n) (sd := sd) (tp := rc S) (by omega : qd Q r p < 8) hs k3 k1 k10b k6 hl3 (k9 (Or.inr hk)) (fun q => hW.2.2.2.2.2.2 r p q) k10a (fun q => hW.2.2.2.2.2.2 r p (6 + q)) hst hcf hvW (by omega) hgP hP0
      refine ⟨m1, zi (rc S), !(gdn (ad0 (putP W (fun q => zl (qt Q r p q)) (fun q => zl (qt Q r p (6 + q))) (lps S))) 252 && gdn (pad P (ad0 (putP W (fun q => zl (qt Q r p q)) (fun q => zl (qt Q r p (6 + q))) (lps S)))) 252), some (.inr (.inr (mr (43 + 9 * r) p))), o5, some (.inr (.inr (mr (43 + 9 * r) p))), o7, o8, ?_, h5, noR_R _, h7, OW_mono z2 (Nat.zero_le _), ?_⟩
      · rw [e1, e2, bind_s, as_V, bind_s]
        exact c71n hG hC _ _ _ _ _
      · rw [hk, hFs, sfp_c, stq_4]
        simp only [Nat.reduceEqDiff, if_false, if_true]
        unfold jn
        obtain ⟨U, hU⟩ : ∃ U, U = ad0 (putP W (fun q => zl (qt Q r p q)) (fun q => zl (qt Q r p (6 + q))) (lps S)) := ⟨_, rfl⟩
        rw [← hU] at z1 ⊢
        cases hb : (gdn U 252 && gdn (pad P U) 252)
        · exact Or.inl ⟨rfl, rfl⟩
        · refine Or.inr ⟨_, rfl, rfl, trivial, ?_, CW_mv hR.2 z2 (by omega) (by omega)⟩
          rw [hl0']; exact z1
  · obtain ⟨ml', tp', b', p4, p5, p6, p7, p8, e1, n5, n6, n7, f1, hb, ht, hcw⟩ := push (Or.inr (Or.inl hk)) (by rw [hk, stq_5, rc_1]; omega)
    exact ⟨ml', tp', b', p4, p5, p6, p7, p8, e1, n5, n6, n7, f1, Or.inr ⟨_, by rw [hk]; rfl, hb, ht, hcw⟩⟩
  · obtain ⟨x, p8, e1, -⟩ := c71o' (zi (rc S)) (by omega) o4 o5 o6 o7 o8 h5 h6 h7
    have e1' := e1 hk
    rw [← hS] at e1'
    subst hq
    rw [rc_0] at hl0' hrc e1' hP0 ⊢
    cases R with
    | nil => rw [List.length_nil] at hl0'; omega
    | cons A R =>
      rw [List.length_cons] at hl0'
      have hq1 : q < p := hlt (q, 0) (List.mem_cons_self ..)
      have hlq : lps ((q, 0) :: T) = 1 + lps T := rfl
      rw [hlq] at hl3 hvP
      have eh : hdp ((q, 0) :: T) = q := rfl
      rw [eh] at e1'
      obtain ⟨k1, k2, k3, k4, k5, k6, k7, k8, k9, -⟩ := hCR.2.2.2.2.2.1 q (by omega)
      have hkq : qk Q r q = 3 := by
        have hent := (stk_inv hWp).2.1 (q, 0) (by rw [← hS]; exact List.mem_cons_self ..)
        rcases hent.2 with ⟨-, h⟩ | ⟨h, -⟩ | ⟨h, -⟩
        · exact h
        · exact absurd h (by show ¬ (0 : Nat) = 1; decide)
        · exact absurd h (by show ¬ (0 : Nat) = 2; decide)
      have hlpq : lps (stk (qk Q r) q) = lps T := stk_lps hWp q T hS.symm
      rw [hkq] at k3
      rw [hlpq] at k6
      have hA0 : CPo (21 + rc T) A ml := by have := hR.2.1; rw [show R.length = rc T by omega] at this; exact this
      have e2 : dps ((q, 0) :: T) = lps ((q, 0) :: T) :: dps T := rfl
      rw [e2] at hRV
      obtain ⟨D2, hD2⟩ := dps_hd T
      rw [hD2] at hRV
      have hgA := hRV.2.2.2.1
      obtain ⟨m1, b', e3, z1, z2, z3⟩ := c86 hG hC hT (n := n) (sd := zi sd) (tp := rc T) (d := lps T) k3 k1 k6 (by omega) (k9 (Or.inl hkq)) (fun x => hW.2.2.2.2.2.2 r q x) (by omega) hgA (by rw [show 3 + lps T = 2 + (1 + lps T) by omega]; exact hvP) hA0 (by rw [show 21 + (rc T + 1) = 21 + (1 + rc T) by omega]; exact hP0)
      rw [show rc T + 1 = 1 + rc T by omega] at e3
      refine ⟨m1, zi (rc T), b', some (.inr (.inr x)), o5, o6, some (.inr (.inr (mr (43 + 9 * r) q))), p8, ?_, h5, h6, noR_R _, OW_mono z3 (Nat.zero_le _), ?_⟩
      · rw [e1', e3, bind_s, as_V, bind_s]
        exact c71n hG hC _ _ _ _ _
      · rw [hk, stq_6, hlq, eh, sfp_c]
        simp only [Nat.reduceEqDiff, if_false, if_true, List.tail_cons, Nat.add_sub_cancel_left]
        unfold jn
        rw [z1] at z2 ⊢
        obtain ⟨U, hU⟩ : ∃ U, U = sumR (ad0 P) (qt Q r q) (lps T) := ⟨_, rfl⟩
        rw [← hU] at z2 ⊢
        cases hb1 : sumOk (ad0 P) (qt Q r q) (lps T)
        · exact Or.inl ⟨rfl, rfl⟩
        · rw [hb1] at z2
          cases hb2 : (gdn U 252 && gdn (pad A U) 252)
          · exact Or.inl ⟨rfl, rfl⟩
          · rw [hb2] at z2
            refine Or.inr ⟨_, rfl, rfl, trivial, ?_, CW_mv hR.2.2 z3 (by omega) (by omega)⟩
            rw [show R.length = rc T by omega]; exact z2 rfl
  · subst hq
    obtain ⟨ml', tp', b', p4, p5, p6, p7, p8, e1, n5, n6, n7, f1, hb, ht, hcw⟩ := push (Or.inr (Or.inr hk)) (by rw [hk, stq_7, rc_2, rc_1]; omega)
    exact ⟨ml', tp', b', p4, p5, p6, p7, p8, e1, n5, n6, n7, f1, Or.inr ⟨_, by rw [hk]; rfl, hb, ht, hcw⟩⟩
  · have e1 := c71k'.2 hk
    subst hq
    rw [rc_2] at hl0' hrc e1 hP0 ⊢
    cases R with
    | nil => rw [List.length_nil] at hl0'; omega
    | cons A R =>
      cases R with
      | nil => rw [List.length_cons, List.length_nil] at hl0'; omega
      | cons B R =>
        rw [List.length_cons, List.length_cons] at hl0'
        have e2 : dps ((q, 2) :: T) = lps T :: lps T :: dps T := rfl
        rw [e2] at hRV
        obtain ⟨D2, hD2⟩ := dps_hd T
        rw [hD2] at hRV
        have hgB := hRV.2.2.2.2.2.1
        have hA0 : CPo (21 + (rc T + 1)) A ml := by have := hR.2.1; rw [List.length_cons, show R.length = rc T by omega] at this; exact this
        have hB0 : CPo (21 + rc T) B ml := by have := hR.2.2.1; rw [show R.length = rc T by omega] at this; exact this
        obtain ⟨m1, e3, z1, z2⟩ := c83 hG hC (n := n) (mi := mi) (tp := rc T) (b := false) hs (by omega) hgB hB0 hA0 (by rw [show 21 + (rc T + 2) = 21 + (2 + rc T) by omega]; exact hP0)
        rw [show rc T + 2 = 2 + rc T by omega, Bool.false_or] at e3
        refine ⟨m1, zi (rc T), !(gdn (ad0 (fun c => mmx sd (A c) (P c))) 252 && gdn (pad B (ad0 (fun c => mmx sd (A c) (P c)))) 252), some (.inr (.inr (mr (43 + 9 * r) p))), o5, o6, o7, o8, ?_, h5, h6, h7, OW_mono z2 (Nat.zero_le _), ?_⟩
        · rw [e1, e3, bind_s, as_V, bind_s]
          exact c71n hG hC _ _ _ _ _
        · rw [hk, stq_8, sfp_c]
          simp only [Nat.reduceEqDiff, if_false, if_true, List.tail_cons]
          unfold jn
          obtain ⟨U, hU⟩ : ∃ U, U = ad0 (fun c => mmx sd (A c) (P c)) := ⟨_, rfl⟩
          rw [← hU] at z1 ⊢
          cases hb : (gdn U 252 && gdn (pad B U) 252)
          · exact Or.inl ⟨rfl, rfl⟩
          · refine Or.inr ⟨_, rfl, rfl, trivial, ?_, CW_mv hR.2.2.2 z2 (by omega) (by omega)⟩
            rw [show R.length = rc T by omega]; exact z1