/-! the class: reckon whole -/
/-- what reckoning a routine's formula of a side may change -/
def OR1 (r sd : Nat) (mi mi' : Nat → Nat → Int32) (ml ml' : Nat → Nat → Int64) : Prop := (∀ a, a ≠ 10 → a ≠ 48 + 9 * r → mi' a = mi a) ∧ (∀ j, j ≠ sd → mi' (48 + 9 * r) j = mi (48 + 9 * r) j) ∧ (∀ x, x < 21 ∨ 41 ≤ x → x ≠ 46 + 9 * r + sd → ml' x = ml x)
theorem c71e {G : AG} (hG : FIX G) {s : Nat → Nat × Nat} {mr : Nat → Nat → Nat} (hC : CS s mr) {n : Nat × Nat} {mi : Nat → Nat → Int32} {r sd p : Nat} {tp : Int32} {b : Bool} {F : Option Po} {ml : Nat → Nat → Int64} (hT : CTab mi) (hr : r < 8) (hs : sd < 2) (hF : (F = none ∧ b = true) ∨ ∃ P, F = some P ∧ b = false ∧ CPo 21 P ml ∧ vlt 2 P) (o4 o5 o6 o7 o8 : Option AV) :
    ∃ mi' ml', G 71 181 (l71 r sd p o4 o5 o6 o7 o8) [] (s, n, rk3 mi (zi sd) tp b, ml, mr) = some (none, (s, n, mi', ml', mr)) ∧ KS mi' ml' sd r F ∧ OR1 r sd mi mi' ml ml' := by
  have hsf : s (46 + 9 * r + sd) = (21, 36) := by
    have h01 : sd = 0 ∨ sd = 1 := by omega
    rcases h01 with rfl | rfl
    · exact cs46 hC r hr
    · rw [show 46 + 9 * r + 1 = 47 + 9 * r by omega]; exact cs47 hC r hr
  have hb6 : Nat.beq (s 10).1 6 = true := by rw [kc10 hC]; rfl
  rcases hF with ⟨hFn, rfl⟩ | ⟨P, hFs, rfl, hP, hv⟩
  · refine ⟨up2 (rk3 mi (zi sd) tp true) (48 + 9 * r) sd (-1000003), ml, ?_, Or.inl ⟨hFn, by rw [up2_s, up1_s]⟩, fun a h1 h2 => by rw [up2_n _ _ h2, rk3_n _ _ _ _ h1], fun j hj => by rw [up2_s, up1_n _ _ hj, rk3_n _ _ _ _ (by omega)], fun _ _ _ => rfl⟩
    refine (b71_181 hG ..).trans ?_
    rw [gc28 hC hr, bind_s, gc19 hC, bind_s, rk3_19, gc20 hC, bind_s, rk3_20, show decide (bz true = 0) = false from rfl, cnd_f]
    refine (b71_202 hG ..).trans ?_
    rw [wc48 hC hr hs, bind_s, gc20 hC, bind_s, up2_n _ _ (by omega), rk3_20, show decide (bz true ≠ 0) = true from rfl, cnd_t]
    exact b71_223 hG ..
  · obtain ⟨mi2, hmi2⟩ : ∃ mi2, mi2 = up2 (rk3 mi (zi sd) tp false) (48 + 9 * r) sd (zi 1) := ⟨_, rfl⟩
    have hT2 : CTab mi2 := by
      rw [hmi2]
      obtain ⟨t1, t2, t3, t4⟩ := CTab_rk3 (sd := zi sd) (tp := tp) (b := false) hT
      exact ⟨fun v p h1 h2 => by rw [up2_n _ _ (by omega)]; exact t1 v p h1 h2, fun p h2 => by rw [up2_n _ _ (by omega)]; exact t2 p h2, fun j hj => by rw [up2_n _ _ (by omega)]; exact t3 j hj, fun j hj => by rw [up2_n _ _ (by omega)]; exact t4 j hj⟩
    obtain ⟨ml', e1, z1, z2⟩ := c95 hG hC hT2 (n := n) hsf (by omega) hP
    refine ⟨mi2, ml', ?_, Or.inr ⟨P, hFs, by rw [hmi2, up2_s, up1_s], z1, hv⟩, fun a h1 h2 => by rw [hmi2, up2_n _ _ h2, rk3_n _ _ _ _ h1], fun j hj => by rw [hmi2, up2_s, up1_n _ _ hj, rk3_n _ _ _ _ (by omega)], fun x _ h2 => z2 x h2⟩
    refine (b71_181 hG ..).trans ?_
    rw [gc28 hC hr, bind_s, gc19 hC, bind_s, rk3_19, gc20 hC, bind_s, rk3_20, show decide (bz false = 0) = true from rfl, cnd_t, show (1 : Int32) = zi 1 from rfl]
    refine (b71_202 hG ..).trans ?_
    rw [wc48 hC hr hs, bind_s, gc20 hC, bind_s, up2_n _ _ (by omega), rk3_20, show decide (bz false ≠ 0) = false from rfl, cnd_f, gc27 hC hr, bind_s, gc19 hC, bind_s, up2_n _ _ (by omega), rk3_19, ac45 hC hr hs, bind_s, hb6, cnd_t, ← hmi2, e1, bind_s, as_V, bind_s]
    exact b71_223 hG ..
theorem c71L {G : AG} (hG : FIX G) {s : Nat → Nat × Nat} {mr : Nat → Nat → Nat} (hC : CS s mr) {n : Nat × Nat} {mi : Nat → Nat → Int32} (hT : CTab mi) {Q : Pg} {N : Nat} (hQ : CQ Q N s mi mr) (hW : WP Q) {r sd : Nat} {F : Nat → Option Po} (hr : r < 8) (hs : sd < 2) (h0 : stk (qk Q r) (qn Q r) = []) : ∀ (f p : Nat) (tp : Int32) (b : Bool) (ml : Nat → Nat → Int64) (o4 o5 o6 o7 o8 : Option AV), p + f = qn Q r → noR o5 → noR o6 → noR o7 →
    (∀ p, p < qn Q r → qk Q r p = 4 → KS mi ml sd (qd Q r p) (F (qd Q r p))) → ((rws Q F sd r p = none ∧ b = true) ∨ ∃ R, rws Q F sd r p = some R ∧ b = false ∧ tp = zi (rc (stk (qk Q r) p)) ∧ CW R ml) →
    ∃ mi' ml', G 71 21 (l71 r sd p o4 o5 o6 o7 o8) [] (s, n, rk3 mi (zi sd) tp b, ml, mr) = some (none, (s, n, mi', ml', mr)) ∧ KS mi' ml' sd r ((rws Q F sd r (qn Q r)).map (fun R => R.headD (fun _ => 0))) ∧ OR1 r sd mi mi' ml ml'
  | 0, p, tp, b, ml, o4, o5, o6, o7, o8, hp, h5, h6, h7, hF, h => by
    have e : p = qn Q r := by omega
    subst e
    have h24 : qn Q r ≤ 24 := hW.2.1 r
    have h23 : (rk3 mi (zi sd) tp b) (42 + 9 * r) 23 = zi (qn Q r) := by rw [rk3_n _ _ _ _ (by omega)]; exact (hQ.2.1 r hr).2.1
    obtain ⟨mi', ml', e1, z1, z2⟩ := c71e hG hC hT (n := n) (p := qn Q r) (tp := tp) (b := b) (F := (rws Q F sd r (qn Q r)).map (fun R => R.headD (fun _ => 0))) (ml := ml) hr hs (by
      rcases h with ⟨h1, h2⟩ | ⟨R, h1, h2, h3, h4⟩
      · exact Or.inl ⟨by rw [h1]; rfl, h2⟩
      · have hl := rws_len (hW.2.2.2.1 r) (Nat.le_refl _) h1
        have hv := rws_RV (hW.2.2.2.1 r) (Nat.le_refl _) h1
        rw [h0] at hl hv
        cases R with
        | nil => exact absurd hv (fun h => h)
        | cons P R =>
          have hRn : R = [] := by
            cases R with
            | nil => rfl
            | cons a b => rw [List.length_cons, List.length_cons] at hl; exact absurd hl (by show ¬ _ = 1 + 0; omega)
          subst hRn
          exact Or.inr ⟨P, by rw [h1]; rfl, h2, h4.1, hv.1⟩) o4 o5 o6 o7 o8
    refine ⟨mi', ml', Eq.trans ?_ e1, z1, z2⟩
    refine (b71_21 hG _ _ _ _ _ _ _ _ _ h5 _).trans ?_
    rw [gc23 hC hr, bind_s, h23, decide_eq_true (by rw [zi_le (by omega) (by omega)]; exact Nat.le_refl _ : zi (qn Q r) ≤ zi (qn Q r)), cnd_t]
  | f + 1, p, tp, b, ml, o4, o5, o6, o7, o8, hp, h5, h6, h7, hF, h => by
    have hp' : p < qn Q r := by omega
    have h24 : qn Q r ≤ 24 := hW.2.1 r
    have h23 : (rk3 mi (zi sd) tp b) (42 + 9 * r) 23 = zi (qn Q r) := by rw [rk3_n _ _ _ _ (by omega)]; exact (hQ.2.1 r hr).2.1
    rcases h with ⟨h1, h2⟩ | ⟨R, h1, h2, h3, h4⟩
    · have hn : rws Q F sd r (qn Q r) = none := by
        have := rws_none h1 (f + 1)
        rw [hp] at this; exact this
      obtain ⟨mi', ml', e1, z1, z2⟩ := c71e hG hC hT (n := n) (p := p) (tp := tp) (b := b) (F := (rws Q F sd r (qn Q r)).map (fun R => R.headD (fun _ => 0))) (ml := ml) hr hs (Or.inl ⟨by rw [hn]; rfl, h2⟩) o4 o5 o6 o7 o8
      refine ⟨mi', ml', Eq.trans ?_ e1, z1, z2⟩
      refine (b71_21 hG _ _ _ _ _ _ _ _ _ h5 _).trans ?_
      rw [gc23 hC hr, bind_s, h23, decide_eq_false (by rw [zi_le (by omega) (by omega)]; omega : ¬ zi (qn Q r) ≤ zi p), cnd_f, gc20 hC, bind_s, rk3_20, h2, show decide (bz true ≠ 0) = true from rfl, cnd_t]
    · subst h2 h3
      obtain ⟨ml1, tp1, b1, p4, p5, p6, p7, p8, e1, n5, n6, n7, f1, hx⟩ := c71S hG hC hT (n := n) hQ hW hr hs hp' h0 (hF p hp') (rws_len (hW.2.2.2.1 r) (Nat.le_of_lt hp') h1) (rws_RV (hW.2.2.2.1 r) (Nat.le_of_lt hp') h1) h4 o4 o5 o6 o7 o8 h5 h6 h7
      have er : rws Q F sd r (p + 1) = sfp sd (qk Q r p) (qw Q r p) (qt Q r p) (qt Q r (hdp (stk (qk Q r) p))) (F (qd Q r p)) (lps (stk (qk Q r) p)) R := by rw [rws, h1]; rfl
      rw [← er] at hx
      obtain ⟨mi', ml', e2, z1, z2⟩ := c71L hG hC (s := s) (mr := mr) (n := n) (mi := mi) hT hQ hW hr hs h0 f (p + 1) tp1 b1 ml1 p4 p5 p6 p7 p8 (by omega) n5 n6 n7 (fun q hq hk => by
        have hd := hW.2.2.2.2.2.1 r q hq hk
        rcases hF q hq hk with g | ⟨W, g1, g2, g3, g4⟩
        · exact Or.inl g
        · exact Or.inr ⟨W, g1, g2, fun i hi => by rw [f1 _ (by omega) (by omega) (by omega)]; exact g3 i hi, g4⟩) hx
      exact ⟨mi', ml', e1.trans e2, z1, z2.1, z2.2.1, fun x h1 h2 => (z2.2.2 x h1 h2).trans (f1 x (by omega) (by omega) (by omega))⟩
theorem c71 {G : AG} (hG : FIX G) {s : Nat → Nat × Nat} {mr : Nat → Nat → Nat} (hC : CS s mr) {n : Nat × Nat} {mi : Nat → Nat → Int32} (hT : CTab mi) {Q : Pg} {N : Nat} (hQ : CQ Q N s mi mr) (hW : WP Q) {r sd : Nat} {ml : Nat → Nat → Int64} (hr : r < 8) (hs : sd < 2) (h0 : stk (qk Q r) (qn Q r) = []) (hF : ∀ p, p < qn Q r → qk Q r p = 4 → KS mi ml sd (qd Q r p) (fml Q sd (qd Q r p))) :
    ∃ mi' ml', G 71 0 [some (.inr (.inr 10)), some (.inr (.inr (42 + 9 * r))), some (.inl (zi sd)), none, none, none, none, none, none] [] (s, n, mi, ml, mr) = some (none, (s, n, mi', ml', mr)) ∧ KS mi' ml' sd r (fml Q sd r) ∧ OR1 r sd mi mi' ml ml' := by
  have hb6 : Nat.beq (s 10).1 6 = true := by rw [kc10 hC]; rfl
  obtain ⟨m1, e1, z1, z2⟩ := c72 hG hC (n := n) (mi := mi) (sd := zi sd) (tp := -1) (b := false) (nt := 0) (ml := ml) (by decide) (by decide)
  obtain ⟨mi', ml', e2, z3, z4⟩ := c71L hG hC hT (n := n) (F := fml Q sd) hQ hW hr hs h0 (qn Q r) 0 (zi 0) false m1 none none none none none (by omega) noR_n noR_n noR_n (fun q hq hk => by
    have hd := hW.2.2.2.2.2.1 r q hq hk
    rcases hF q hq hk with g | ⟨W, g1, g2, g3, g4⟩
    · exact Or.inl g
    · exact Or.inr ⟨W, g1, g2, fun i hi => by rw [z2 _ (by omega)]; exact g3 i hi, g4⟩) (Or.inr ⟨[fun _ => 0], rfl, rfl, rfl, z1, trivial⟩)
  rw [← fml_eq hW hr] at z3
  refine ⟨mi', ml', ?_, z3, z4.1, z4.2.1, fun x h1 h2 => (z4.2.2 x h1 h2).trans (z2 x (by omega))⟩
  refine (b71_0 hG ..).trans ?_
  rw [pc19 hC, bind_s, show (0 : Int32) = zi 0 from rfl, pc20o hC, bind_s, pc16 hC, bind_s, hb6, cnd_t, up2_c _ _ _ _ (by decide : (20 : Nat) ≠ 16), show up2 (up2 (up2 mi 10 19 (zi sd)) 10 16 (-1)) 10 20 (bz false) = rk3 mi (zi sd) (-1) false from rfl, e1, bind_s, as_V, bind_s]
  exact e2