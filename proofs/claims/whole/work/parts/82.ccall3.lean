/-! the class: takeCall, keep -/
theorem c75p {G : AG} (hG : FIX G) {s : Nat → Nat × Nat} {mr : Nat → Nat → Nat} (hC : CS s mr) {n : Nat × Nat} {mi : Nat → Nat → Int32} {x1 f : Nat} {x3 x4 : Int32} {H S : Po} : ∀ (g p : Nat) (ml : Nat → Nat → Int64), p + g = 252 → CPo 40 S ml → (∀ q, q < 252 → ml 39 q = if q < p then H (pq q) + S (pq q) else H (pq q)) → ∃ ml', G 75 99 [some (.inr (.inr 10)), some (.inr (.inr x1)), some (.inr (.inr f)), some (.inl x3), some (.inl x4), some (.inl (zi p))] [] (s, n, mi, ml, mr) = G 75 51 [some (.inr (.inr 10)), some (.inr (.inr x1)), some (.inr (.inr f)), some (.inl x3), some (.inl (x4 + (-1))), some (.inl (zi 252))] [] (s, n, mi, ml', mr) ∧ CPo 39 (fun c => H c + S c) ml' ∧ OF 39 ml ml'
  | 0, p, ml, hp, hS, hH => by
    have e : p = 252 := by omega
    subst e
    refine ⟨ml, ?_, fun q hq => by rw [hH q hq, if_pos hq], OF_refl _ _⟩
    refine (b75_99 hG ..).trans ?_
    rw [show decide ((252 : Int32) ≤ zi 252) = true from by decide, cnd_t]
  | g + 1, p, ml, hp, hS, hH => by
    have hp' : p < 252 := by omega
    have hHp := hH p hp'
    rw [if_neg (Nat.lt_irrefl p)] at hHp
    obtain ⟨ml', e', r1, r2⟩ := c75p hG hC (s := s) (mr := mr) (n := n) (mi := mi) (x1 := x1) (f := f) (x3 := x3) (x4 := x4) g (p + 1) (up2 ml 39 p (H (pq p) + S (pq p))) (by omega) (CPo_mv hS (up2_n _ _ (by decide))) (fun q hq => by
      rw [up2_s]
      by_cases h2 : q = p
      · rw [h2, up1_s, if_pos (Nat.lt_succ_self p)]
      · rw [up1_n _ _ h2, hH q hq]
        by_cases h : q < p
        · rw [if_pos h, if_pos (by omega)]
        · rw [if_neg h, if_neg (by omega)])
    refine ⟨ml', Eq.trans ?_ e', r1, OF_trans OF_up r2⟩
    refine (b75_99 hG ..).trans ?_
    have c0 : decide ((252 : Int32) ≤ zi p) = false := decide_eq_false (by show ¬ zi 252 ≤ zi p; rw [zi_le (by omega) (by omega)]; omega)
    rw [c0, cnd_f, gc17 hC, bind_s, ac39 hC hp', bind_s, gc18 hC, bind_s, ac40 hC hp', bind_s, hHp, hS p hp', wc39 hC hp', bind_s, show zi p + 1 = zi (p + 1) from zi_add p 1]
theorem c75_f {G : AG} (hG : FIX G) {s : Nat → Nat × Nat} {mr : Nat → Nat → Nat} (hC : CS s mr) {n : Nat × Nat} {mi : Nat → Nat → Int32} {o r sd : Nat} {tp : Int32} {ml : Nat → Nat → Int64} (hr : r < 8) (hs : sd < 2) (ho : s o = (1, 7)) (h6 : mr o 6 = 42 + 9 * r) (hst : mi (48 + 9 * r) sd = -1000003) : G 75 0 [some (.inr (.inr 10)), some (.inr (.inr o)), none, none, none, none] [] (s, n, rk3 mi (zi sd) tp false, ml, mr) = some (none, (s, n, rk3 mi (zi sd) tp true, ml, mr)) := by
  refine (b75_0 hG ..).trans ?_
  rw [rgR ho hF1_6, bind_s, h6, gc28 hC hr, bind_s, gc19 hC, bind_s, rk3_19, ac48 hC hr hs, bind_s, rk3_n _ _ _ _ (by omega), hst, show decide ((-1000003 : Int32) = 1) = false from by decide, cnd_f, show (1 : Int32) = zi 1 from rfl, pc20l hC, bind_s, rk3_w20]
theorem c75 {G : AG} (hG : FIX G) {s : Nat → Nat × Nat} {mr : Nat → Nat → Nat} (hC : CS s mr) {n : Nat × Nat} {mi : Nat → Nat → Int32} (hT : CTab mi) {o N r sd tp d : Nat} {t t2 : Nat → Nat} {T W : Po} {ml : Nat → Nat → Int64} (hr : r < 8) (hs : sd < 2) (ho : s o = (1, 7)) (ho4 : 142 ≤ o) (h6 : mr o 6 = 42 + 9 * r) (h3 : mi o 3 = zi d) (hd : d ≤ 3) (hE : EX s mi N (mr o 0) t) (htb : ∀ q, t q ≤ 2) (hE2 : EX s mi N (mr o 5) t2) (htb2 : ∀ q, t2 q ≤ 2) (hst : mi (48 + 9 * r) sd = zi 1) (hF : CF (46 + 9 * r + sd) W ml) (hv : vlt 2 W) (ht : tp < 18) (hg : gdn T 252 = true) (hTT : CPo (21 + tp) T ml) :
    ∃ ml', G 75 0 [some (.inr (.inr 10)), some (.inr (.inr o)), none, none, none, none] [] (s, n, rk3 mi (zi sd) (zi tp) false, ml, mr) = some (none, (s, n, rk3 mi (zi sd) (zi tp) (!(gdn (ad0 (putP W (fun q => zl (t q)) (fun q => zl (t2 q)) d)) 252 && gdn (pad T (ad0 (putP W (fun q => zl (t q)) (fun q => zl (t2 q)) d))) 252)), ml', mr)) ∧ CPo (21 + tp) (pad T (ad0 (putP W (fun q => zl (t q)) (fun q => zl (t2 q)) d))) ml' ∧ OW tp ml ml' := by
  have hsf : s (46 + 9 * r + sd) = (21, 36) := by
    have h01 : sd = 0 ∨ sd = 1 := by omega
    rcases h01 with rfl | rfl
    · exact cs46 hC r hr
    · rw [show 46 + 9 * r + 1 = 47 + 9 * r by omega]; exact cs47 hC r hr
  have hb5 : Nat.beq (s 11).1 5 = true := by rw [kc11 hC]; rfl
  have hb6 : Nat.beq (s 10).1 6 = true := by rw [kc10 hC]; rfl
  have hTr : CTab (rk3 mi (zi sd) (zi tp) false) := CTab_rk3 hT
  have h3' : (rk3 mi (zi sd) (zi tp) false) o 3 = zi d := by rw [rk3_n _ _ _ _ (by omega)]; exact h3
  have hEr : EX s (rk3 mi (zi sd) (zi tp) false) N (mr o 0) t := ⟨hE.1, hE.2.1, hE.2.2.1, fun q hq => by rw [rk3_n _ _ _ _ (by have := hE.1; omega)]; exact hE.2.2.2 q hq⟩
  have hEr2 : EX s (rk3 mi (zi sd) (zi tp) false) N (mr o 5) t2 := ⟨hE2.1, hE2.2.1, hE2.2.2.1, fun q hq => by rw [rk3_n _ _ _ _ (by have := hE2.1; omega)]; exact hE2.2.2.2 q hq⟩
  obtain ⟨w, hw, ew, hWw⟩ := c76 hG hC (n := n) (mi := rk3 mi (zi sd) (zi tp) false) hsf hF hv
  obtain ⟨m0, e0, y1, y2⟩ := c73 hG hC (n := n) (mi := rk3 mi (zi sd) (zi tp) false) (x := 0) (ml := ml) (cs39 hC) (by decide) (by decide)
  have hdF : ∀ a, a ≤ w → dle (w - a) ((fun a => prA W (fun q => zl (t2 q)) d w a) a) := fun a _ => prA_dle hd
  have L : ∀ (K : Nat) (o5 : Option AV) (ml : Nat → Nat → Int64), K ≤ w + 1 → CF (46 + 9 * r + sd) W ml → CPo 39 (hos (fun q => zl (t q)) d w (fun a => prA W (fun q => zl (t2 q)) d w a) K) ml → ∃ ml' p5, G 75 51 [some (.inr (.inr 10)), some (.inr (.inr o)), some (.inr (.inr (46 + 9 * r + sd))), some (.inl (zi w)), some (.inl (zi K + (-1))), o5] [] (s, n, rk3 mi (zi sd) (zi tp) false, ml, mr) = G 75 51 [some (.inr (.inr 10)), some (.inr (.inr o)), some (.inr (.inr (46 + 9 * r + sd))), some (.inl (zi w)), some (.inl (zi 0 + (-1))), p5] [] (s, n, rk3 mi (zi sd) (zi tp) false, ml', mr) ∧ CPo 39 (hos (fun q => zl (t q)) d w (fun a => prA W (fun q => zl (t2 q)) d w a) 0) ml' ∧ (∀ x, x ≠ 39 → x ≠ 40 → ml' x = ml x) := by
    intro K
    induction K with
    | zero => exact fun o5 ml _ _ h => ⟨ml, o5, rfl, h, fun _ _ _ => rfl⟩
    | succ a ih =>
      intro o5 ml hK hF h
      obtain ⟨NN, hNN, hN2, hz⟩ : ∃ NN, NN ≤ 252 ∧ G 79 0 [some (.inl (zi w - zi a - 1))] [] (s, n, rk3 mi (zi sd) (zi tp) false, ml, mr) = some (some (.inl (zi NN)), (s, n, rk3 mi (zi sd) (zi tp) false, ml, mr)) ∧ ∀ p, p < 252 → NN ≤ p → hos (fun q => zl (t q)) d w (fun a => prA W (fun q => zl (t2 q)) d w a) (a + 1) (pq p) = 0 := by
        by_cases hbm : a = w
        · subst hbm
          refine ⟨0, by decide, ?_, fun p _ _ => hos_end _⟩
          rw [zi_sub (Nat.le_refl a), Nat.sub_self]
          exact c79n hG hC
        · have hu := upn_le (w - (a + 1)) (by omega)
          refine ⟨upn (w - (a + 1)), hu.2, ?_, fun p hp h2 => upn_dle (hos_dle hd hdF (w - (a + 1)) (a + 1) (by omega)) (by omega) hp h2⟩
          rw [zi_sub (by omega), show zi (w - a) - 1 = zi (w - (a + 1)) from by rw [show (1 : Int32) = zi 1 from rfl, zi_sub (by omega)]; rfl]
          exact c79 hG hC hTr (by omega)
      obtain ⟨m1, e1, z1, z2⟩ := c80 hG hC hTr (n := n) (cs39 hC) (by decide) hEr.2.2.1 hEr.2.2.2 htb hd hNN hz h
      have hF1 : CF (46 + 9 * r + sd) W m1 := fun i hi => by rw [z2 _ (by omega)]; exact hF i hi
      obtain ⟨m2, e2, z3, z4⟩ := c81 hG hC hTr (n := n) (a := a) ho h3' hd hEr2 htb2 hsf (by omega) (by omega) hw hF1
      have hH2 : CPo 39 (mulE (fun q => zl (t q)) d (hos (fun q => zl (t q)) d w (fun a => prA W (fun q => zl (t2 q)) d w a) (a + 1))) m2 := CPo_mv z1 (z4 39 (by decide))
      obtain ⟨m3, e3, z5, z6⟩ := c75p hG hC (n := n) (mi := rk3 mi (zi sd) (zi tp) false) (x1 := o) (f := 46 + 9 * r + sd) (x3 := zi w) (x4 := zi a) 252 0 m2 (by omega) z3 (fun q hq => by rw [if_neg (Nat.not_lt_zero _)]; exact hH2 q hq)
      have fr : ∀ x, x ≠ 39 → x ≠ 40 → m3 x = ml x := fun x h1 h2 => by rw [z6 x h1, z4 x h2, z2 x h1]
      obtain ⟨ml', p5, e', r1, r2⟩ := ih (some (.inl (zi 252))) m3 (by omega) (fun i hi => by rw [fr _ (by omega) (by omega)]; exact hF i hi) (CPo_congr z5 (fun c _ => (hos_S (by omega) c).symm))
      refine ⟨ml', p5, Eq.trans ?_ e', r1, fun x h1 h2 => (r2 x h1 h2).trans (fr x h1 h2)⟩
      rw [zi_dec]
      refine (b75_51 hG ..).trans ?_
      have c0 : decide (zi a < 0) = false := decide_eq_false (Int32.not_lt.mpr (zi_ge0 (by omega)))
      rw [c0, cnd_f, gc14 hC, bind_s, gc17 hC, bind_s, hN2, bind_s, as_I, bind_s, rgR ho hF1_0, bind_s, rgI ho hF1_3, bind_s, h3', hb5, cnd_t, e1, bind_s, as_V, bind_s, hb6, cnd_t, zi_sub (by omega), e2, bind_s, as_V, bind_s]
      exact e3
  obtain ⟨m1, p5, e1, z1, z2⟩ := L (w + 1) none m0 (Nat.le_refl _) (fun i hi => by rw [y2 _ (by omega)]; exact hF i hi) (fun p hp => by rw [y1 p hp, hos_end])
  have z3 := CPo_ad0 (CPo_congr z1 (put_hos hd hw hv hWw))
  obtain ⟨U, hU⟩ : ∃ U, U = ad0 (putP W (fun q => zl (t q)) (fun q => zl (t2 q)) d) := ⟨_, rfl⟩
  rw [← hU] at z3
  rw [← hU]
  obtain ⟨m2, e2, z4, z5⟩ := c82 hG hC (n := n) (mi := up2 (up2 mi 10 19 (zi sd)) 10 16 (zi tp)) (tp := tp) (b := false) ht (by rw [up2_s, up1_s]) hg z3 (CPo_mv hTT (by rw [up2_n _ _ (by omega), z2 _ (by omega) (by omega), y2 _ (by omega)]))
  rw [Bool.false_or] at e2
  refine ⟨m2, ?_, z4, OW_trans (OW_trans (OW_trans (OW_OF y2 (Or.inl rfl)) (fun x h1 h2 _ => z2 x h1 h2)) (OW_OF OF_up (Or.inl rfl))) (OW_OF z5 (by omega))⟩
  refine (b75_0 hG ..).trans ?_
  rw [rgR ho hF1_6, bind_s, h6, gc28 hC hr, bind_s, gc19 hC, bind_s, rk3_19, ac48 hC hr hs, bind_s, rk3_n _ _ _ _ (by omega), hst, show decide (zi 1 = (1 : Int32)) = true from by decide, cnd_t, bind_s, gc27 hC hr, bind_s, bind_s, ac45 hC hr hs, bind_s, ew, bind_s, as_I, bind_s, gc17 hC, bind_s, e0, bind_s, as_V, bind_s]
  rw [zi_dec] at e1
  refine Eq.trans e1 ?_
  refine (b75_51 hG ..).trans ?_
  rw [lt0_m1, cnd_t, gc17 hC, bind_s, show (0 : Int32) = zi 0 from rfl, ac39 hC (by decide), bind_s, wc39 hC (by decide), bind_s, hb6, cnd_t]
  rw [show rk3 mi (zi sd) (zi tp) false = up2 (up2 (up2 mi 10 19 (zi sd)) 10 16 (zi tp)) 10 20 (bz false) from rfl, e2, bind_s, as_V, bind_s]
  rfl
/-- a formula is kept -/
def ek (a b : Nat) : Int32 := if a + b ≤ 5 then zi (qp (a + 6 * b)) else -1
theorem c95 {G : AG} (hG : FIX G) {s : Nat → Nat × Nat} {mr : Nat → Nat → Nat} (hC : CS s mr) {n : Nat × Nat} {mi : Nat → Nat → Int32} (hT : CTab mi) {f : Nat} {P : Po} {ml : Nat → Nat → Int64} (hf : s f = (21, 36)) (hf4 : 40 < f) (hP : CPo 21 P ml) :
    ∃ ml', G 95 0 [some (.inr (.inr 10)), some (.inr (.inr f)), none, none, none, none] [] (s, n, mi, ml, mr) = some (none, (s, n, mi, ml', mr)) ∧ CF f P ml' ∧ OF f ml ml' := by
  have hb5 : Nat.beq (s 11).1 5 = true := by rw [kc11 hC]; rfl
  have t8 : ∀ a b v ml, v < 2 → a < 6 → b < 6 → G 8 0 [some (.inr (.inr 11)), some (.inl (ek a b)), some (.inl (zi v))] [] (s, n, mi, ml, mr) = some (some (.inl (if v = 0 then ek (a + 1) b else ek a (b + 1))), (s, n, mi, ml, mr)) := by
    intro a b v ml hv ha hb
    unfold ek
    by_cases h : a + b ≤ 5
    · obtain ⟨k1, k2, -, -, -⟩ := code_ab h
      obtain ⟨q1, q2⟩ := pq_qp k1
      rw [if_pos h, c8t hG hC hT q2 (by omega), q1, k2]
      have h01 : v = 0 ∨ v = 1 := by omega
      rcases h01 with rfl | rfl
      · rw [if_pos rfl, Nat.pow_zero, show a + 6 * b + 1 = a + 1 + 6 * b by omega]
        by_cases h5 : a + b < 5
        · rw [if_pos h5, if_pos (by omega)]
        · rw [if_neg h5, if_neg (by omega)]
      · rw [if_neg (by decide : ¬ (1 : Nat) = 0), Nat.pow_one, show a + 6 * b + 6 = a + 6 * (b + 1) by omega]
        by_cases h5 : a + b < 5
        · rw [if_pos h5, if_pos (by omega)]
        · rw [if_neg h5, if_neg (by omega)]
    · rw [if_neg h, c8n hG hC]
      congr 3
      have h01 : v = 0 ∨ v = 1 := by omega
      rcases h01 with rfl | rfl
      · rw [if_pos rfl, if_neg (by omega)]
      · rw [if_neg (by decide : ¬ (1 : Nat) = 0), if_neg (by omega)]
  have LB : ∀ (a : Nat), a < 6 → ∀ (g b : Nat) (ml : Nat → Nat → Int64), b + g = 6 → CPo 21 P ml → (∀ i, i < a * 6 + b → ml f i = F36 P i) → ∃ ml', G 95 15 [some (.inr (.inr 10)), some (.inr (.inr f)), some (.inl (ek a 0)), some (.inl (zi a)), some (.inl (ek a b)), some (.inl (zi b))] [] (s, n, mi, ml, mr) = G 95 4 [some (.inr (.inr 10)), some (.inr (.inr f)), some (.inl (ek (a + 1) 0)), some (.inl (zi (a + 1))), some (.inl (ek a 6)), some (.inl (zi 6))] [] (s, n, mi, ml', mr) ∧ (∀ i, i < (a + 1) * 6 → ml' f i = F36 P i) ∧ OF f ml ml' := by
    intro a ha g
    induction g with
    | zero =>
      intro b ml hb hP h
      have e : b = 6 := by omega
      subst e
      refine ⟨ml, ?_, fun i hi => h i (by omega), OF_refl _ _⟩
      refine (b95_15 hG ..).trans ?_
      rw [show decide ((5 : Int32) < zi 6) = true from by decide, cnd_t, gc14 hC, bind_s, hb5, cnd_t, show (0 : Int32) = zi 0 from rfl, t8 a 0 0 ml (by decide) ha (by decide), if_pos rfl, bind_s, as_I, bind_s, show zi a + 1 = zi (a + 1) from zi_add a 1]
    | succ g ih =>
      intro b ml hb hP h
      have hb6 : b < 6 := by omega
      have hi : a * 6 + b < 36 := by omega
      obtain ⟨ml', e', r1, r2⟩ := ih (b + 1) (up2 ml f (a * 6 + b) (F36 P (a * 6 + b))) (by omega) (CPo_mv hP (up2_n _ _ (by omega))) (fun i hi => by
        rw [up2_s]
        by_cases e : i = a * 6 + b
        · rw [e, up1_s]
        · rw [up1_n _ _ e]; exact h i (by omega))
      refine ⟨ml', Eq.trans ?_ e', r1, OF_trans OF_up r2⟩
      refine (b95_15 hG ..).trans ?_
      have c5 : decide ((5 : Int32) < zi b) = false := decide_eq_false (by show ¬ zi 5 < zi b; rw [zi_lt (by omega) (by omega)]; omega)
      have e47 : G 95 47 [some (.inr (.inr 10)), some (.inr (.inr f)), some (.inl (ek a 0)), some (.inl (zi a)), some (.inl (ek a b)), some (.inl (zi b))] [.inr (.inl (F36 P (a * 6 + b))), .inl (zi a * 6 + zi b), .inr (.inr f)] (s, n, mi, ml, mr) = G 95 15 [some (.inr (.inr 10)), some (.inr (.inr f)), some (.inl (ek a 0)), some (.inl (zi a)), some (.inl (ek a (b + 1))), some (.inl (zi (b + 1)))] [] (s, n, mi, up2 ml f (a * 6 + b) (F36 P (a * 6 + b)), mr) := by
        refine (b95_47 hG ..).trans ?_
        rw [show zi a * 6 + zi b = zi (a * 6 + b) from by rw [show (6 : Int32) = zi 6 from rfl, zi_mul, zi_add], rsJ hf hi (by decide) (by omega), bind_s, gc14 hC, bind_s, hb5, cnd_t, show (1 : Int32) = zi 1 from rfl, t8 a b 1 _ (by decide) ha hb6, if_neg (by decide), bind_s, as_I, bind_s, show zi b + zi 1 = zi (b + 1) from zi_add b 1]
      rw [c5, cnd_f]
      have hat := F36_at (W := P) (a := a) hb6
      by_cases h5 : a + b ≤ 5
      · obtain ⟨k1, -, -, -, -⟩ := code_ab h5
        obtain ⟨q1, q2⟩ := pq_qp k1
        have ee : ek a b = zi (qp (a + 6 * b)) := by unfold ek; rw [if_pos h5]
        rw [if_pos h5] at hat
        have c0 : decide ((0 : Int32) ≤ ek a b) = true := by rw [ee]; exact decide_eq_true (zi_ge0 (by omega))
        rw [c0, cnd_t, gc15 hC, bind_s, show (0 : Int32) = zi 0 from rfl, ac20 hC (by decide), bind_s, show hAJ ((s, n, mi, ml, mr) : Hp) (21 + 0) (ek a b) = some (F36 P (a * 6 + b)) from by rw [ee, acW hC (by decide) q2, hat]; exact congrArg some ((hP _ q2).trans (by rw [q1])), bind_s]
        exact e47
      · have ee : ek a b = -1 := by unfold ek; rw [if_neg h5]
        rw [if_neg h5] at hat
        have c0 : decide ((0 : Int32) ≤ ek a b) = false := by rw [ee]; decide
        rw [c0, cnd_f]
        rw [hat] at e47
        rw [hat]
        exact e47
  have LA : ∀ (g a : Nat) (o4 o5 : Option AV) (ml : Nat → Nat → Int64), a + g = 6 → CPo 21 P ml → (∀ i, i < a * 6 → ml f i = F36 P i) → ∃ ml', G 95 4 [some (.inr (.inr 10)), some (.inr (.inr f)), some (.inl (ek a 0)), some (.inl (zi a)), o4, o5] [] (s, n, mi, ml, mr) = some (none, (s, n, mi, ml', mr)) ∧ CF f P ml' ∧ OF f ml ml' := by
    intro g
    induction g with
    | zero =>
      intro a o4 o5 ml ha hP h
      have e : a = 6 := by omega
      subst e
      refine ⟨ml, ?_, h, OF_refl _ _⟩
      refine (b95_4 hG ..).trans ?_
      rw [show decide ((5 : Int32) < zi 6) = true from by decide, cnd_t]
    | succ g ih =>
      intro a o4 o5 ml ha hP h
      obtain ⟨m1, e1, z1, z2⟩ := LB a (by omega) 6 0 ml (by omega) hP (fun i hi => h i (by omega))
      obtain ⟨ml', e', r1, r2⟩ := ih (a + 1) (some (.inl (ek a 6))) (some (.inl (zi 6))) m1 (by omega) (CPo_mv hP (z2 _ (by omega))) z1
      refine ⟨ml', ?_, r1, OF_trans z2 r2⟩
      refine (b95_4 hG ..).trans ?_
      have c5 : decide ((5 : Int32) < zi a) = false := decide_eq_false (by show ¬ zi 5 < zi a; rw [zi_lt (by omega) (by omega)]; omega)
      rw [c5, cnd_f]
      exact e1.trans e'
  obtain ⟨ml', e', r1, r2⟩ := LA 6 0 none none ml (by omega) hP (fun i hi => by omega)
  refine ⟨ml', ?_, r1, r2⟩
  refine (b95_0 hG ..).trans ?_
  have ee : ek 0 0 = zi 0 := by unfold ek; rw [if_pos (by decide)]; rfl
  rw [ee] at e'
  exact e'