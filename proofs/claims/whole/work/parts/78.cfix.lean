/-! the class: loops of fixed rounds; the reckoner's own numbers; choices -/
theorem up2_c {α : Type} (f : Nat → Nat → α) (r : Nat) {k j : Nat} (v w : α) (h : k ≠ j) : up2 (up2 f r k v) r j w = up2 (up2 f r j w) r k v := by
  funext a
  by_cases ha : a = r
  · subst ha
    rw [up2_s, up2_s, up2_s, up2_s]
    funext b
    by_cases h1 : b = j
    · subst h1
      rw [up1_s, up1_n _ _ (Ne.symm h), up1_s]
    · rw [up1_n _ _ h1]
      by_cases h2 : b = k
      · rw [h2, up1_s, up1_s]
      · rw [up1_n _ _ h2, up1_n _ _ h2, up1_n _ _ h1]
  · rw [up2_n _ _ ha, up2_n _ _ ha, up2_n _ _ ha, up2_n _ _ ha]
/-- the reckoner's side, top and whether it is full -/
def rk3 (mi : Nat → Nat → Int32) (sd tp : Int32) (b : Bool) : Nat → Nat → Int32 := up2 (up2 (up2 mi 10 19 sd) 10 16 tp) 10 20 (bz b)
theorem rk3_16 (mi sd tp b) : rk3 mi sd tp b 10 16 = tp := by unfold rk3; rw [up2_s, up1_n _ _ (by decide), up2_s, up1_s]
theorem rk3_19 (mi sd tp b) : rk3 mi sd tp b 10 19 = sd := by unfold rk3; rw [up2_s, up1_n _ _ (by decide), up2_s, up1_n _ _ (by decide), up2_s, up1_s]
theorem rk3_20 (mi sd tp b) : rk3 mi sd tp b 10 20 = bz b := by unfold rk3; rw [up2_s, up1_s]
theorem rk3_n (mi sd tp b) {a : Nat} (h : a ≠ 10) : rk3 mi sd tp b a = mi a := by unfold rk3; rw [up2_n _ _ h, up2_n _ _ h, up2_n _ _ h]
theorem rk3_w16 (mi sd tp b tp') : up2 (rk3 mi sd tp b) 10 16 tp' = rk3 mi sd tp' b := by unfold rk3; rw [up2_c _ _ _ _ (by decide : (20 : Nat) ≠ 16), up2_2]
theorem rk3_w20 (mi sd tp b b') : up2 (rk3 mi sd tp b) 10 20 (bz b') = rk3 mi sd tp b' := by unfold rk3; rw [up2_2]
theorem CTab_rk3 {mi sd tp b} (h : CTab mi) : CTab (rk3 mi sd tp b) := CTab_10 (CTab_10 (CTab_10 h))
/-- rows from k on, the op's own row and the part may have changed -/
def OW (k : Nat) (ml ml' : Nat → Nat → Int64) : Prop := ∀ x, x ≠ 39 → x ≠ 40 → (x < 21 + k ∨ 39 ≤ x) → ml' x = ml x
theorem OW_refl (k ml) : OW k ml ml := fun _ _ _ _ => rfl
theorem OW_trans {k a b c} (h : OW k a b) (h' : OW k b c) : OW k a c := fun x h1 h2 h3 => (h' x h1 h2 h3).trans (h x h1 h2 h3)
theorem OW_OF {k a b c} (h : OF a b c) (ha : a = 39 ∨ a = 40 ∨ (21 + k ≤ a ∧ a < 39)) : OW k b c := fun x h1 h2 h3 => h x (by omega)
theorem OW_mono {k k' a b} (h : OW k a b) (hk : k' ≤ k) : OW k' a b := fun x h1 h2 h3 => h x h1 h2 (by omega)
theorem CPo_ad0 {a : Nat} {P : Po} {ml : Nat → Nat → Int64} (h : CPo a P ml) : CPo a (ad0 P) (up2 ml a 0 (ml a 0 + 8640)) := by
  intro p hp
  rw [up2_s]
  unfold ad0
  by_cases e : p = 0
  · subst e
    rw [up1_s, h 0 hp, show pq 0 = 0 from rfl, if_pos rfl]
  · rw [up1_n _ _ e, if_neg, h p hp]
    intro hc
    exact e (pq_inj hp (by decide : (0 : Nat) < 252) hc)
theorem mmx_0 (a b : Int64) : (if b < a then b else a) = mmx 0 a b := by
  unfold mmx
  by_cases hl : b < a
  · rw [if_pos hl, decide_eq_true hl, if_neg (by decide)]
  · rw [if_neg hl, decide_eq_false hl, if_pos (by decide)]
theorem mmx_1 (a b : Int64) : (if b < a then a else b) = mmx 1 a b := by
  unfold mmx
  by_cases hl : b < a
  · rw [if_pos hl, decide_eq_true hl, if_pos (by decide)]
  · rw [if_neg hl, decide_eq_false hl, if_neg (by decide)]
theorem c89k {G : AG} (hG : FIX G) {s : Nat → Nat × Nat} {mr : Nat → Nat → Nat} (hC : CS s mr) {n : Nat × Nat} {mi : Nat → Nat → Int32} (hT : CTab mi) {a o N w d p nn : Nat} {t : Nat → Nat} {P : Po} (ha : s a = (21, 252)) (ha39 : a ≠ 39) (ho : s o = (3, 6)) (h3 : mi o 3 = zi d) (hd : d ≤ 2) (hE : EX s mi N (mr o 0) t) (htb : ∀ q, t q ≤ 2) (hw : w ≤ 5) (hp : p < 252) (hlt : pq p < 6 ^ (2 + d)) : ∀ (f k : Nat) (ml : Nat → Nat → Int64), k + f = w + 1 → CPo a P ml → ml 39 p = sm k (fun k => if degc (pq p) + k < 6 then P (pq p + k * 6 ^ (2 + d)) * sm (t 0) (fun i => ipw (zl (i + 1)) k) else 0) →
    ∃ ml' p7 p8, G 89 43 [some (.inr (.inr 10)), some (.inr (.inr a)), some (.inl (zi w)), some (.inr (.inr o)), some (.inl (zi (2 + d))), some (.inl (zi nn)), some (.inl (zi p)), some (.inl (chn p (2 + d) k)), some (.inl (zi k))] [] (s, n, mi, ml, mr) = G 89 99 [some (.inr (.inr 10)), some (.inr (.inr a)), some (.inl (zi w)), some (.inr (.inr o)), some (.inl (zi (2 + d))), some (.inl (zi nn)), some (.inl (zi p)), p7, p8] [] (s, n, mi, ml', mr) ∧ ml' 39 p = sm (w + 1) (fun k => if degc (pq p) + k < 6 then P (pq p + k * 6 ^ (2 + d)) * sm (t 0) (fun i => ipw (zl (i + 1)) k) else 0) ∧ (∀ q, q ≠ p → ml' 39 q = ml 39 q) ∧ OF 39 ml ml'
  | 0, k, ml, hk, hP, h => by
    have e : k = w + 1 := by omega
    subst e
    refine ⟨ml, some (.inl (chn p (2 + d) (w + 1))), some (.inl (zi (w + 1))), ?_, h, fun _ _ => rfl, OF_refl _ _⟩
    refine (b89_43 hG ..).trans ?_
    rw [decide_eq_true (by rw [zi_lt (by omega) (by omega)]; omega : zi w < zi (w + 1)), cnd_t]
  | f + 1, k, ml, hk, hP, h => by
    have c1 : decide (zi w < zi k) = false := decide_eq_false (by rw [zi_lt (by omega) (by omega)]; omega)
    by_cases hdg : degc (pq p) + k < 6
    · have hvc := chn_vc (by omega) hlt (pq_vc hp).1 hdg
      obtain ⟨q1, q2⟩ := pq_qp hvc
      have ech : chn p (2 + d) k = zi (qp (pq p + k * 6 ^ (2 + d))) := by unfold chn; rw [if_pos hdg]
      obtain ⟨ml', p7, p8, e', r1, r2, r3⟩ := c89k hG hC (s := s) (mr := mr) (n := n) (mi := mi) hT (nn := nn) ha ha39 ho h3 hd hE htb hw hp hlt f (k + 1) (up2 ml 39 p (ml 39 p + P (pq p + k * 6 ^ (2 + d)) * sm (t 0) (fun i => ipw (zl (i + 1)) k))) (by omega) (CPo_mv hP (up2_n _ _ ha39)) (by
        rw [up2_s, up1_s, h]
        show _ = sm k _ + (if degc (pq p) + k < 6 then P (pq p + k * 6 ^ (2 + d)) * sm (t 0) (fun i => ipw (zl (i + 1)) k) else 0)
        rw [if_pos hdg])
      refine ⟨ml', p7, p8, Eq.trans ?_ e', r1, fun q hq => by rw [r2 q hq, up2_s, up1_n _ _ hq], OF_trans OF_up r3⟩
      refine (b89_43 hG ..).trans ?_
      have hb5 : Nat.beq (s 11).1 5 = true := by rw [kc11 hC]; rfl
      have c0 : decide (chn p (2 + d) k < 0) = false := by rw [ech]; exact decide_eq_false (Int32.not_lt.mpr (zi_ge0 (by omega)))
      have hE0 : hAI ((s, n, mi, ml, mr) : Hp) (mr o 0) 0 = some (zi (t 0)) := by rw [show (0 : Int32) = zi 0 from rfl, raI hE.2.2.1 (by decide) (by decide), hE.2.2.2 0 (by decide)]
      rw [c1, cnd_f, c0, cnd_f, gc17 hC, bind_s, ac39 hC hp, bind_s]
      rw [show hAJ ((s, n, mi, ml, mr) : Hp) a (chn p (2 + d) k) = some (P (pq p + k * 6 ^ (2 + d))) from by rw [ech, raJ ha q2 (by decide), hP _ q2, q1]]
      rw [bind_s, rgR ho hF3_0, bind_s, hE0, bind_s, c92 hG hC (by omega) (htb 0), bind_s, as_J, bind_s, wc39 hC hp, bind_s, gc14 hC, bind_s, hb5, cnd_t, c8c hG hC hT hp (by omega) hlt, bind_s, as_I, bind_s, show zi k + 1 = zi (k + 1) from zi_add k 1]
    · have ech : chn p (2 + d) k = -1 := by unfold chn; rw [if_neg hdg]
      refine ⟨ml, some (.inl (-1)), some (.inl (zi k)), ?_, ?_, fun _ _ => rfl, OF_refl _ _⟩
      · refine (b89_43 hG ..).trans ?_
        rw [c1, cnd_f, ech, show decide ((-1 : Int32) < 0) = true from by decide, cnd_t]
      · rw [h]
        exact (sm_tail (by omega) (fun i h1 h2 => if_neg (by omega))).symm
theorem c89 {G : AG} (hG : FIX G) {s : Nat → Nat × Nat} {mr : Nat → Nat → Nat} (hC : CS s mr) {n : Nat × Nat} {mi : Nat → Nat → Int32} (hT : CTab mi) {a o N w d : Nat} {t : Nat → Nat} {P : Po} {ml : Nat → Nat → Int64} (ha : s a = (21, 252)) (ha39 : a ≠ 39) (ho : s o = (3, 6)) (h3 : mi o 3 = zi d) (hd : d ≤ 2) (hE : EX s mi N (mr o 0) t) (htb : ∀ q, t q ≤ 2) (hw : w ≤ 5) (hPw : dle w P) (hPv : vlt (3 + d) P) (hP : CPo a P ml) (h0 : ∀ q, q < 252 → ml 39 q = 0) :
    ∃ ml', G 89 0 [some (.inr (.inr 10)), some (.inr (.inr a)), some (.inl (zi w)), some (.inr (.inr o)), none, none, none, none, none] [] (s, n, mi, ml, mr) = some (none, (s, n, mi, ml', mr)) ∧ CPo 39 (sumF P t d) ml' ∧ OF 39 ml ml' := by
  have hu := upn_le w hw
  have hb3 : Nat.beq (s o).1 3 = true := by rw [ho]; rfl
  have hb5 : Nat.beq (s 11).1 5 = true := by rw [kc11 hC]; rfl
  have L : ∀ (f p : Nat) (p7 p8 : Option AV) (ml : Nat → Nat → Int64), p + f = upn w → CPo a P ml → (∀ q, q < 252 → ml 39 q = if q < p then Fx P (t 0) (2 + d) w (pq q) else 0) → ∃ ml', G 89 15 [some (.inr (.inr 10)), some (.inr (.inr a)), some (.inl (zi w)), some (.inr (.inr o)), some (.inl (zi (2 + d))), some (.inl (zi (upn w))), some (.inl (zi p)), p7, p8] [] (s, n, mi, ml, mr) = some (none, (s, n, mi, ml', mr)) ∧ CPo 39 (sumF P t d) ml' ∧ OF 39 ml ml' := by
    intro f
    induction f with
    | zero =>
      intro p p7 p8 ml hp hP h
      have e : p = upn w := by omega
      subst e
      refine ⟨ml, ?_, CPo_congr (P := Fx P (t 0) (2 + d) w) (fun q hq => ?_) (peq_symm (sumF_eq hd hw hPv hPw)), OF_refl _ _⟩
      · refine (b89_15 hG ..).trans ?_
        rw [decide_eq_true (by rw [zi_le (by omega) (by omega)]; exact Nat.le_refl _ : zi (upn w) ≤ zi (upn w)), cnd_t]
      · rw [h q hq]
        split
        · rfl
        · rename_i hge
          unfold Fx
          rw [if_neg]
          rintro ⟨-, h2⟩
          exact hge ((pq_deg hq hw).mp h2)
    | succ f ih =>
      intro p p7 p8 ml hp hP h
      have hp' : p < 252 := by omega
      have hpw : degc (pq p) ≤ w := (pq_deg hp' hw).mpr (by omega)
      have h0p : ml 39 p = 0 := by rw [h p hp', if_neg (Nat.lt_irrefl p)]
      have c1 : decide (zi (upn w) ≤ zi p) = false := decide_eq_false (by rw [zi_le (by omega) (by omega)]; omega)
      by_cases hlt : pq p < 6 ^ (2 + d)
      · have ec : chn p (2 + d) 0 = zi p := by unfold chn; rw [if_pos (by have := (pq_vc hp').2; omega), Nat.zero_mul, Nat.add_zero, qp_pq hp']
        obtain ⟨m1, q7, q8, e1, z1, z2, z3⟩ := c89k hG hC hT (n := n) (nn := upn w) ha ha39 ho h3 hd hE htb hw hp' hlt (w + 1) 0 ml (by omega) hP (by rw [h0p]; rfl)
        obtain ⟨ml', e', r1, r2⟩ := ih (p + 1) q7 q8 m1 (by omega) (CPo_mv hP (z3 a ha39)) (fun q hq => by
          by_cases e : q = p
          · rw [e, z1, if_pos (Nat.lt_succ_self p)]
            unfold Fx
            rw [if_pos ⟨hlt, hpw⟩]
          · rw [z2 q e, h q hq]
            by_cases h2 : q < p
            · rw [if_pos h2, if_pos (by omega)]
            · rw [if_neg h2, if_neg (by omega)])
        refine ⟨ml', Eq.trans ?_ e', r1, OF_trans z3 r2⟩
        refine (b89_15 hG ..).trans ?_
        rw [c1, cnd_f, gc14 hC, bind_s, hb5, cnd_t, c91 hG hC hT hp' (by omega) (by omega), bind_s, as_I, bind_s, decide_eq_true hlt, show decide (bz true = 0) = false from rfl, cnd_f]
        rw [ec] at e1
        refine Eq.trans e1 ?_
        refine (b89_99 hG ..).trans ?_
        rw [show zi p + 1 = zi (p + 1) from zi_add p 1]
      · obtain ⟨ml', e', r1, r2⟩ := ih (p + 1) p7 p8 ml (by omega) hP (fun q hq => by
          rw [h q hq]
          by_cases h2 : q < p
          · rw [if_pos h2, if_pos (by omega)]
          · rw [if_neg h2]
            by_cases e : q = p
            · rw [e, if_pos (Nat.lt_succ_self p)]
              unfold Fx
              rw [if_neg (fun h3 => hlt h3.1)]
            · rw [if_neg (by omega)])
        refine ⟨ml', Eq.trans ?_ e', r1, r2⟩
        refine (b89_15 hG ..).trans ?_
        rw [c1, cnd_f, gc14 hC, bind_s, hb5, cnd_t, c91 hG hC hT hp' (by omega) (by omega), bind_s, as_I, bind_s, decide_eq_false hlt, show decide (bz false = 0) = true from rfl, cnd_t]
        refine (b89_99 hG ..).trans ?_
        rw [show zi p + 1 = zi (p + 1) from zi_add p 1]
  obtain ⟨ml', e', r1, r2⟩ := L (upn w) 0 none none ml (by omega) hP (fun q hq => by rw [if_neg (Nat.not_lt_zero _)]; exact h0 q hq)
  refine ⟨ml', ?_, r1, r2⟩
  refine (b89_0 hG ..).trans ?_
  rw [hb3, cnd_t, c90 hG hC (k := 3) ho h3, bind_s, as_I, bind_s, c79 hG hC hT hw, bind_s, as_I, bind_s]
  exact e'
theorem c72 {G : AG} (hG : FIX G) {s : Nat → Nat × Nat} {mr : Nat → Nat → Nat} (hC : CS s mr) {n : Nat × Nat} {mi : Nat → Nat → Int32} {sd tp : Int32} {b : Bool} {nt : Nat} {ml : Nat → Nat → Int64} (h : tp + 1 = zi nt) (hn : nt < 18) : ∃ ml', G 72 0 [some (.inr (.inr 10))] [] (s, n, rk3 mi sd tp b, ml, mr) = some (none, (s, n, rk3 mi sd (zi nt) b, ml', mr)) ∧ CPo (21 + nt) (fun _ => 0) ml' ∧ OF (21 + nt) ml ml' := by
  obtain ⟨ml', e', r1, r2⟩ := c73 hG hC (n := n) (mi := rk3 mi sd (zi nt) b) (x := 0) (ml := ml) (csW hC nt hn) (by omega) (by decide)
  refine ⟨ml', ?_, r1, r2⟩
  refine (b72_0 hG ..).trans ?_
  rw [gc16 hC, bind_s, rk3_16, h, decide_eq_true (by show zi nt < zi 18; rw [zi_lt (by omega) (by omega)]; exact hn : zi nt < (18 : Int32)), cnd_t, bind_s, h, pc16 hC, bind_s, rk3_w16, gc15 hC, bind_s, gc16 hC, bind_s, rk3_16, ac20 hC hn, bind_s, e', bind_s, as_V, bind_s]
theorem c83 {G : AG} (hG : FIX G) {s : Nat → Nat × Nat} {mr : Nat → Nat → Nat} (hC : CS s mr) {n : Nat × Nat} {mi : Nat → Nat → Int32} {sd tp : Nat} {b : Bool} {A B T : Po} {ml : Nat → Nat → Int64} (hs : sd < 2) (ht : tp + 2 < 18) (hg : gdn T 252 = true) (hT : CPo (21 + tp) T ml) (hA : CPo (21 + (tp + 1)) A ml) (hB : CPo (21 + (tp + 2)) B ml) :
    ∃ ml', G 83 0 [some (.inr (.inr 10)), none, none, none] [] (s, n, rk3 mi (zi sd) (zi (tp + 2)) b, ml, mr) = some (none, (s, n, rk3 mi (zi sd) (zi tp) (b || !(gdn (ad0 (fun c => mmx sd (A c) (B c))) 252 && gdn (pad T (ad0 (fun c => mmx sd (A c) (B c)))) 252)), ml', mr)) ∧ CPo (21 + tp) (pad T (ad0 (fun c => mmx sd (A c) (B c)))) ml' ∧ OW tp ml ml' := by
  have L : ∀ (f p : Nat) (ml : Nat → Nat → Int64), p + f = 252 → CPo (21 + (tp + 1)) A ml → CPo (21 + (tp + 2)) B ml → (∀ q, q < p → ml 39 q = mmx sd (A (pq q)) (B (pq q))) → ∃ ml', G 83 43 [some (.inr (.inr 10)), some (.inr (.inr (21 + (tp + 1)))), some (.inr (.inr (21 + (tp + 2)))), some (.inl (zi p))] [] (s, n, rk3 mi (zi sd) (zi tp) b, ml, mr) = G 83 43 [some (.inr (.inr 10)), some (.inr (.inr (21 + (tp + 1)))), some (.inr (.inr (21 + (tp + 2)))), some (.inl (zi 252))] [] (s, n, rk3 mi (zi sd) (zi tp) b, ml', mr) ∧ CPo 39 (fun c => mmx sd (A c) (B c)) ml' ∧ OF 39 ml ml' := by
    intro f
    induction f with
    | zero =>
      intro p ml hp _ _ h
      have e : p = 252 := by omega
      subst e
      exact ⟨ml, rfl, h, OF_refl _ _⟩
    | succ f ih =>
      intro p ml hp hA hB h
      have hp' : p < 252 := by omega
      obtain ⟨ml', e', r1, r2⟩ := ih (p + 1) (up2 ml 39 p (mmx sd (A (pq p)) (B (pq p)))) (by omega) (CPo_mv hA (up2_n _ _ (by omega))) (CPo_mv hB (up2_n _ _ (by omega))) (fun q hq => by
        rw [up2_s]
        by_cases e : q = p
        · rw [e, up1_s]
        · rw [up1_n _ _ e]; exact h q (by omega))
      refine ⟨ml', Eq.trans ?_ e', r1, OF_trans OF_up r2⟩
      refine (b83_43 hG ..).trans ?_
      have c0 : decide ((252 : Int32) ≤ zi p) = false := decide_eq_false (by show ¬ zi 252 ≤ zi p; rw [zi_le (by omega) (by omega)]; omega)
      rw [c0, cnd_f, gc17 hC, bind_s, gc19 hC, bind_s, rk3_19]
      have h01 : sd = 0 ∨ sd = 1 := by omega
      rcases h01 with rfl | rfl
      · rw [show decide (zi 0 ≠ (1 : Int32)) = true from by decide, cnd_t, acW hC (by omega) hp', bind_s, acW hC (by omega) hp', bind_s, hA p hp', hB p hp', mmx_0]
        refine (b83_84 hG ..).trans ?_
        rw [wc39 hC hp', bind_s, show zi p + 1 = zi (p + 1) from zi_add p 1]
      · rw [show decide (zi 1 ≠ (1 : Int32)) = false from by decide, cnd_f, acW hC (by omega) hp', bind_s, acW hC (by omega) hp', bind_s, hA p hp', hB p hp', mmx_1]
        refine (b83_84 hG ..).trans ?_
        rw [wc39 hC hp', bind_s, show zi p + 1 = zi (p + 1) from zi_add p 1]
  obtain ⟨m1, e1, z1, z2⟩ := L 252 0 ml (by omega) hA hB (fun q hq => by omega)
  have z3 := CPo_ad0 z1
  obtain ⟨U, hU⟩ : ∃ U, U = ad0 (fun c => mmx sd (A c) (B c)) := ⟨_, rfl⟩
  rw [← hU] at z3
  rw [← hU]
  obtain ⟨m2, e2, z4, z5⟩ := c82 hG hC (n := n) (mi := up2 (up2 mi 10 19 (zi sd)) 10 16 (zi tp)) (tp := tp) (b := b) (by omega) (by rw [up2_s, up1_s]) hg z3 (CPo_mv hT (by rw [up2_n _ _ (by omega), z2 _ (by omega)]))
  refine ⟨m2, ?_, z4, OW_trans (OW_trans (OW_OF z2 (Or.inl rfl)) (OW_OF OF_up (Or.inl rfl))) (OW_OF z5 (by omega))⟩
  have hb6 : Nat.beq (s 10).1 6 = true := by rw [kc10 hC]; rfl
  refine (b83_0 hG ..).trans ?_
  rw [gc16 hC, bind_s, rk3_16, decide_eq_true (by show zi 2 ≤ zi (tp + 2); rw [zi_le (by omega) (by omega)]; omega : (2 : Int32) ≤ zi (tp + 2)), cnd_t, gc15 hC, bind_s, bind_s, show zi (tp + 2) - 1 = zi (tp + 1) from by rw [show (1 : Int32) = zi 1 from rfl, zi_sub (by omega)]; rfl, ac20 hC (by omega), bind_s, bind_s, bind_s, ac20 hC (by omega), bind_s, bind_s, show zi (tp + 2) - 2 = zi tp from by rw [show (2 : Int32) = zi 2 from rfl, zi_sub (by omega)]; rfl, pc16 hC, bind_s, rk3_w16]
  refine Eq.trans e1 ?_
  refine (b83_43 hG ..).trans ?_
  rw [show decide ((252 : Int32) ≤ zi 252) = true from by decide, cnd_t, gc17 hC, bind_s, show (0 : Int32) = zi 0 from rfl, ac39 hC (by decide), bind_s, wc39 hC (by decide), bind_s, hb6, cnd_t]
  rw [show rk3 mi (zi sd) (zi tp) b = up2 (up2 (up2 mi 10 19 (zi sd)) 10 16 (zi tp)) 10 20 (bz b) from rfl, e2, bind_s, as_V, bind_s]
  rfl