/-! the class: sums over a loop -/
theorem upn_dle {P : Po} {w p : Nat} (hP : dle w P) (hw : w ≤ 5) (hp : p < 252) (h : upn w ≤ p) : P (pq p) = 0 := by
  refine hP _ (pq_vc hp) ?_
  have := (not_congr (pq_deg hp hw)).mpr (by omega)
  omega
theorem dle_upn {P : Po} {w : Nat} (hw : w ≤ 5) (h : ∀ p, p < 252 → upn w ≤ p → P (pq p) = 0) : dle w P := by
  intro c hc hd
  obtain ⟨h1, h2⟩ := pq_qp hc
  have h3 := (not_congr (pq_deg h2 hw)).mp (by rw [h1]; omega)
  have := h (qp c) h2 (by omega)
  rw [h1] at this; exact this
def dvq (P : Po) : Nat → Bool
  | 0 => true
  | k + 1 => dvq P k && decide (P (pq k) - P (pq k) / 60 * 60 = 0)
theorem dvq_S (P k) : dvq P (k + 1) = (dvq P k && decide (P (pq k) - P (pq k) / 60 * 60 = 0)) := rfl
theorem dv6_at {P : Po} : ∀ {n k : Nat}, dv6 P n = true → k < n → P (cd k) - P (cd k) / 60 * 60 = 0
  | 0, k, _, hk => by omega
  | n + 1, k, h, hk => by
    unfold dv6 at h
    simp only [Bool.and_eq_true, decide_eq_true_eq] at h
    by_cases e : k = n
    · rw [e]; exact h.2
    · exact dv6_at h.1 (by omega)
theorem dv6_of {P : Po} : ∀ {n : Nat}, (∀ k, k < n → P (cd k) - P (cd k) / 60 * 60 = 0) → dv6 P n = true
  | 0, _ => rfl
  | n + 1, h => by
    unfold dv6
    rw [dv6_of (fun k hk => h k (by omega)), decide_eq_true (h n (by omega))]; rfl
theorem dvq_at {P : Po} : ∀ {n k : Nat}, dvq P n = true → k < n → P (pq k) - P (pq k) / 60 * 60 = 0
  | 0, k, _, hk => by omega
  | n + 1, k, h, hk => by
    unfold dvq at h
    simp only [Bool.and_eq_true, decide_eq_true_eq] at h
    by_cases e : k = n
    · rw [e]; exact h.2
    · exact dvq_at h.1 (by omega)
theorem dvq_of {P : Po} : ∀ {n : Nat}, (∀ k, k < n → P (pq k) - P (pq k) / 60 * 60 = 0) → dvq P n = true
  | 0, _ => rfl
  | n + 1, h => by
    unfold dvq
    rw [dvq_of (fun k hk => h k (by omega)), decide_eq_true (h n (by omega))]; rfl
theorem dvq_dv6 {P R : Po} (e : peq P R) : dvq P 252 = dv6 R 252 := by
  rw [Bool.eq_iff_iff]
  constructor
  · intro h
    refine dv6_of (fun k hk => ?_)
    obtain ⟨h1, h2⟩ := pq_qp (rk_cd hk).1
    have := dvq_at h h2
    rw [h1, e _ (rk_cd hk).1] at this; exact this
  · intro h
    refine dvq_of (fun k hk => ?_)
    obtain ⟨h1, h2⟩ := cd_rk (pq_vc hk)
    have := dv6_at h h2
    rw [h1] at this
    rw [e _ (pq_vc hk)]; exact this
theorem c94 {G : AG} (hG : FIX G) {s : Nat → Nat × Nat} {mr : Nat → Nat → Nat} (hC : CS s mr) {n : Nat × Nat} {mi : Nat → Nat → Int32} (hT : CTab mi) {a j p v : Nat} {P : Po} {ml : Nat → Nat → Int64} (ha : s a = (21, 252)) (hP : CPo a P ml) (hj : j ≤ 5) (hp : p < 252) (h2 : 2 ≤ v) (hv : v ≤ 4) :
    G 94 0 [some (.inr (.inr 10)), some (.inl (zi j)), some (.inr (.inr a)), some (.inl (zi p)), some (.inl (zi v)), none, none, none, none] [] (s, n, mi, ml, mr) = some (some (.inr (.inl (Fj P v j (pq p)))), (s, n, mi, ml, mr)) := by
  have hb : Nat.beq (s 11).1 5 = true := by rw [kc11 hC]; rfl
  refine (b94_0 hG ..).trans ?_
  rw [gc14 hC, bind_s, hb, cnd_t, c91 hG hC hT hp h2 hv, bind_s, as_I, bind_s]
  unfold Fj
  by_cases hlt : pq p < 6 ^ v
  · rw [decide_eq_true hlt, if_pos hlt, show decide (bz true = 0) = false from rfl, cnd_f]
    refine (b94_21 hG ..).trans ?_
    have L : ∀ (f k : Nat), k + f = 5 → G 94 26 [some (.inr (.inr 10)), some (.inl (zi j)), some (.inr (.inr a)), some (.inl (zi p)), some (.inl (zi v)), some (.inr (.inl (sm k (fun k => if degc (pq p) + k < 6 then smL k j * P (pq p + k * 6 ^ v) else 0)))), none, some (.inl (chn p v k)), some (.inl (zi k))] [] (s, n, mi, ml, mr) = some (some (.inr (.inl (sm 5 (fun k => if degc (pq p) + k < 6 then smL k j * P (pq p + k * 6 ^ v) else 0)))), (s, n, mi, ml, mr)) := by
      intro f
      induction f with
      | zero =>
        intro k hk
        have e : k = 5 := by omega
        subst e
        refine (b94_26 hG ..).trans ?_
        rw [show decide ((5 : Int32) ≤ zi 5) = true from by decide, cnd_t]
        exact b94_78 hG ..
      | succ f ih =>
        intro k hk
        have c5 : decide ((5 : Int32) ≤ zi k) = false := decide_eq_false (by show ¬ zi 5 ≤ zi k; rw [zi_le (by omega) (by omega)]; omega)
        by_cases hd : degc (pq p) + k < 6
        · have hvc := chn_vc hv hlt (pq_vc hp).1 hd
          obtain ⟨q1, q2⟩ := pq_qp hvc
          have ech : chn p v k = zi (qp (pq p + k * 6 ^ v)) := by unfold chn; rw [if_pos hd]
          refine Eq.trans ?_ (ih (k + 1) (by omega))
          refine (b94_26 hG ..).trans ?_
          have c0 : decide (chn p v k < 0) = false := by rw [ech]; exact decide_eq_false (Int32.not_lt.mpr (zi_ge0 (by omega)))
          have hsm : mi 3 (6 * k + j) = smI k j := hT.2.2.2 (6 * k + j) (by omega)
          rw [c5, cnd_f, c0, cnd_f, show zi k * 6 + zi j = zi (6 * k + j) from by rw [show (6 : Int32) = zi 6 from rfl, zi_mul, zi_add, Nat.mul_comm k 6], ac3 hC (by omega), bind_s, hsm]
          rw [show hAJ ((s, n, mi, ml, mr) : Hp) a (chn p v k) = some (P (pq p + k * 6 ^ v)) from by rw [ech, raJ ha q2 (by decide), hP _ q2, q1]]
          rw [bind_s, gc14 hC, bind_s, hb, cnd_t, c8c hG hC hT hp hv hlt, bind_s, as_I, bind_s, show zi k + 1 = zi (k + 1) from zi_add k 1]
          show G 94 26 _ [] _ = G 94 26 [_, _, _, _, _, some (.inr (.inl (sm k _ + (if degc (pq p) + k < 6 then smL k j * P (pq p + k * 6 ^ v) else 0)))), _, _, _] [] _
          rw [if_pos hd]; rfl
        · have ech : chn p v k = -1 := by unfold chn; rw [if_neg hd]
          refine (b94_26 hG ..).trans ?_
          rw [c5, cnd_f, ech, show decide ((-1 : Int32) < 0) = true from by decide, cnd_t]
          refine (b94_78 hG ..).trans ?_
          rw [sm_tail (k := k) (n := 5) (by omega) (fun i h1 h2 => if_neg (by omega))]
    have h0 := L 5 0 (by omega)
    have ec : chn p v 0 = zi p := by unfold chn; rw [if_pos (by have := (pq_vc hp).2; omega), Nat.zero_mul, Nat.add_zero, qp_pq hp]
    rw [ec] at h0
    exact h0
  · rw [decide_eq_false hlt, if_neg hlt, show decide (bz false = 0) = true from rfl, cnd_t]
    refine (b94_21 hG ..).trans ((b94_26 hG ..).trans ?_)
    rw [show decide ((5 : Int32) ≤ 0) = false from by decide, cnd_f, show decide ((-1 : Int32) < 0) = true from by decide, cnd_t]
    exact b94_78 hG ..
theorem c93p {G : AG} (hG : FIX G) {s : Nat → Nat × Nat} {mr : Nat → Nat → Nat} (hC : CS s mr) {n : Nat × Nat} {mi : Nat → Nat → Int32} (hT : CTab mi) {a o N w j d nn e : Nat} {t : Nat → Nat} {P H F : Po} (ha : s a = (21, 252)) (ha39 : a ≠ 39) (ho : s o = (3, 6)) (h3 : mi o 3 = zi d) (hd : d ≤ 2) (hj : j ≤ 5) (hF : F = Fj P (2 + d) j) (hnn : nn ≤ 252) : ∀ (f p : Nat) (ml : Nat → Nat → Int64), p + f = nn → CPo a P ml → (∀ q, q < 252 → ml 39 q = if q < p then H (pq q) + F (pq q) else H (pq q)) →
    ∃ ml', G 93 25 [some (.inr (.inr 10)), some (.inr (.inr a)), some (.inl (zi w)), some (.inr (.inr o)), some (.inl (zi j)), some (.inl (zi nn)), some (.inl (zi p))] [] (s, n, mi, ml, mr) = G 93 25 [some (.inr (.inr 10)), some (.inr (.inr a)), some (.inl (zi w)), some (.inr (.inr o)), some (.inl (zi j)), some (.inl (zi nn)), some (.inl (zi nn))] [] (s, n, mi, ml', mr) ∧ (∀ q, q < 252 → ml' 39 q = if q < nn then H (pq q) + F (pq q) else H (pq q)) ∧ OF 39 ml ml'
  | 0, p, ml, hp, hP, hH => by
    have e : p = nn := by omega
    subst e
    exact ⟨ml, rfl, hH, OF_refl _ _⟩
  | f + 1, p, ml, hp, hP, hH => by
    have hp' : p < 252 := by omega
    have hHp := hH p hp'
    rw [if_neg (Nat.lt_irrefl p)] at hHp
    obtain ⟨ml', e', r1, r2⟩ := c93p hG hC (s := s) (mr := mr) (n := n) (mi := mi) hT (w := w) (N := N) (e := e) (t := t) ha ha39 ho h3 hd hj hF hnn f (p + 1) (up2 ml 39 p (H (pq p) + F (pq p))) (by omega) (CPo_mv hP (up2_n _ _ ha39)) (fun q hq => by
      rw [up2_s]
      by_cases h2 : q = p
      · rw [h2, up1_s, if_pos (Nat.lt_succ_self p)]
      · rw [up1_n _ _ h2, hH q hq]
        by_cases h : q < p
        · rw [if_pos h, if_pos (by omega)]
        · rw [if_neg h, if_neg (by omega)])
    refine ⟨ml', ?_, r1, OF_trans OF_up r2⟩
    refine Eq.trans ?_ e'
    refine (b93_25 hG ..).trans ?_
    have hb6 : Nat.beq (s 10).1 6 = true := by rw [kc10 hC]; rfl
    have hb3 : Nat.beq (s o).1 3 = true := by rw [ho]; rfl
    rw [decide_eq_false (by rw [zi_le (by omega) (by omega)]; omega : ¬ zi nn ≤ zi p), cnd_f, gc17 hC, bind_s, ac39 hC hp', bind_s, hb3, cnd_t, c90 hG hC (k := 3) ho h3, bind_s, as_I, bind_s, hb6, cnd_t, c94 hG hC hT ha hP hj hp' (by omega) (by omega), bind_s, as_J, bind_s, wc39 hC hp', bind_s, hHp, ← hF, show zi p + 1 = zi (p + 1) from zi_add p 1]
theorem c93j {G : AG} (hG : FIX G) {s : Nat → Nat × Nat} {mr : Nat → Nat → Nat} (hC : CS s mr) {n : Nat × Nat} {mi : Nat → Nat → Int32} (hT : CTab mi) {a o N w d : Nat} {t : Nat → Nat} {P : Po} (ha : s a = (21, 252)) (ha39 : a ≠ 39) (ho : s o = (3, 6)) (h3 : mi o 3 = zi d) (hd : d ≤ 2) (hE : EX s mi N (mr o 0) t) (htb : ∀ q, t q ≤ 2) (hw : w ≤ 4) (hPw : dle w P) : ∀ (j : Nat) (o5 o6 : Option AV) (ml : Nat → Nat → Int64), j ≤ w + 1 → CPo a P ml → CPo 39 (hor (fun q => zl (t q)) d w (Fj P (2 + d)) (j + 1)) ml →
    ∃ ml' p5 p6, G 93 5 [some (.inr (.inr 10)), some (.inr (.inr a)), some (.inl (zi w)), some (.inr (.inr o)), some (.inl (zi j)), o5, o6] [] (s, n, mi, ml, mr) = G 93 91 [some (.inr (.inr 10)), some (.inr (.inr a)), some (.inl (zi w)), some (.inr (.inr o)), some (.inl (zi 0)), p5, p6] [] (s, n, mi, ml', mr) ∧ CPo 39 (hor (fun q => zl (t q)) d w (Fj P (2 + d)) 1) ml' ∧ OF 39 ml ml'
  | 0, o5, o6, ml, hj, hP, hH => by
    refine ⟨ml, o5, o6, ?_, hH, OF_refl _ _⟩
    refine (b93_5 hG ..).trans ?_
    rw [show decide (zi 0 < (1 : Int32)) = true from by decide, cnd_t]
    rfl
  | j + 1, o5, o6, ml, hj, hP, hH => by
    have hj6 : w + 1 - (j + 1) ≤ 5 := by omega
    have hu := upn_le (w + 1 - (j + 1)) hj6
    obtain ⟨F, hF⟩ : ∃ F, F = Fj P (2 + d) (j + 1) := ⟨_, rfl⟩
    obtain ⟨H, hHd⟩ : ∃ H, H = hor (fun q => zl (t q)) d w (Fj P (2 + d)) (j + 2) := ⟨_, rfl⟩
    rw [← hHd] at hH
    have dF : ∀ i, 1 ≤ i → i ≤ w + 1 → dle (w + 1 - i) (Fj P (2 + d) i) := fun i h1 h2 => dle_Fj (by omega) hw h1 h2 hPw
    have dH : dle (w + 1 - (j + 1)) H := by
      have := hor_dle (e := fun q => zl (t q)) (d := d) (by omega) dF (w + 2 - (j + 2)) (j + 2) (by omega) (by omega)
      rw [← hHd] at this
      rw [show w + 1 - (j + 1) = w + 2 - (j + 2) by omega]; exact this
    have dF' : dle (w + 1 - (j + 1)) F := by rw [hF]; exact dF (j + 1) (by omega) hj
    obtain ⟨m1, e1, z1, z2⟩ := c93p hG hC hT (n := n) (w := w) (N := N) (e := 0) (t := t) (P := P) (H := H) (F := F) ha ha39 ho h3 hd (by omega : j + 1 ≤ 5) hF (by omega : upn (w + 1 - (j + 1)) ≤ 252) (upn (w + 1 - (j + 1))) 0 ml (by omega) hP (fun q hq => by rw [if_neg (Nat.not_lt_zero _)]; exact hH q hq)
    have z3 : CPo 39 (fun c => H c + F c) m1 := fun q hq => by
      rw [z1 q hq]
      by_cases h : q < upn (w + 1 - (j + 1))
      · rw [if_pos h]
      · rw [if_neg h]
        show _ = H (pq q) + F (pq q)
        rw [upn_dle dF' hj6 hq (by omega), Int64.add_zero]
    obtain ⟨m2, e2, z4, z5⟩ := c80 hG hC hT (n := n) (a := 39) (e := mr o 0) (d := d) (N := upn (w + 1 - (j + 1))) (t := t) (P := fun c => H c + F c) (cs39 hC) (by decide) hE.2.2.1 hE.2.2.2 htb (by omega) (by omega) (fun p hp h => by
      show H (pq p) + F (pq p) = 0
      rw [upn_dle dH hj6 hp h, upn_dle dF' hj6 hp h]; rfl) z3
    obtain ⟨ml', p5, p6, e', r1, r2⟩ := c93j hG hC (s := s) (mr := mr) (n := n) (mi := mi) hT ha ha39 ho h3 hd hE htb hw hPw j (some (.inl (zi (upn (w + 1 - (j + 1)))))) (some (.inl (zi (upn (w + 1 - (j + 1)))))) m2 (by omega) (CPo_mv hP (by rw [z5 a ha39, z2 a ha39])) (CPo_congr z4 (fun c hc => by rw [hor_S hj, hHd, hF]))
    refine ⟨ml', p5, p6, ?_, r1, OF_trans (OF_trans z2 z5) r2⟩
    refine Eq.trans ?_ e'
    refine (b93_5 hG ..).trans ?_
    have hb5 : Nat.beq (s 11).1 5 = true := by rw [kc11 hC]; rfl
    rw [decide_eq_false (by show ¬ zi (j + 1) < zi 1; rw [zi_lt (by omega) (by omega)]; omega : ¬ zi (j + 1) < (1 : Int32)), cnd_f, show (zi w + 1) - zi (j + 1) = zi (w + 1 - (j + 1)) from by rw [show (1 : Int32) = zi 1 from rfl, zi_add, zi_sub hj], c79 hG hC hT hj6, bind_s, as_I, bind_s]
    refine e1.trans ?_
    refine (b93_25 hG ..).trans ?_
    rw [decide_eq_true (by rw [zi_le (by omega) (by omega)]; exact Nat.le_refl _ : zi (upn (w + 1 - (j + 1))) ≤ zi (upn (w + 1 - (j + 1)))), cnd_t, gc14 hC, bind_s, gc17 hC, bind_s, rgR ho hF3_0, bind_s, rgI ho hF3_3, bind_s, h3, hb5, cnd_t, e2, bind_s, as_V, bind_s, zi_dec]
theorem c93d {G : AG} (hG : FIX G) {s : Nat → Nat × Nat} {mr : Nat → Nat → Nat} (hC : CS s mr) {n : Nat × Nat} {mi : Nat → Nat → Int32} {a o w : Nat} {b : Bool} {P : Po} {p5 p6 : Option AV} : ∀ (f p : Nat) (ml : Nat → Nat → Int64), p + f = 252 → (∀ q, q < 252 → ml 39 q = if q < p then P (pq q) / 60 else P (pq q)) →
    ∃ ml', G 93 91 [some (.inr (.inr 10)), some (.inr (.inr a)), some (.inl (zi w)), some (.inr (.inr o)), some (.inl (zi p)), p5, p6] [] (s, n, up2 mi 10 20 (bz (b || !dvq P p)), ml, mr) = some (none, (s, n, up2 mi 10 20 (bz (b || !dvq P 252)), ml', mr)) ∧ CPo 39 (fun c => P c / 60) ml' ∧ OF 39 ml ml'
  | 0, p, ml, hp, hP => by
    have e : p = 252 := by omega
    subst e
    refine ⟨ml, ?_, fun q hq => by rw [hP q hq, if_pos hq], OF_refl _ _⟩
    refine (b93_91 hG ..).trans ?_
    rw [show decide ((252 : Int32) ≤ zi 252) = true from by decide, cnd_t]
  | f + 1, p, ml, hp, hP => by
    have hp' : p < 252 := by omega
    have hPp := hP p hp'
    rw [if_neg (Nat.lt_irrefl p)] at hPp
    obtain ⟨ml', e', r1, r2⟩ := c93d hG hC (s := s) (mr := mr) (n := n) (mi := mi) (a := a) (o := o) (w := w) (b := b) (p5 := p5) (p6 := p6) f (p + 1) (up2 ml 39 p (P (pq p) / 60)) (by omega) (fun q hq => by
      rw [up2_s]
      by_cases h2 : q = p
      · rw [h2, up1_s, if_pos (Nat.lt_succ_self p)]
      · rw [up1_n _ _ h2, hP q hq]
        by_cases h : q < p
        · rw [if_pos h, if_pos (by omega)]
        · rw [if_neg h, if_neg (by omega)])
    refine ⟨ml', ?_, r1, OF_trans OF_up r2⟩
    refine Eq.trans ?_ e'
    have c0 : decide ((252 : Int32) ≤ zi p) = false := decide_eq_false (by show ¬ zi 252 ≤ zi p; rw [zi_le (by omega) (by omega)]; omega)
    refine (b93_91 hG ..).trans ?_
    rw [c0, cnd_f, gc17 hC, bind_s, ac39 hC hp', bind_s, hPp, if60, bind_s, cmp_eq0]
    have e120 : ∀ b1 : Bool, b1 = (b || !dvq P (p + 1)) → G 93 120 [some (.inr (.inr 10)), some (.inr (.inr a)), some (.inl (zi w)), some (.inr (.inr o)), some (.inl (zi p)), p5, p6] [] (s, n, up2 mi 10 20 (bz b1), ml, mr) = G 93 91 [some (.inr (.inr 10)), some (.inr (.inr a)), some (.inl (zi w)), some (.inr (.inr o)), some (.inl (zi (p + 1))), p5, p6] [] (s, n, up2 mi 10 20 (bz (b || !dvq P (p + 1))), up2 ml 39 p (P (pq p) / 60), mr) := by
      intro b1 hb
      refine (b93_120 hG ..).trans ?_
      rw [gc17 hC, bind_s, ac39 hC hp', bind_s, hPp, if60, bind_s, wc39 hC hp', bind_s, hb, show zi p + 1 = zi (p + 1) from zi_add p 1]
    by_cases hz : P (pq p) - P (pq p) / 60 * 60 = 0
    · rw [decide_eq_true hz, cnd_t]
      exact e120 _ (by rw [dvq_S, decide_eq_true hz, Bool.and_true])
    · rw [decide_eq_false hz, cnd_f, show (1 : Int32) = zi 1 from rfl, pc20l hC, bind_s, up2_2]
      exact e120 _ (by rw [dvq_S, decide_eq_false hz, Bool.and_false, Bool.not_false, Bool.or_true])
theorem c93 {G : AG} (hG : FIX G) {s : Nat → Nat × Nat} {mr : Nat → Nat → Nat} (hC : CS s mr) {n : Nat × Nat} {mi : Nat → Nat → Int32} (hT : CTab mi) {a o N w d : Nat} {b : Bool} {t : Nat → Nat} {P : Po} {ml : Nat → Nat → Int64} (ha : s a = (21, 252)) (ha39 : a ≠ 39) (ho : s o = (3, 6)) (ho4 : 142 ≤ o) (h3 : mi o 3 = zi d) (hd : d ≤ 2) (hE : EX s mi N (mr o 0) t) (htb : ∀ q, t q ≤ 2) (hw : w ≤ 4) (hPw : dle w P) (hPv : vlt (3 + d) P) (hP : CPo a P ml) (h0 : ∀ q, q < 252 → ml 39 q = 0) :
    ∃ ml', G 93 0 [some (.inr (.inr 10)), some (.inr (.inr a)), some (.inl (zi w)), some (.inr (.inr o)), none, none, none] [] (s, n, up2 mi 10 20 (bz b), ml, mr) = some (none, (s, n, up2 mi 10 20 (bz (b || !dv6 (sumS P t d) 252)), ml', mr)) ∧ CPo 39 (fun c => sumS P t d c / 60) ml' ∧ OF 39 ml ml' := by
  have h3' : (up2 mi 10 20 (bz b)) o 3 = zi d := by rw [up2_n _ _ (by omega)]; exact h3
  have hE' : EX s (up2 mi 10 20 (bz b)) N (mr o 0) t := ⟨hE.1, hE.2.1, hE.2.2.1, fun q hq => by rw [up2_n _ _ (by have := hE.1; omega)]; exact hE.2.2.2 q hq⟩
  have hh : peq (hor (fun q => zl (t q)) d w (Fj P (2 + d)) 1) (sumS P t d) := by
    refine peq_symm (peq_trans (sumS_eq hd hPv) (fun c hc => ?_))
    unfold hor
    rw [show w + 2 - 1 = w + 1 by omega]
    refine (sm_tail (by omega) (fun j h1 h2 => ?_)).trans (sm_congr (fun j _ => by rw [Nat.add_comm 1 j]))
    rw [pwE_congr (by omega) (Fj_far (by omega) hw (by omega) (by omega) hPw) (j + 1) c hc]
    have hz : ∀ i, peq (pwE (fun q => zl (t q)) d i (fun _ => 0)) (fun _ => 0) := by
      intro i
      induction i with
      | zero => exact peq_refl _
      | succ i ih => exact fun x hx => (mulE_congr (by omega) ih x hx).trans (mulE_sm (Q := fun _ _ => 0) x 0)
    exact hz _ c hc
  obtain ⟨m1, p5, p6, e1, z1, z2⟩ := c93j hG hC (CTab_10 hT) (n := n) ha ha39 ho h3' hd hE' htb hw hPw (w + 1) none none ml (Nat.le_refl _) hP (fun q hq => by
    rw [h0 q hq]; unfold hor; rw [show w + 2 - (w + 1 + 1) = 0 by omega]; rfl)
  obtain ⟨m2, e2, z3, z4⟩ := c93d hG hC (n := n) (mi := mi) (a := a) (o := o) (w := w) (b := b) (p5 := p5) (p6 := p6) (P := hor (fun q => zl (t q)) d w (Fj P (2 + d)) 1) 252 0 m1 (by omega) (fun q hq => by rw [if_neg (Nat.not_lt_zero _)]; exact z1 q hq)
  refine ⟨m2, ?_, CPo_congr z3 (fun c hc => by show _ / _ = _ / _; rw [hh c hc]), OF_trans z2 z4⟩
  rw [← dvq_dv6 hh]
  refine (b93_0 hG ..).trans ?_
  rw [show zi w + 1 = zi (w + 1) from zi_add w 1]
  refine e1.trans (Eq.trans ?_ e2)
  rw [dvq, Bool.not_true, Bool.or_false]