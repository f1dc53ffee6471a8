/-! the class: chains of a counter, powers of a row, sums of powers -/
/-- a product times a power of a variable, or -1 -/
def chn (p v k : Nat) : Int32 := if degc (pq p) + k < 6 then zi (qp (pq p + k * 6 ^ v)) else -1
theorem dg_low {c v k : Nat} (hv : v ≤ 4) (hc : c < 6 ^ v) (hk : k < 6) (h7 : c < 7776) : c + k * 6 ^ v < 7776 ∧ degc (c + k * 6 ^ v) = degc c + k ∧ dgv (c + k * 6 ^ v) v = k ∧ rst (c + k * 6 ^ v) v = c := by
  have hp : 0 < 6 ^ v := Nat.pow_pos (by decide)
  have hdiv : (c + k * 6 ^ v) / 6 ^ v = k := by
    rw [Nat.add_mul_div_right _ _ hp, Nat.div_eq_of_lt hc, Nat.zero_add]
  have hdg : dgv (c + k * 6 ^ v) v = k := by
    show (c + k * 6 ^ v) / 6 ^ v % 6 = k
    rw [hdiv, Nat.mod_eq_of_lt hk]
  refine ⟨?_, ?_, hdg, ?_⟩
  · rcases lowm (by omega : v ≤ 5) with rfl | rfl | rfl | rfl | rfl | rfl <;> simp only [Nat.reducePow] at hc ⊢ <;> omega
  · obtain ⟨a0, a1, a2, a3, a4, h0, h1, h2, h3, h4, rfl⟩ := dgs h7
    obtain ⟨A0, A1, A2, A3, A4⟩ := mk6_dg h0 h1 h2 h3 h4
    have dA : degc (mk6 a0 a1 a2 a3 a4) = a0 + a1 + a2 + a3 + a4 := by
      show _ % 6 + _ / 6 % 6 + _ / 36 % 6 + _ / 216 % 6 + _ / 1296 % 6 = _
      rw [A0, A1, A2, A3, A4]
    rw [dA]
    clear dA A0 A1 A2 A3 A4 hdiv hdg
    have key : ∀ b0 b1 b2 b3 b4, b0 < 6 → b1 < 6 → b2 < 6 → b3 < 6 → b4 < 6 → degc (mk6 b0 b1 b2 b3 b4) = b0 + b1 + b2 + b3 + b4 := by
      intro b0 b1 b2 b3 b4 k0 k1 k2 k3 k4
      obtain ⟨B0, B1, B2, B3, B4⟩ := mk6_dg k0 k1 k2 k3 k4
      show _ % 6 + _ / 6 % 6 + _ / 36 % 6 + _ / 216 % 6 + _ / 1296 % 6 = _
      rw [B0, B1, B2, B3, B4]
    rcases (by omega : v = 0 ∨ v = 1 ∨ v = 2 ∨ v = 3 ∨ v = 4) with rfl | rfl | rfl | rfl | rfl <;> simp only [Nat.reducePow] at hc ⊢
    · have e : mk6 a0 a1 a2 a3 a4 + k * 1 = mk6 k 0 0 0 0 := by unfold mk6 at hc ⊢; omega
      rw [e, key _ _ _ _ _ hk (by decide) (by decide) (by decide) (by decide)]; unfold mk6 at hc; omega
    · have e : mk6 a0 a1 a2 a3 a4 + k * 6 = mk6 a0 k 0 0 0 := by unfold mk6 at hc ⊢; omega
      rw [e, key _ _ _ _ _ h0 hk (by decide) (by decide) (by decide)]; unfold mk6 at hc; omega
    · have e : mk6 a0 a1 a2 a3 a4 + k * 36 = mk6 a0 a1 k 0 0 := by unfold mk6 at hc ⊢; omega
      rw [e, key _ _ _ _ _ h0 h1 hk (by decide) (by decide)]; unfold mk6 at hc; omega
    · have e : mk6 a0 a1 a2 a3 a4 + k * 216 = mk6 a0 a1 a2 k 0 := by unfold mk6 at hc ⊢; omega
      rw [e, key _ _ _ _ _ h0 h1 h2 hk (by decide)]; unfold mk6 at hc; omega
    · have e : mk6 a0 a1 a2 a3 a4 + k * 1296 = mk6 a0 a1 a2 a3 k := by unfold mk6 at hc ⊢; omega
      rw [e, key _ _ _ _ _ h0 h1 h2 h3 hk]; unfold mk6 at hc; omega
  · show c + k * 6 ^ v - dgv (c + k * 6 ^ v) v * 6 ^ v = c
    rw [hdg]; omega
theorem chn_vc {c v k : Nat} (hv : v ≤ 4) (hc : c < 6 ^ v) (h7 : c < 7776) (hd : degc c + k < 6) : vc (c + k * 6 ^ v) := by
  obtain ⟨h1, h2, -, -⟩ := dg_low hv hc (by omega : k < 6) h7
  exact ⟨h1, by omega⟩
theorem c8n {G : AG} (hG : FIX G) {s : Nat → Nat × Nat} {mr : Nat → Nat → Nat} (hC : CS s mr) (x : Int32) (H : Hp) : G 8 0 [some (.inr (.inr 11)), some (.inl (-1)), some (.inl x)] [] H = some (some (.inl (-1)), H) := by
  refine (b8_0 hG ..).trans ?_
  rw [show decide ((-1 : Int32) < 0) = true from by decide, cnd_t]
  exact b8_20 hG ..
theorem c8t {G : AG} (hG : FIX G) {s : Nat → Nat × Nat} {mr : Nat → Nat → Nat} (hC : CS s mr) {n : Nat × Nat} {mi : Nat → Nat → Int32} (hT : CTab mi) {p v : Nat} {ml : Nat → Nat → Int64} (hp : p < 252) (hv : v < 5) : G 8 0 [some (.inr (.inr 11)), some (.inl (zi p)), some (.inl (zi v))] [] (s, n, mi, ml, mr) = some (some (.inl (if degc (pq p) < 5 then zi (qp (pq p + 6 ^ v)) else -1)), (s, n, mi, ml, mr)) := by
  refine (b8_0 hG ..).trans ?_
  have c1 : decide (zi p < 0) = false := decide_eq_false (Int32.not_lt.mpr (zi_ge0 (by omega)))
  have c2 : decide ((252 : Int32) ≤ zi p) = false := decide_eq_false (by show ¬ zi 252 ≤ zi p; rw [zi_le (by omega) (by omega)]; omega)
  have c3 : decide (zi v < 0) = false := decide_eq_false (Int32.not_lt.mpr (zi_ge0 (by omega)))
  have c4 : decide (zi v < (5 : Int32)) = true := decide_eq_true (by show zi v < zi 5; rw [zi_lt (by omega) (by omega)]; omega)
  rw [c1, c2, c3, c4, cnd_f, cnd_f, cnd_f, cnd_t, gc12 hC, bind_s, ac12 hC hv, bind_s, acT hC hv hp, bind_s, hT.1 v p hv hp]
theorem c8c {G : AG} (hG : FIX G) {s : Nat → Nat × Nat} {mr : Nat → Nat → Nat} (hC : CS s mr) {n : Nat × Nat} {mi : Nat → Nat → Int32} (hT : CTab mi) {p v k : Nat} {ml : Nat → Nat → Int64} (hp : p < 252) (hv : v ≤ 4) (hpv : pq p < 6 ^ v) : G 8 0 [some (.inr (.inr 11)), some (.inl (chn p v k)), some (.inl (zi v))] [] (s, n, mi, ml, mr) = some (some (.inl (chn p v (k + 1))), (s, n, mi, ml, mr)) := by
  unfold chn
  by_cases h : degc (pq p) + k < 6
  · have hvc := chn_vc hv hpv (pq_vc hp).1 h
    obtain ⟨q1, q2⟩ := pq_qp hvc
    have hd := (dg_low hv hpv (by omega : k < 6) (pq_vc hp).1).2.1
    rw [if_pos h, c8t hG hC hT q2 (by omega), q1, hd, Nat.add_assoc, show pq p + (k * 6 ^ v + 6 ^ v) = pq p + (k + 1) * 6 ^ v by rw [Nat.succ_mul]]
    by_cases h2 : degc (pq p) + k < 5
    · rw [if_pos h2, if_pos (by omega)]
    · rw [if_neg h2, if_neg (by omega)]
  · rw [if_neg h, if_neg (by omega)]
    exact c8n hG hC _ _
theorem c90 {G : AG} (hG : FIX G) {s : Nat → Nat × Nat} {mr : Nat → Nat → Nat} (hC : CS s mr) {n : Nat × Nat} {mi : Nat → Nat → Int32} {o k d : Nat} {ml : Nat → Nat → Int64} (hs : s o = osh k) (h3 : mi o 3 = zi d) : G 90 0 [some (.inr (.inr o))] [] (s, n, mi, ml, mr) = some (some (.inl (zi (2 + d))), (s, n, mi, ml, mr)) := by
  refine (b90_0 hG ..).trans ?_
  rw [opF3 hs, bind_s, h3, show (2 : Int32) + zi d = zi (2 + d) from zi_add 2 d]
theorem c91 {G : AG} (hG : FIX G) {s : Nat → Nat × Nat} {mr : Nat → Nat → Nat} (hC : CS s mr) {n : Nat × Nat} {mi : Nat → Nat → Int32} (hT : CTab mi) {p v : Nat} {ml : Nat → Nat → Int64} (hp : p < 252) (h2 : 2 ≤ v) (hv : v ≤ 4) : G 91 0 [some (.inr (.inr 11)), some (.inl (zi p)), some (.inl (zi v))] [] (s, n, mi, ml, mr) = some (some (.inl (bz (decide (pq p < 6 ^ v)))), (s, n, mi, ml, mr)) := by
  refine (b91_0 hG ..).trans ?_
  have c1 : decide (zi p < 0) = false := decide_eq_false (Int32.not_lt.mpr (zi_ge0 (by omega)))
  have c2 : decide ((252 : Int32) ≤ zi p) = false := decide_eq_false (by show ¬ zi 252 ≤ zi p; rw [zi_le (by omega) (by omega)]; omega)
  obtain ⟨l1, l2⟩ := lv_ok hp h2 hv
  rw [c1, c2, cnd_f, cnd_f, gc13 hC, bind_s, ac18 hC hp, bind_s, hT.2.1 p hp]
  by_cases h : lv p < v
  · rw [decide_eq_false (by rw [zi_le (by omega) (by omega)]; omega : ¬ zi v ≤ zi (lv p)), cnd_f, decide_eq_true (l2.mp h)]
    exact b91_26 hG ..
  · rw [decide_eq_true (by rw [zi_le (by omega) (by omega)]; omega : zi v ≤ zi (lv p)), cnd_t, decide_eq_false (fun h' => h (l2.mpr h'))]
    exact (b91_25 hG ..).trans (b91_26 hG ..)
theorem c92P {G : AG} (hG : FIX G) {s : Nat → Nat × Nat} {mr : Nat → Nat → Nat} (hC : CS s mr) {k t0 i : Nat} {acc : Int64} (hk : k ≤ 5) (hi : i ≤ 2) (H : Hp) : ∀ (f j : Nat), j + f = k → G 92 23 [some (.inl (zi k)), some (.inl (zi t0)), some (.inr (.inl acc)), none, some (.inl (zi i)), some (.inr (.inl (ipw (zl i) j))), none, some (.inl (zi j))] [] H = G 92 5 [some (.inl (zi k)), some (.inl (zi t0)), some (.inr (.inl (acc + ipw (zl i) k))), none, some (.inl (zi (i + 1))), some (.inr (.inl (ipw (zl i) k))), none, some (.inl (zi k))] [] H
  | 0, j, h => by
    have e : j = k := by omega
    subst e
    refine (b92_23 hG ..).trans ?_
    simp (disch := omega) only [zi_le, Nat.le_refl, decide_true, cnd_t, zi_lit, zi_add]
  | f + 1, j, h => by
    refine Eq.trans ?_ (c92P hG hC (s := s) (mr := mr) hk hi H f (j + 1) (by omega))
    refine (b92_23 hG ..).trans ?_
    simp (disch := omega) only [zi_le, eq_false (by omega : ¬ k ≤ j), decide_false, cnd_f, zi_lit, zi_add, zi_64]
    rfl
theorem c92 {G : AG} (hG : FIX G) {s : Nat → Nat × Nat} {mr : Nat → Nat → Nat} (hC : CS s mr) {k t0 : Nat} (hk : k ≤ 5) (ht : t0 ≤ 2) (H : Hp) : G 92 0 [some (.inl (zi k)), some (.inl (zi t0)), none, none, none, none, none, none] [] H = some (some (.inr (.inl (sm t0 (fun i => ipw (zl (i + 1)) k)))), H) := by
  have st : ∀ (i : Nat) (acc : Int64) (o5 o7 : Option AV), i ≤ 2 → 1 ≤ i → i ≤ t0 → G 92 5 [some (.inl (zi k)), some (.inl (zi t0)), some (.inr (.inl acc)), none, some (.inl (zi i)), o5, none, o7] [] H = G 92 5 [some (.inl (zi k)), some (.inl (zi t0)), some (.inr (.inl (acc + ipw (zl i) k))), none, some (.inl (zi (i + 1))), some (.inr (.inl (ipw (zl i) k))), none, some (.inl (zi k))] [] H := by
    intro i acc o5 o7 h1 h2 h3
    refine Eq.trans ?_ (c92P hG hC hk h1 H k 0 (by omega))
    refine (b92_5 hG ..).trans ?_
    simp (disch := omega) only [zi_lit, zi_lt, eq_false (by omega : ¬ t0 < i), eq_false (by omega : ¬ 2 < i), decide_false, cnd_f]
    rfl
  have en : ∀ (acc : Int64) (o5 o7 : Option AV), G 92 5 [some (.inl (zi k)), some (.inl (zi t0)), some (.inr (.inl acc)), none, some (.inl (zi (t0 + 1))), o5, none, o7] [] H = some (some (.inr (.inl acc)), H) := by
    intro acc o5 o7
    refine (b92_5 hG ..).trans ?_
    simp (disch := omega) only [zi_lit, zi_lt, eq_true (by omega : t0 < t0 + 1), decide_true, cnd_t, b92_54 hG]
  refine (b92_0 hG ..).trans ?_
  have ht' : t0 = 0 ∨ t0 = 1 ∨ t0 = 2 := by omega
  rcases ht' with rfl | rfl | rfl
  · exact en 0 none none
  · refine (st 1 0 none none (by decide) (by decide) (by decide)).trans ?_
    exact en _ _ _
  · refine (st 1 0 none none (by decide) (by decide) (by decide)).trans ((st 2 _ _ _ (by decide) (by decide) (by decide)).trans ?_)
    exact en _ _ _
theorem c88 {G : AG} (hG : FIX G) {s : Nat → Nat × Nat} {mr : Nat → Nat → Nat} (hC : CS s mr) {n : Nat × Nat} {mi : Nat → Nat → Int32} {o N d : Nat} {t : Nat → Nat} {ml : Nat → Nat → Int64} (hs : s o = (3, 6)) (h3 : mi o 3 = zi d) (hd : d ≤ 3) (hE : EX s mi N (mr o 0) t) (htb : ∀ q, t q ≤ 2) : G 88 0 [some (.inr (.inr o)), none] [] (s, n, mi, ml, mr) = some (some (.inl (bz (aln t (2 + d)))), (s, n, mi, ml, mr)) := by
  have L : ∀ (f v : Nat), v + f = 2 + d → aln t v = true → G 88 2 [some (.inr (.inr o)), some (.inl (zi v))] [] (s, n, mi, ml, mr) = some (some (.inl (bz (aln t (2 + d)))), (s, n, mi, ml, mr)) := by
    intro f
    induction f with
    | zero =>
      intro v hv ha
      have e : v = 2 + d := by omega
      subst e
      refine (b88_2 hG ..).trans ?_
      rw [rgI hs hF3_3, bind_s, h3, show (2 : Int32) + zi d = zi (2 + d) from zi_add 2 d, decide_eq_true (by rw [zi_le (by omega) (by omega)]; exact Nat.le_refl _ : zi (2 + d) ≤ zi (2 + d)), cnd_t, ha]
      exact b88_36 hG ..
    | succ f ih =>
      intro v hv ha
      refine (b88_2 hG ..).trans ?_
      have ht := htb (1 + v)
      have c5 : decide ((5 : Int32) ≤ zi v) = false := decide_eq_false (by show ¬ zi 5 ≤ zi v; rw [zi_le (by omega) (by omega)]; omega)
      rw [rgI hs hF3_3, bind_s, h3, show (2 : Int32) + zi d = zi (2 + d) from zi_add 2 d, decide_eq_false (by rw [zi_le (by omega) (by omega)]; omega : ¬ zi (2 + d) ≤ zi v), cnd_f, c5, cnd_f, rgR hs hF3_0, bind_s, show (1 : Int32) + zi v = zi (1 + v) from zi_add 1 v, raI hE.2.2.1 (by omega) (by decide), bind_s, hE.2.2.2 (1 + v) (by omega)]
      by_cases hz : t (1 + v) = 0
      · rw [hz, show decide (zi 0 = 0) = true from by decide, cnd_t, show zi v + 1 = zi (v + 1) from zi_add v 1]
        exact ih (v + 1) (by omega) (by rw [aln, ha, hz]; rfl)
      · rw [decide_eq_false (by show ¬ zi (t (1 + v)) = zi 0; rw [zi_eq (by omega) (by omega)]; exact hz), cnd_f]
        have h0 : aln t (v + 1) = false := by rw [aln, decide_eq_false hz, Bool.and_false]
        have hm : ∀ x, aln t (v + 1 + x) = false := by
          intro x
          induction x with
          | zero => exact h0
          | succ x ih2 => show (aln t (v + 1 + x) && _) = false; rw [ih2]; rfl
        have := hm f
        rw [show v + 1 + f = 2 + d by omega] at this
        rw [this]; rfl
  refine (b88_0 hG ..).trans ?_
  exact L (2 + d) 0 (by omega) rfl
theorem c87 {G : AG} (hG : FIX G) {s : Nat → Nat × Nat} {mr : Nat → Nat → Nat} (hC : CS s mr) {n : Nat × Nat} {mi : Nat → Nat → Int32} (hT : CTab mi) {a : Nat} {P : Po} {ml : Nat → Nat → Int64} (ha : s a = (21, 252)) (hP : CPo a P ml) : ∃ w, w ≤ 5 ∧ G 87 0 [some (.inr (.inr a)), none, none] [] (s, n, mi, ml, mr) = some (some (.inl (zi w)), (s, n, mi, ml, mr)) ∧ (∀ p, p < 252 → upn w ≤ p → P (pq p) = 0) ∧ (w = 5 → ∃ p, p < 252 ∧ 126 ≤ p ∧ P (pq p) ≠ 0) := by
  have L1 : ∀ p, p < 252 → (∀ q, p < q → q < 252 → P (pq q) = 0) → ∃ p', p' < 252 ∧ G 87 4 [some (.inr (.inr a)), some (.inl (zi p)), none] [] (s, n, mi, ml, mr) = G 87 24 [some (.inr (.inr a)), some (.inl (zi p')), some (.inl (zi 0))] [] (s, n, mi, ml, mr) ∧ (∀ q, p' < q → q < 252 → P (pq q) = 0) ∧ (p' ≠ 0 → P (pq p') ≠ 0) := by
    intro p
    induction p with
    | zero =>
      intro _ hz
      refine ⟨0, by decide, ?_, hz, fun h => absurd rfl h⟩
      refine (b87_4 hG ..).trans ?_
      rw [show decide (zi 0 ≤ 0) = true from by decide, cnd_t]
      exact b87_22 hG ..
    | succ p ih =>
      intro hp hz
      have c0 : decide (zi (p + 1) ≤ 0) = false := decide_eq_false (by show ¬ zi (p + 1) ≤ zi 0; rw [zi_le (by omega) (by omega)]; omega)
      by_cases h : P (pq (p + 1)) = 0
      · obtain ⟨p', h1, h2, h3, h4⟩ := ih (by omega) (fun q hq hq2 => by
          by_cases e : q = p + 1
          · rw [e]; exact h
          · exact hz q (by omega) hq2)
        refine ⟨p', h1, Eq.trans ?_ h2, h3, h4⟩
        refine (b87_4 hG ..).trans ?_
        rw [c0, cnd_f, raJ ha hp (by decide), bind_s, hP _ hp, cmp_ne0, decide_eq_false (not_not_intro h), cnd_f, zi_dec]
      · refine ⟨p + 1, hp, ?_, hz, fun _ => h⟩
        refine (b87_4 hG ..).trans ?_
        rw [c0, cnd_f, raJ ha hp (by decide), bind_s, hP _ hp, cmp_ne0, decide_eq_true h, cnd_t]
        exact b87_22 hG ..
  have L2 : ∀ (p : Nat), p < 252 → ∀ (f w : Nat), w + f = 5 → (w = 0 ∨ upn (w - 1) ≤ p) → ∃ w', w' ≤ 5 ∧ G 87 24 [some (.inr (.inr a)), some (.inl (zi p)), some (.inl (zi w))] [] (s, n, mi, ml, mr) = some (some (.inl (zi w')), (s, n, mi, ml, mr)) ∧ p < upn w' ∧ (w' = 0 ∨ upn (w' - 1) ≤ p) := by
    intro p hp f
    induction f with
    | zero =>
      intro w hw h
      have e : w = 5 := by omega
      subst e
      refine ⟨5, by decide, ?_, hp, h⟩
      refine (b87_24 hG ..).trans ?_
      rw [show decide ((5 : Int32) ≤ zi 5) = true from by decide, cnd_t]
      exact b87_44 hG ..
    | succ f ih =>
      intro w hw h
      have c5 : decide ((5 : Int32) ≤ zi w) = false := decide_eq_false (by show ¬ zi 5 ≤ zi w; rw [zi_le (by omega) (by omega)]; omega)
      have hu := upn_le w (by omega)
      by_cases hlt : p < upn w
      · refine ⟨w, by omega, ?_, hlt, h⟩
        refine (b87_24 hG ..).trans ?_
        rw [c5, cnd_f, ac2 hC (by omega), bind_s, hT.2.2.1 w (by omega), decide_eq_true (by rw [zi_lt (by omega) (by omega)]; exact hlt : zi p < zi (upn w)), cnd_t]
        exact b87_44 hG ..
      · obtain ⟨w', h1, h2, h3, h4⟩ := ih (w + 1) (by omega) (Or.inr (by rw [Nat.add_sub_cancel]; omega))
        refine ⟨w', h1, Eq.trans ?_ h2, h3, h4⟩
        refine (b87_24 hG ..).trans ?_
        rw [c5, cnd_f, ac2 hC (by omega), bind_s, hT.2.2.1 w (by omega), decide_eq_false (by rw [zi_lt (by omega) (by omega)]; exact hlt : ¬ zi p < zi (upn w)), cnd_f, show zi w + 1 = zi (w + 1) from zi_add w 1]
  obtain ⟨p', h1, h2, h3, h4⟩ := L1 251 (by decide) (fun q h1 h2 => by omega)
  obtain ⟨w, g1, g2, g3, g4⟩ := L2 p' h1 5 0 (by omega) (Or.inl rfl)
  refine ⟨w, g1, (b87_0 hG ..).trans (h2.trans g2), fun p hp hw => h3 p (by omega) hp, fun e => ?_⟩
  subst e
  have h126 : (126 : Nat) ≤ p' := by
    rcases g4 with h | h
    · exact absurd h (by decide)
    · exact h
  exact ⟨p', h1, h126, h4 (by omega)⟩