/-! the class: a row times an expression -/
theorem neg1_ne {g : Nat} (h : g < 2147483648) : (zi g = -1) = False := by
  refine eq_false (fun e => ?_)
  have h1 := congrArg Int32.toInt e
  rw [zi_ti h] at h1
  have h2 : (-1 : Int32).toInt = -1 := rfl
  rw [h2] at h1
  omega
theorem lt0_zi {a : Nat} (h : a < 2147483648) : (zi a < 0) = False := eq_false (Int32.not_lt.mpr (zi_ge0 h))
theorem lt0_m1 : decide (zi 0 + (-1) < 0) = true := by decide
/-- rows: what stands when all products from K on are done -/
def mst (e : Nat → Int64) (d K : Nat) (P : Po) : Po := fun c => lop K P c + mulE e d (hip K P) c
theorem mst_0 (e d P) (hd : d ≤ 3) : peq (mst e d 0 P) (mulE e d P) := by
  intro c hc
  unfold mst lop
  rw [if_pos (Nat.zero_le _), Int64.zero_add]
  exact mulE_congr hd (fun x _ => by unfold hip; rw [if_pos (Nat.zero_le _)]) c hc
theorem mst_N {e d N P} (hd : d ≤ 3) (h : ∀ p, p < 252 → N ≤ p → P (pq p) = 0) : peq (mst e d N P) P := by
  intro c hc
  have h0 : peq (hip N P) (fun _ => 0) := fun x hx => by
    unfold hip
    split
    · rename_i hle
      have := h (qp x) (pq_qp hx).2 hle
      rw [(pq_qp hx).1] at this; exact this
    · rfl
  unfold mst
  rw [mulE_congr hd h0 c hc, show mulE e d (fun _ => 0) c = 0 from sm_zero (fun v _ => by
    show e v * Sh (sv v) (fun _ => 0) c = 0
    unfold Sh
    split <;> exact Int64.mul_zero), Int64.add_zero]
  unfold lop
  split
  · rename_i hle
    have := h (qp c) (pq_qp hc).2 hle
    rw [(pq_qp hc).1] at this; exact this.symm
  · rfl
theorem mst_at {e d K P} (hd : d ≤ 3) (hK : K < 252) : mst e d (K + 1) P (pq K) = P (pq K) := by
  unfold mst
  rw [mulE_low hd hK, Int64.add_zero]
  unfold lop
  rw [qp_pq hK, if_neg (by omega)]
theorem mst_S {e d K P} (hd : d ≤ 3) (hK : K < 252) : peq (mst e d K P) (fun c => (if c = pq K then P (pq K) * e 0 else mst e d (K + 1) P c) + sm (2 + d) (fun v => P (pq K) * (e (v + 1) * Sh (6 ^ v) (del (pq K)) c))) := by
  intro c hc
  show lop K P c + mulE e d (hip K P) c = _
  rw [mulE_congr hd (hip_S hK) c hc, mulE_add, mulE_sc, mulE_del, Int64.mul_add, sm_mul, Sh_s0 _ _ hc.1, ← Int64.add_assoc (mulE e d (hip (K + 1) P) c), ← Int64.add_assoc (lop K P c)]
  congr 1
  by_cases hq : c = pq K
  · subst hq
    rw [mulE_low hd hK, if_pos rfl, Int64.zero_add]
    unfold lop del
    rw [qp_pq hK, if_pos (Nat.le_refl _), if_pos rfl, Int64.zero_add, Int64.mul_one]
  · rw [if_neg hq]
    have h1 : qp c ≠ K := fun h => hq (by rw [← h, (pq_qp hc).1])
    unfold mst lop del
    rw [if_neg hq, Int64.mul_zero, Int64.mul_zero, Int64.add_zero]
    by_cases h : K ≤ qp c
    · rw [if_pos h, if_pos (by omega)]
    · rw [if_neg h, if_neg (by omega)]
theorem c80v {G : AG} (hG : FIX G) {s : Nat → Nat × Nat} {mr : Nat → Nat → Nat} (hC : CS s mr) {n : Nat × Nat} {mi : Nat → Nat → Int32} (hT : CTab mi) {a e d K N : Nat} {t : Nat → Nat} {w : Int64} {B : Po} (ha : s a = (21, 252)) (ha4 : 4 ≤ a) (he : s e = (20, 6)) (het : ∀ q, q < 6 → mi e q = zi (t q)) (htb : ∀ q, t q ≤ 2) (hd : d ≤ 3) (hK : K < 252) : ∀ (f v : Nat) (o10 : Option AV) (ml : Nat → Nat → Int64), v + f = 2 + d → (∀ q, q < 252 → ml a q = B (pq q) + sm v (fun u => w * (zl (t (u + 1)) * Sh (6 ^ u) (del (pq K)) (pq q)))) →
    ∃ ml' p10, G 80 49 [some (.inr (.inr 11)), some (.inr (.inr a)), some (.inl (zi N)), some (.inr (.inr e)), some (.inl (zi d)), some (.inl (zi (2 + d))), some (.inl (zi K)), some (.inr (.inl w)), none, some (.inl (zi v)), o10] [] (s, n, mi, ml, mr) = G 80 103 [some (.inr (.inr 11)), some (.inr (.inr a)), some (.inl (zi N)), some (.inr (.inr e)), some (.inl (zi d)), some (.inl (zi (2 + d))), some (.inl (zi K)), some (.inr (.inl w)), none, some (.inl (zi (2 + d))), p10] [] (s, n, mi, ml', mr) ∧ (∀ q, q < 252 → ml' a q = B (pq q) + sm (2 + d) (fun u => w * (zl (t (u + 1)) * Sh (6 ^ u) (del (pq K)) (pq q)))) ∧ OF a ml ml'
  | 0, v, o10, ml, hv, h => by
    have e : v = 2 + d := by omega
    subst e
    refine ⟨ml, o10, ?_, h, OF_refl _ _⟩
    refine (b80_49 hG ..).trans ?_
    simp (disch := omega) only [zi_le, Nat.le_refl, decide_true, cnd_t]
  | f + 1, v, o10, ml, hv, h => by
    have hv5 : v < 5 := by omega
    obtain ⟨s1, s2⟩ := six_vc hv5
    have hKv := pq_vc hK
    have ht := hT.1 v K hv5 hK
    by_cases hdg : degc (pq K) < 5
    · rw [if_pos hdg] at ht
      obtain ⟨v1, -, -⟩ := sb_add s1 hKv.1 (by omega)
      rw [Nat.add_comm] at v1
      obtain ⟨g1, g2⟩ := pq_qp v1
      have hSh := Sh_del (r := 6 ^ v) (a := pq K) s1 hKv.1 (by omega)
      obtain ⟨ml', p10, e', r1, r2⟩ := c80v hG hC (s := s) (mr := mr) (n := n) (mi := mi) hT (N := N) ha ha4 he het htb hd hK f (v + 1) (some (.inl (zi (qp (pq K + 6 ^ v))))) (up2 ml a (qp (pq K + 6 ^ v)) (ml a (qp (pq K + 6 ^ v)) + w * zl (t (v + 1)))) (by omega) (fun q hq => by
        show _ = B (pq q) + (sm v _ + w * (zl (t (v + 1)) * Sh (6 ^ v) (del (pq K)) (pq q)))
        rw [up2_s, ← Int64.add_assoc, ← h q hq, hSh _ (pq_vc hq)]
        unfold del
        by_cases eq : q = qp (pq K + 6 ^ v)
        · rw [eq, up1_s, g1, if_pos rfl, Int64.mul_one]
        · rw [up1_n _ _ eq, if_neg, Int64.mul_zero, Int64.mul_zero, Int64.add_zero]
          intro e2
          exact eq (by rw [← e2, qp_pq hq]))
      refine ⟨ml', p10, ?_, r1, OF_trans OF_up r2⟩
      refine Eq.trans ?_ e'
      refine (b80_49 hG ..).trans ?_
      have hg : qp (pq K + 6 ^ v) < 252 := g2
      have htv := htb (v + 1)
      have hte := het (v + 1) (by omega)
      have hng : (zi (qp (pq K + 6 ^ v)) = -zi 1) = False := neg1_ne (by omega)
      simp (disch := omega) only [zi_lit, zi_le, eq_false (by omega : ¬ 2 + d ≤ v), eq_false (by omega : ¬ 5 ≤ v), decide_false, cnd_f, gc12 hC, ac12 hC, acT hC, bind_s, ht, hng, raJ ha hg, rsJ ha hg, zi_add, raI he, hte, b80_97 hG, Nat.add_comm 1 v, zi_64]
    · rw [if_neg hdg] at ht
      have hSh := Sh_del_no (r := 6 ^ v) (a := pq K) s1 (by omega)
      obtain ⟨ml', p10, e', r1, r2⟩ := c80v hG hC (s := s) (mr := mr) (n := n) (mi := mi) hT (N := N) ha ha4 he het htb hd hK f (v + 1) (some (.inl (-1))) ml (by omega) (fun q hq => by
        show _ = B (pq q) + (sm v _ + w * (zl (t (v + 1)) * Sh (6 ^ v) (del (pq K)) (pq q)))
        rw [← Int64.add_assoc, ← h q hq, hSh _ (pq_vc hq), Int64.mul_zero, Int64.mul_zero, Int64.add_zero])
      refine ⟨ml', p10, ?_, r1, r2⟩
      refine Eq.trans ?_ e'
      refine (b80_49 hG ..).trans ?_
      have c1 : decide (zi (2 + d) ≤ zi v) = false := decide_eq_false (by rw [zi_le (by omega) (by omega)]; omega)
      have c2 : decide ((5 : Int32) ≤ zi v) = false := decide_eq_false (by show ¬ zi 5 ≤ zi v; rw [zi_le (by omega) (by omega)]; omega)
      rw [c1, c2, cnd_f, cnd_f, gc12 hC, bind_s, ac12 hC hv5, bind_s, acT hC hv5 hK, bind_s, ht, decide_eq_true (rfl : (-1 : Int32) = -1), cnd_t]
      refine (b80_97 hG ..).trans ?_
      rw [show zi v + 1 = zi (v + 1) from zi_add v 1]
theorem c80K {G : AG} (hG : FIX G) {s : Nat → Nat × Nat} {mr : Nat → Nat → Nat} (hC : CS s mr) {n : Nat × Nat} {mi : Nat → Nat → Int32} (hT : CTab mi) {a e d N : Nat} {t : Nat → Nat} {P : Po} (ha : s a = (21, 252)) (ha4 : 4 ≤ a) (he : s e = (20, 6)) (het : ∀ q, q < 6 → mi e q = zi (t q)) (htb : ∀ q, t q ≤ 2) (hd : d ≤ 3) : ∀ (K : Nat) (o7 o9 o10 : Option AV) (ml : Nat → Nat → Int64), K ≤ 252 → CPo a (mst (fun q => zl (t q)) d K P) ml →
    ∃ ml', G 80 17 [some (.inr (.inr 11)), some (.inr (.inr a)), some (.inl (zi N)), some (.inr (.inr e)), some (.inl (zi d)), some (.inl (zi (2 + d))), some (.inl (zi K + (-1))), o7, none, o9, o10] [] (s, n, mi, ml, mr) = some (none, (s, n, mi, ml', mr)) ∧ CPo a (mulE (fun q => zl (t q)) d P) ml' ∧ OF a ml ml'
  | 0, o7, o9, o10, ml, hK, h => by
    refine ⟨ml, ?_, CPo_congr h (mst_0 _ _ _ hd), OF_refl _ _⟩
    refine (b80_17 hG ..).trans ?_
    rw [lt0_m1, cnd_t]
  | K + 1, o7, o9, o10, ml, hK, h => by
    have hK' : K < 252 := by omega
    have hw : ml a K = P (pq K) := (h K hK').trans (mst_at hd hK')
    have c0 : decide (zi K < 0) = false := decide_eq_false (Int32.not_lt.mpr (zi_ge0 (by omega)))
    by_cases hz : P (pq K) = 0
    · obtain ⟨ml', e', r1, r2⟩ := c80K hG hC (s := s) (mr := mr) (n := n) (mi := mi) hT (N := N) (P := P) ha ha4 he het htb hd K (some (.inr (.inl (P (pq K))))) o9 o10 ml (by omega) (CPo_congr h (peq_symm (peq_trans (mst_S hd hK') (fun c hc => by
        show (if c = pq K then P (pq K) * zl (t 0) else mst (fun q => zl (t q)) d (K + 1) P c) + sm (2 + d) _ = _
        rw [sm_zero (fun v _ => by rw [hz, Int64.zero_mul]), Int64.add_zero]
        split
        · rename_i ec; rw [ec, mst_at hd hK', hz, Int64.zero_mul]
        · rfl))))
      refine ⟨ml', ?_, r1, r2⟩
      refine Eq.trans ?_ e'
      rw [zi_dec]
      refine (b80_17 hG ..).trans ?_
      rw [c0, cnd_f, raJ ha hK' (by decide), bind_s, hw, cmp_eq0, decide_eq_true hz, cnd_t]
      exact b80_103 hG ..
    · obtain ⟨m1, p10, e1, z1, z2⟩ := c80v hG hC hT (N := N) (w := P (pq K)) (B := fun c => if c = pq K then P (pq K) * zl (t 0) else mst (fun q => zl (t q)) d (K + 1) P c) ha ha4 he het htb hd hK' (2 + d) 0 o10 (up2 ml a K (P (pq K) * zl (t 0))) (by omega) (fun q hq => by
        show _ = (if pq q = pq K then P (pq K) * zl (t 0) else mst (fun q => zl (t q)) d (K + 1) P (pq q)) + 0
        rw [Int64.add_zero, up2_s]
        by_cases eq : q = K
        · rw [eq, up1_s, if_pos rfl]
        · rw [up1_n _ _ eq, if_neg (fun h2 => eq (pq_inj hq hK' h2))]; exact h q hq)
      obtain ⟨ml', e', r1, r2⟩ := c80K hG hC (s := s) (mr := mr) (n := n) (mi := mi) hT (N := N) (P := P) ha ha4 he het htb hd K (some (.inr (.inl (P (pq K))))) (some (.inl (zi (2 + d)))) p10 m1 (by omega) (fun q hq => (z1 q hq).trans (mst_S hd hK' _ (pq_vc hq)).symm)
      refine ⟨ml', ?_, r1, OF_trans (OF_trans OF_up z2) r2⟩
      refine Eq.trans ?_ e'
      rw [zi_dec]
      refine (b80_17 hG ..).trans ?_
      have ht0 := htb 0
      have hE0 : hAI ((s, n, mi, ml, mr) : Hp) e 0 = some (zi (t 0)) := by rw [show (0 : Int32) = zi 0 from rfl, raI he (by decide) (by decide), het 0 (by decide)]
      rw [c0, cnd_f, raJ ha hK' (by decide), bind_s, hw, cmp_eq0, decide_eq_false hz, cnd_f, hE0, bind_s, zi_64 (by omega), rsJ ha hK' (by decide) ha4, bind_s]
      refine Eq.trans e1 ?_
      exact b80_103 hG ..
theorem c80 {G : AG} (hG : FIX G) {s : Nat → Nat × Nat} {mr : Nat → Nat → Nat} (hC : CS s mr) {n : Nat × Nat} {mi : Nat → Nat → Int32} (hT : CTab mi) {a e d N : Nat} {t : Nat → Nat} {P : Po} {ml : Nat → Nat → Int64} (ha : s a = (21, 252)) (ha4 : 4 ≤ a) (he : s e = (20, 6)) (het : ∀ q, q < 6 → mi e q = zi (t q)) (htb : ∀ q, t q ≤ 2) (hd : d ≤ 3) (hN : N ≤ 252) (hz : ∀ p, p < 252 → N ≤ p → P (pq p) = 0) (hP : CPo a P ml) :
    ∃ ml', G 80 0 [some (.inr (.inr 11)), some (.inr (.inr a)), some (.inl (zi N)), some (.inr (.inr e)), some (.inl (zi d)), none, none, none, none, none, none] [] (s, n, mi, ml, mr) = some (none, (s, n, mi, ml', mr)) ∧ CPo a (mulE (fun q => zl (t q)) d P) ml' ∧ OF a ml ml' := by
  obtain ⟨ml', e', r1, r2⟩ := c80K hG hC hT (N := N) (P := P) (n := n) ha ha4 he het htb hd N none none none ml hN (CPo_congr hP (peq_symm (mst_N hd hz)))
  refine ⟨ml', ?_, r1, r2⟩
  refine Eq.trans ?_ e'
  refine (b80_0 hG ..).trans ?_
  have c1 : (if (252 : Int32) < zi N then (252 : Int32) else zi N) = zi N := if_neg (by show ¬ zi 252 < zi N; rw [zi_lt (by omega) (by omega)]; omega)
  rw [c1, Int32.sub_eq_add_neg, show (2 : Int32) + zi d = zi (2 + d) from zi_add 2 d]