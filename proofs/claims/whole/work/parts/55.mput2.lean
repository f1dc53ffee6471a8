/-! the model: a call's formula with its expressions put in -/
def trK (W : Po) (e1 e2 : Nat → Int64) (d x : Nat) : Po := fun c => sm 252 (fun i => W (cd x) * pwE e1 d (cd x % 6) (del 0) (cd i) * Sh (cd i) (pwE e2 d (cd x / 6 % 6) (del 0)) c)
def putP (W : Po) (e1 e2 : Nat → Int64) (d : Nat) : Po := lc 252 (fun x => W (cd x)) (fun x => pwE e2 d (cd x / 6 % 6) (pwE e1 d (cd x % 6) (del 0)))
theorem trK_eq {W : Po} {e1 e2 : Nat → Int64} {d : Nat} (hd : d ≤ 3) (x : Nat) : peq (trK W e1 e2 d x) (fun c => W (cd x) * pwE e2 d (cd x / 6 % 6) (pwE e1 d (cd x % 6) (del 0)) c) := by
  intro c hc
  show sm 252 (fun i => W (cd x) * pwE e1 d (cd x % 6) (del 0) (cd i) * Sh (cd i) (pwE e2 d (cd x / 6 % 6) (del 0)) c) = W (cd x) * pwE e2 d (cd x / 6 % 6) (pwE e1 d (cd x % 6) (del 0)) c
  rw [pwE_congr hd (del_sum (pwE e1 d (cd x % 6) (del 0))) (cd x / 6 % 6) c hc, pwE_lc hd (cd x / 6 % 6) c hc]
  unfold lc
  rw [sm_mul]
  refine sm_congr (fun i hi => ?_)
  show W (cd x) * pwE e1 d (cd x % 6) (del 0) (cd i) * Sh (cd i) (pwE e2 d (cd x / 6 % 6) (del 0)) c = W (cd x) * (pwE e1 d (cd x % 6) (del 0) (cd i) * pwE e2 d (cd x / 6 % 6) (del (cd i)) c)
  rw [pwE_del hd (rk_cd hi).1 c hc, Int64.mul_assoc]
theorem put_eq {W : Po} {e1 e2 : Nat → Int64} {d : Nat} (hd : d ≤ 3) : peq (fun c => sm 252 (fun x => trK W e1 e2 d x c)) (putP W e1 e2 d) := fun c hc => sm_congr (fun x _ => trK_eq hd x c hc)
theorem dg_ab {c : Nat} (h : vc c) : c % 6 + c / 6 % 6 ≤ 5 := by
  have h1 : c % 6 + c / 6 % 6 ≤ degc c := Nat.le_trans (Nat.le_add_right _ _) (Nat.le_trans (Nat.le_add_right _ _) (Nat.le_add_right _ _))
  have h2 := h.2
  exact Nat.le_of_lt_succ (Nat.lt_of_le_of_lt h1 h2)
/-- row i, those from 58 on, and 'made' may have changed -/
def RG (i : Nat) (ml ml' : Nat → Nat → Int64) : Prop := (∀ x, x < 14616 → x < 252 * i ∨ 252 * i + 252 ≤ x → ml' 126 x = ml 126 x) ∧ ∀ a, a ≠ 126 → a ≠ 130 → ml' a = ml a
theorem RG_MD {i a b} (h : MD a b) : RG i a b := ⟨fun x _ _ => by rw [h 126 (by decide)], fun x _ h2 => h x h2⟩
theorem RG_RF {i u v a b} (h : RF u v a b) (hu : 58 ≤ u) : RG i a b := ⟨fun x h1 _ => h.1 x (by omega), fun x h1 _ => h.2 x h1⟩
theorem RG_row {i a b} (h : RF i (i + 1) a b) : RG i a b := ⟨fun x h1 h2 => h.1 x (by omega), fun x h1 _ => h.2 x h1⟩
theorem RG_trans {i a b c} (h : RG i a b) (h' : RG i b c) : RG i a c := ⟨fun x h1 h2 => (h'.1 x h1 h2).trans (h.1 x h1 h2), fun x h1 h2 => (h'.2 x h1 h2).trans (h.2 x h1 h2)⟩
theorem MPo_RG {i u : Nat} {P : Po} {a b} (h : MPo u P a) (hf : RG i a b) (hu : u < 58) (hne : u ≠ i) : MPo u P b := fun k hk => by rw [hf.1 _ (by omega) (by omega)]; exact h k hk
theorem m163C {G : AG} (hG : FIX G) {s : Nat → Nat × Nat} {mr : Nat → Nat → Nat} (hM : MS s mr) {n : Nat × Nat} {mi : Nat → Nat → Int32} {y1 y2 y3 y4 y5 : Int32} : ∀ (f k : Nat) (ml : Nat → Nat → Int64), k + f = 252 → (∀ x, x < k → ml 130 x = 0) → ∃ ml', G 163 35 [some (.inr (.inr 114)), some (.inl y1), some (.inl y2), some (.inl y3), some (.inl y4), some (.inl y5), some (.inl (zi k)), none, none, none, none, none, none, none, none, none, none] [] (s, n, mi, ml, mr) = G 163 60 [some (.inr (.inr 114)), some (.inl y1), some (.inl y2), some (.inl y3), some (.inl y4), some (.inl y5), some (.inl (zi 0)), none, none, none, none, none, none, none, none, none, none] [] (s, n, mi, ml', mr) ∧ (∀ x, x < 252 → ml' 130 x = 0) ∧ MD ml ml'
  | 0, k, ml, hk, hz => by
    have e : k = 252 := by omega
    subst e
    refine ⟨ml, ?_, hz, fun _ _ => rfl⟩
    rw [b163_35 hG]
    simp (disch := omega) only [zi_lit, zi_le, Nat.le_refl, decide_true, cnd_t]
  | f + 1, k, ml, hk, hz => by
    obtain ⟨ml', e', r1, r2⟩ := m163C hG hM (s := s) (mr := mr) (n := n) (mi := mi) f (k + 1) (up2 ml 130 k 0) (by omega) (fun x hx => by
      rw [up2_s]
      by_cases e : x = k
      · rw [e, up1_s]
      · rw [up1_n _ _ e]; exact hz x (by omega))
    refine ⟨ml', ?_, r1, MD_trans MD_up r2⟩
    rw [b163_35 hG]
    simp (disch := omega) only [zi_lit, zi_le, zi_add, bind_s, gm71 hM, wm130 hM, eq_false (by omega : ¬ 252 ≤ k), decide_false, cnd_f]
    exact e'
theorem m163E {G : AG} (hG : FIX G) {s : Nat → Nat × Nat} {mr : Nat → Nat → Nat} (hM : MS s mr) {n : Nat × Nat} {mi : Nat → Nat → Int32} {y2 y3 y4 y5 : Int32} {o7 o9 o10 o11 o12 o14 o15 : Option AV} {i : Nat} {P : Po} (hi : i < 58) : ∀ (f k : Nat) (ml : Nat → Nat → Int64), k + f = 252 → (∀ x, x < 252 → ml 130 x = P (cd x)) → (∀ x, x < k → ml 126 (252 * i + x) = P (cd x)) → ∃ ml', G 163 244 [some (.inr (.inr 114)), some (.inl (zi i)), some (.inl y2), some (.inl y3), some (.inl y4), some (.inl y5), some (.inl (zi k)), o7, none, o9, o10, o11, o12, none, o14, o15, none] [] (s, n, mi, ml, mr) = some (none, (s, n, mi, ml', mr)) ∧ MPo i P ml' ∧ RF i (i + 1) ml ml'
  | 0, k, ml, hk, h1, h2 => by
    have e : k = 252 := by omega
    subst e
    refine ⟨ml, ?_, h2, RF_refl _ _ _⟩
    rw [b163_244 hG]
    simp (disch := omega) only [zi_lit, zi_le, Nat.le_refl, decide_true, cnd_t]
  | f + 1, k, ml, hk, h1, h2 => by
    obtain ⟨ml', e', r1, r2⟩ := m163E hG hM (s := s) (mr := mr) (n := n) (mi := mi) hi f (k + 1) (up2 ml 126 (252 * i + k) (P (cd k))) (by omega) (fun x hx => by rw [up2_n _ _ (by decide)]; exact h1 x hx) (fun x hx => by
      rw [up2_s]
      by_cases e : x = k
      · rw [e, up1_s]
      · rw [up1_n _ _ (by omega)]; exact h2 x (by omega))
    refine ⟨ml', ?_, r1, RF_trans (RF_up (by omega) (by omega)) r2⟩
    rw [b163_244 hG]
    simp (disch := omega) only [zi_lit, zi_le, zi_add, zi_mul, bind_s, gm67 hM, gm71 hM, am130 hM, wm126 hM, h1 k (by omega), eq_false (by omega : ¬ 252 ≤ k), decide_false, cnd_f]
    exact e'
theorem m163K {G : AG} (hG : FIX G) {s : Nat → Nat × Nat} {mr : Nat → Nat → Nat} (hM : MS s mr) {n : Nat × Nat} {mi : Nat → Nat → Int32} (hT : MTab mi) {y1 y2 y3 y4 : Int32} {fr d : Nat} {W : Po} {e1 e2 : Nat → Int64} (hfr : fr < 58) (hd : d ≤ 3) : ∀ (f K : Nat) (o7 o9 o10 o11 o12 o14 o15 : Option AV) (ml : Nat → Nat → Int64), K + f = 252 → MPo fr W ml → (∀ i, i < 6 → MPo (58 + i) (pwE e1 d i (del 0)) ml) → (∀ i, i < 6 → MPo (64 + i) (pwE e2 d i (del 0)) ml) → (∀ k, k < 252 → ml 130 k = sm K (fun x => trK W e1 e2 d x (cd k))) →
    ∃ ml' p7 p9 p10 p11 p12 p14 p15, G 163 60 [some (.inr (.inr 114)), some (.inl y1), some (.inl y2), some (.inl y3), some (.inl y4), some (.inl (zi fr)), some (.inl (zi K)), o7, none, o9, o10, o11, o12, none, o14, o15, none] [] (s, n, mi, ml, mr) = G 163 244 [some (.inr (.inr 114)), some (.inl y1), some (.inl y2), some (.inl y3), some (.inl y4), some (.inl (zi fr)), some (.inl (zi 0)), p7, none, p9, p10, p11, p12, none, p14, p15, none] [] (s, n, mi, ml', mr) ∧
      (∀ k, k < 252 → ml' 130 k = putP W e1 e2 d (cd k)) ∧ MD ml ml'
  | 0, K, o7, o9, o10, o11, o12, o14, o15, ml, hK, hP, h1, h2, hB => by
    have e : K = 252 := by omega
    subst e
    refine ⟨ml, o7, o9, o10, o11, o12, o14, o15, ?_, fun k hk => (hB k hk).trans (put_eq hd _ (rk_cd hk).1), fun _ _ => rfl⟩
    rw [b163_60 hG]
    simp (disch := omega) only [zi_lit, zi_le, Nat.le_refl, decide_true, cnd_t]
  | f + 1, K, o7, o9, o10, o11, o12, o14, o15, ml, hK, hP, h1, h2, hB => by
    have hK2 : K < 252 := by omega
    have hPK := hP K hK2
    obtain ⟨vK, -⟩ := rk_cd hK2
    by_cases h0 : W (cd K) = 0
    · obtain ⟨ml', p7, p9, p10, p11, p12, p14, p15, e', r1, r2⟩ := m163K hG hM (s := s) (mr := mr) (n := n) (mi := mi) hT hfr hd f (K + 1) (some (.inr (.inl (W (cd K))))) o9 o10 o11 o12 o14 o15 ml (by omega) hP h1 h2 (fun k hk => by
        rw [hB k hk]
        show _ = sm K (fun x => trK W e1 e2 d x (cd k)) + trK W e1 e2 d K (cd k)
        have : trK W e1 e2 d K (cd k) = 0 := by
          refine sm_zero (fun i _ => ?_)
          rw [h0, Int64.zero_mul, Int64.zero_mul]
        rw [this, Int64.add_zero])
      refine ⟨ml', p7, p9, p10, p11, p12, p14, p15, ?_, r1, r2⟩
      rw [b163_60 hG]
      simp (disch := omega) only [zi_lit, zi_le, zi_add, zi_mul, bind_s, gm67 hM, am126 hM, hPK, cmpz, eq_true h0, eq_false (by omega : ¬ 252 ≤ K), decide_true, decide_false, cnd_t, cnd_f]
      rw [b163_235 hG]
      simp only [zi_lit, zi_add]
      exact e'
    · have hab := dg_ab vK
      have a6 : cd K % 6 < 6 := Nat.mod_lt _ (by decide)
      have b6 : cd K / 6 % 6 < 6 := Nat.mod_lt _ (by decide)
      have t0 : mi 122 (5 * K) = zi (cd K % 6) := by
        have := hT.1 K 0 hK2 (by decide)
        rw [Nat.add_zero, Nat.pow_zero, Nat.div_one] at this
        exact this
      have t1 : mi 122 (5 * K + 1) = zi (cd K / 6 % 6) := hT.1 K 1 hK2 (by decide)
      obtain ⟨a, ha⟩ : ∃ a, a = cd K % 6 := ⟨_, rfl⟩
      obtain ⟨b, hb⟩ : ∃ b, b = cd K / 6 % 6 := ⟨_, rfl⟩
      rw [← ha] at hab a6 t0
      rw [← hb] at hab b6 t1
      obtain ⟨m1, p9, p10, p11, p12, p14, p15, e1', r1, r2⟩ := m163I hG hM hT hab (dle_pwE (e := e1) (d := d) hd a) (dle_pwE (e := e2) (d := d) hd b) (n := n) (y1 := y1) (y2 := y2) (y3 := y3) (y4 := y4) (y5 := zi fr) (y6 := zi K) (w := W (cd K)) (B := fun c => sm K (fun x => trK W e1 e2 d x c)) 252 0 o12 o14 o15 ml (by omega) (h1 a a6) (h2 b b6) (fun k hk => by
        rw [hB k hk]
        show _ = _ + (0 : Int64)
        rw [Int64.add_zero])
      obtain ⟨ml', p7', p9', p10', p11', p12', p14', p15', e', s1, s2⟩ := m163K hG hM (s := s) (mr := mr) (n := n) (mi := mi) hT hfr hd f (K + 1) (some (.inr (.inl (W (cd K))))) p9 p10 p11 p12 p14 p15 m1 (by omega) (MPo_MD hP r2) (fun i hi => MPo_MD (h1 i hi) r2) (fun i hi => MPo_MD (h2 i hi) r2) (fun k hk => by
        rw [r1 k hk]
        show sm K (fun x => trK W e1 e2 d x (cd k)) + _ = sm K (fun x => trK W e1 e2 d x (cd k)) + trK W e1 e2 d K (cd k)
        unfold trK
        rw [ha, hb])
      refine ⟨ml', p7', p9', p10', p11', p12', p14', p15', ?_, s1, MD_trans r2 s2⟩
      have ey : zi K + 1 = zi (K + 1) := zi_add K 1
      rw [ey] at e1'
      rw [b163_60 hG]
      simp (disch := omega) only [zi_lit, zi_le, zi_add, zi_mul, bind_s, gm67 hM, gm61 hM, am126 hM, am122 hM, hPK, t0, t1, cmpz, eq_false h0, eq_false (by omega : ¬ 252 ≤ K), decide_true, decide_false, cnd_t, cnd_f]
      exact e1'.trans e'
theorem m163 {G : AG} (hG : FIX G) {s : Nat → Nat × Nat} {mr : Nat → Nat → Nat} (hM : MS s mr) {n : Nat × Nat} {mi : Nat → Nat → Int32} (hT : MTab mi) {i op cl side d : Nat} {W : Po} {t : Nat → Nat} {ml : Nat → Nat → Int64} (hi : i < 58) (ho : op < 192) (hcl : mi 118 op = zi cl) (hc8 : cl < 8) (hsd : side < 2) (hd : d ≤ 3) (ht : ∀ q, q < 12 → mi 119 (12 * op + q) = zi (t q)) (hb : ∀ q, t q ≤ 2) (hne : 2 * cl + side ≠ i) (hW : MPo (2 * cl + side) W ml) :
    ∃ ml', G 163 0 [some (.inr (.inr 114)), some (.inl (zi i)), some (.inl (zi op)), some (.inl (zi side)), some (.inl (zi d)), none, none, none, none, none, none, none, none, none, none, none, none] [] (s, n, mi, ml, mr) = some (none, (s, n, mi, ml', mr)) ∧ MPo i (putP W (fun q => zl (t q)) (fun q => zl (t (6 + q))) d) ml' ∧ RG i ml ml' := by
  obtain ⟨m1, e1, z1, z2⟩ := m161 hG hM hT ho (by decide : 0 < 2) (by decide : 58 ≤ 64) (t := t) (fun q hq => by rw [← ht q (by omega)]; exact congrArg _ (by omega)) hb (n := n) (ml := ml) hd
  obtain ⟨m2, e2, z3, z4⟩ := m161 hG hM hT ho (by decide : 1 < 2) (by decide : 64 ≤ 64) (t := fun q => t (6 + q)) (fun q hq => by rw [← ht (6 + q) (by omega)]; exact congrArg _ (by omega)) (fun q => hb _) (n := n) (ml := m1) hd
  obtain ⟨m3, e3, z5, z6⟩ := m163C hG hM (n := n) (mi := mi) (y1 := zi i) (y2 := zi op) (y3 := zi side) (y4 := zi d) (y5 := zi (2 * cl + side)) 252 0 m2 (by omega) (fun x hx => by omega)
  have hW3 : MPo (2 * cl + side) W m3 := MPo_MD (MPo_RF (MPo_RF hW z2 (by omega)) z4 (by omega)) z6
  obtain ⟨m4, p7, p9, p10, p11, p12, p14, p15, e4, z7, z8⟩ := m163K hG hM hT (n := n) (y1 := zi i) (y2 := zi op) (y3 := zi side) (y4 := zi d) (by omega : 2 * cl + side < 58) hd 252 0 none none none none none none none m3 (by omega) hW3 (fun j hj => MPo_MD (MPo_RF (z1 j hj) z4 (by omega)) z6) (fun j hj => MPo_MD (z3 j hj) z6) (fun k hk => by rw [z5 k hk]; rfl)
  obtain ⟨m5, e5, z9, z10⟩ := m163E hG hM (n := n) (mi := mi) (y2 := zi op) (y3 := zi side) (y4 := zi d) (y5 := zi (2 * cl + side)) (o7 := p7) (o9 := p9) (o10 := p10) (o11 := p11) (o12 := p12) (o14 := p14) (o15 := p15) hi 252 0 m4 (by omega) z7 (fun x hx => by omega)
  refine ⟨m5, ?_, z9, RG_trans (RG_trans (RG_trans (RG_trans (RG_RF z2 (by omega)) (RG_RF z4 (by omega))) (RG_MD z6)) (RG_MD z8)) (RG_row z10)⟩
  rw [b163_0 hG]
  simp (disch := omega) only [km hM, Nat.beq_refl, cnd_t, zi_lit, zi_add, zi_mul, bind_s, as_V, e1, e2, gm54 hM, am118 hM, hcl]
  rw [e3, e4, e5]