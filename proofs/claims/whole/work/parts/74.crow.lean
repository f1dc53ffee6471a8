/-! the class: rows filled, added to; small methods of the table -/
theorem CTab_10 {mi f v} (h : CTab mi) : CTab (up2 mi 10 f v) := by
  obtain ⟨h1, h2, h3, h4⟩ := h
  refine ⟨fun u p hu hp => ?_, fun p hp => ?_, fun j hj => ?_, fun j hj => ?_⟩
  · rw [up2_n _ _ (by omega)]; exact h1 u p hu hp
  · rw [up2_n _ _ (by omega)]; exact h2 p hp
  · rw [up2_n _ _ (by omega)]; exact h3 j hj
  · rw [up2_n _ _ (by omega)]; exact h4 j hj
theorem inr_ok (x : Int64) : inr x = (!decide (8640000000 < x) && decide (-8640000000 ≤ x)) := by
  unfold inr
  rw [Bool.and_comm]
  congr 1
  rw [← decide_not]
  exact decide_eq_decide.mpr Int64.not_lt.symm
def adb (S P : Po) : Nat → Bool
  | 0 => true
  | p + 1 => adb S P p && (inr (S (pq p)) && inr (P (pq p) + S (pq p)))
theorem adb_S (S P p) : adb S P (p + 1) = (adb S P p && (inr (S (pq p)) && inr (P (pq p) + S (pq p)))) := rfl
theorem adb_at {S P : Po} : ∀ {n k : Nat}, adb S P n = true → k < n → inr (S (pq k)) = true ∧ inr (P (pq k) + S (pq k)) = true
  | 0, k, _, hk => by omega
  | n + 1, k, h, hk => by
    unfold adb at h
    simp only [Bool.and_eq_true] at h
    by_cases e : k = n
    · rw [e]; exact h.2
    · exact adb_at h.1 (by omega)
theorem adb_of {S P : Po} : ∀ {n : Nat}, (∀ k, k < n → inr (S (pq k)) = true ∧ inr (P (pq k) + S (pq k)) = true) → adb S P n = true
  | 0, _ => rfl
  | n + 1, h => by
    unfold adb
    rw [adb_of (fun k hk => h k (by omega)), (h n (by omega)).1, (h n (by omega)).2]; rfl
theorem adb_gdn (S P : Po) : adb S P 252 = (gdn S 252 && gdn (pad P S) 252) := by
  rw [Bool.eq_iff_iff, Bool.and_eq_true]
  constructor
  · intro h
    refine ⟨gdn_of (fun k hk => ?_), gdn_of (fun k hk => ?_)⟩
    · have := (adb_at h (pq_qp (rk_cd hk).1).2).1
      rw [(pq_qp (rk_cd hk).1).1] at this; exact this
    · have := (adb_at h (pq_qp (rk_cd hk).1).2).2
      rw [(pq_qp (rk_cd hk).1).1] at this; exact this
  · rintro ⟨h1, h2⟩
    refine adb_of (fun k hk => ⟨?_, ?_⟩)
    · have := gdn_at h1 (cd_rk (pq_vc hk)).2
      rw [(cd_rk (pq_vc hk)).1] at this; exact this
    · have := gdn_at h2 (cd_rk (pq_vc hk)).2
      rw [(cd_rk (pq_vc hk)).1] at this; exact this
theorem gdn_pq {P : Po} (h : gdn P 252 = true) {p : Nat} (hp : p < 252) : inr (P (pq p)) = true := by
  have := gdn_at h (cd_rk (pq_vc hp)).2
  rw [(cd_rk (pq_vc hp)).1] at this; exact this
theorem c73L {G : AG} (hG : FIX G) {s : Nat → Nat × Nat} {mr : Nat → Nat → Nat} (hC : CS s mr) {n : Nat × Nat} {mi : Nat → Nat → Int32} {a L : Nat} {x : Int64} (ha : s a = (21, L)) (ha4 : 4 ≤ a) (hL : L ≤ 1000) : ∀ (f k : Nat) (ml : Nat → Nat → Int64), k + f = L → (∀ i, i < k → ml a i = x) → ∃ ml', G 73 6 [some (.inr (.inr a)), some (.inr (.inl x)), none, some (.inl (zi k)), some (.inl (zi L))] [] (s, n, mi, ml, mr) = some (none, (s, n, mi, ml', mr)) ∧ (∀ i, i < L → ml' a i = x) ∧ OF a ml ml'
  | 0, k, ml, hk, h => by
    have e : k = L := by omega
    subst e
    refine ⟨ml, ?_, h, OF_refl _ _⟩
    refine (b73_6 hG ..).trans ?_
    simp (disch := omega) only [zi_le, Nat.le_refl, decide_true, cnd_t]
  | f + 1, k, ml, hk, h => by
    obtain ⟨ml', e', r1, r2⟩ := c73L hG hC (s := s) (mr := mr) (n := n) (mi := mi) ha ha4 hL f (k + 1) (up2 ml a k x) (by omega) (fun i hi => by
      rw [up2_s]
      by_cases e : i = k
      · rw [e, up1_s]
      · rw [up1_n _ _ e]; exact h i (by omega))
    refine ⟨ml', ?_, r1, OF_trans OF_up r2⟩
    refine Eq.trans ?_ e'
    refine (b73_6 hG ..).trans ?_
    have hkL : k < L := by omega
    simp (disch := omega) only [zi_le, eq_false (by omega : ¬ L ≤ k), decide_false, cnd_f, rsJ ha hkL, bind_s, zi_lit, zi_add]
theorem c73 {G : AG} (hG : FIX G) {s : Nat → Nat × Nat} {mr : Nat → Nat → Nat} (hC : CS s mr) {n : Nat × Nat} {mi : Nat → Nat → Int32} {a L : Nat} {x : Int64} {ml : Nat → Nat → Int64} (ha : s a = (21, L)) (ha4 : 4 ≤ a) (hL : L ≤ 1000) : ∃ ml', G 73 0 [some (.inr (.inr a)), some (.inr (.inl x)), none, none, none] [] (s, n, mi, ml, mr) = some (none, (s, n, mi, ml', mr)) ∧ (∀ i, i < L → ml' a i = x) ∧ OF a ml ml' := by
  obtain ⟨ml', e', r1, r2⟩ := c73L hG hC (n := n) (mi := mi) (x := x) ha ha4 hL L 0 ml (by omega) (fun i hi => by omega)
  refine ⟨ml', ?_, r1, r2⟩
  refine (b73_0 hG ..).trans ?_
  rw [rlen ha (by decide), bind_s]
  exact e'
theorem c79 {G : AG} (hG : FIX G) {s : Nat → Nat × Nat} {mr : Nat → Nat → Nat} (hC : CS s mr) {n : Nat × Nat} {mi : Nat → Nat → Int32} (hT : CTab mi) {j : Nat} {ml : Nat → Nat → Int64} (hj : j ≤ 5) : G 79 0 [some (.inl (zi j))] [] (s, n, mi, ml, mr) = some (some (.inl (zi (upn j))), (s, n, mi, ml, mr)) := by
  refine (b79_0 hG ..).trans ?_
  have c0 : decide ((0 : Int32) ≤ zi j) = true := decide_eq_true (zi_ge0 (by omega))
  rw [c0, cnd_t]
  by_cases h5 : 5 ≤ j
  · have e : j = 5 := by omega
    subst e
    exact b79_22 hG ..
  · have c1 : decide ((5 : Int32) ≤ zi j) = false := decide_eq_false (by show ¬ zi 5 ≤ zi j; rw [zi_le (by omega) (by omega)]; omega)
    rw [c1, cnd_f, ac2 hC (by omega), bind_s, hT.2.2.1 j (by omega)]
    exact b79_22 hG ..
theorem c79n {G : AG} (hG : FIX G) {s : Nat → Nat × Nat} {mr : Nat → Nat → Nat} (hC : CS s mr) {n : Nat × Nat} {mi : Nat → Nat → Int32} {ml : Nat → Nat → Int64} : G 79 0 [some (.inl (zi 0 - 1))] [] (s, n, mi, ml, mr) = some (some (.inl (zi 0)), (s, n, mi, ml, mr)) := by
  refine (b79_0 hG ..).trans ?_
  rw [show decide ((0 : Int32) ≤ zi 0 - 1) = false from by decide, cnd_f]
  rfl
theorem c74 {G : AG} (hG : FIX G) {s : Nat → Nat × Nat} {mr : Nat → Nat → Nat} (hC : CS s mr) {n : Nat × Nat} {mi : Nat → Nat → Int32} {a i : Nat} {b : Bool} {v : Int64} {ml : Nat → Nat → Int64} (ha : s a = (21, 252)) (ha4 : 4 ≤ a) (hi : i < 252) :
    G 74 0 [some (.inr (.inr 10)), some (.inr (.inr a)), some (.inl (zi i)), some (.inr (.inl v)), none] [] (s, n, up2 mi 10 20 (bz b), ml, mr) = some (none, (s, n, up2 mi 10 20 (bz (b || !inr (ml a i + v))), up2 ml a i (ml a i + v), mr)) := by
  refine (b74_0 hG ..).trans ?_
  rw [raJ ha hi (by decide), bind_s, rsJ ha hi (by decide) ha4, bind_s, raJ ha hi (by decide), bind_s, up2_s, up1_s, cmp_0lt]
  obtain ⟨x, hx⟩ : ∃ x, x = ml a i + v := ⟨_, rfl⟩
  rw [← hx]
  by_cases h1 : (8640000000 : Int64) < x
  · have hn : inr x = false := by rw [inr_ok, decide_eq_true h1]; rfl
    rw [decide_eq_true h1, cnd_t, hn]
    refine (b74_27 hG ..).trans ?_
    rw [show (1 : Int32) = zi 1 from rfl, pc20l hC, bind_s, up2_2, Bool.not_false, Bool.or_true]
    exact b74_32 hG ..
  · rw [decide_eq_false h1, cnd_f, bind_s, cmp_0le]
    by_cases h2 : (-8640000000 : Int64) ≤ x
    · have hn : inr x = true := by rw [inr_ok, decide_eq_false h1, decide_eq_true h2]; rfl
      rw [decide_eq_true h2, cnd_t, hn, Bool.not_true, Bool.or_false]
      exact b74_32 hG ..
    · have hn : inr x = false := by rw [inr_ok, decide_eq_false h2, Bool.and_false]
      rw [decide_eq_false h2, cnd_f, hn]
      refine (b74_27 hG ..).trans ?_
      rw [show (1 : Int32) = zi 1 from rfl, pc20l hC, bind_s, up2_2, Bool.not_false, Bool.or_true]
      exact b74_32 hG ..
theorem c82L {G : AG} (hG : FIX G) {s : Nat → Nat × Nat} {mr : Nat → Nat → Nat} (hC : CS s mr) {n : Nat × Nat} {mi : Nat → Nat → Int32} {tp : Nat} {b : Bool} {S P : Po} (htp : tp < 18) (h16 : mi 10 16 = zi tp) (hg : gdn P 252 = true) : ∀ (f p : Nat) (o2 : Option AV) (ml : Nat → Nat → Int64), p + f = 252 → CPo 39 S ml → (∀ q, q < 252 → ml (21 + tp) q = if q < p then P (pq q) + S (pq q) else P (pq q)) →
    ∃ ml', G 82 2 [some (.inr (.inr 10)), some (.inl (zi p)), o2, none] [] (s, n, up2 mi 10 20 (bz (b || !adb S P p)), ml, mr) = some (none, (s, n, up2 mi 10 20 (bz (b || !adb S P 252)), ml', mr)) ∧ CPo (21 + tp) (pad P S) ml' ∧ OF (21 + tp) ml ml'
  | 0, p, o2, ml, hp, hS, hP => by
    have e : p = 252 := by omega
    subst e
    refine ⟨ml, ?_, fun q hq => by rw [hP q hq, if_pos hq], OF_refl _ _⟩
    refine (b82_2 hG ..).trans ?_
    simp (disch := omega) only [zi_lit, zi_le, Nat.le_refl, decide_true, cnd_t]
  | f + 1, p, o2, ml, hp, hS, hP => by
    have hp' : p < 252 := by omega
    have hPp := hP p hp'
    rw [if_neg (Nat.lt_irrefl p)] at hPp
    have c0 : decide ((252 : Int32) ≤ zi p) = false := decide_eq_false (by show ¬ zi 252 ≤ zi p; rw [zi_le (by omega) (by omega)]; omega)
    obtain ⟨x, hx⟩ : ∃ x, x = S (pq p) := ⟨_, rfl⟩
    have hgp := gdn_pq hg hp'
    by_cases hz : x = 0
    · have hab : adb S P (p + 1) = adb S P p := by
        rw [adb_S, ← hx, hz, Int64.add_zero, hgp, show inr 0 = true from rfl, Bool.true_and, Bool.and_true]
      obtain ⟨ml', e', r1, r2⟩ := c82L hG hC (s := s) (mr := mr) (n := n) (mi := mi) (b := b) htp h16 hg f (p + 1) (some (.inr (.inl x))) ml (by omega) hS (fun q hq => by
        rw [hP q hq]
        by_cases h : q < p
        · rw [if_pos h, if_pos (by omega)]
        · rw [if_neg h]
          by_cases h2 : q = p
          · rw [h2, if_pos (Nat.lt_succ_self p), ← hx, hz, Int64.add_zero]
          · rw [if_neg (by omega)])
      refine ⟨ml', ?_, r1, r2⟩
      refine Eq.trans ?_ e'
      refine (b82_2 hG ..).trans ?_
      rw [c0, cnd_f, gc17 hC, bind_s, ac39 hC hp', bind_s, hS p hp', ← hx, cmp_eq0, decide_eq_true hz, cnd_t, hab]
      refine (b82_58 hG ..).trans ?_
      rw [show zi p + 1 = zi (p + 1) from zi_add p 1]
    · have ha : s (21 + tp) = (21, 252) := csW hC tp htp
      obtain ⟨ml', e', r1, r2⟩ := c82L hG hC (s := s) (mr := mr) (n := n) (mi := mi) (b := b) htp h16 hg f (p + 1) (some (.inr (.inl x))) (up2 ml (21 + tp) p (P (pq p) + x)) (by omega) (CPo_mv hS (up2_n _ _ (by omega))) (fun q hq => by
        rw [up2_s]
        by_cases h2 : q = p
        · rw [h2, up1_s, if_pos (Nat.lt_succ_self p), ← hx]
        · rw [up1_n _ _ h2, hP q hq]
          by_cases h : q < p
          · rw [if_pos h, if_pos (by omega)]
          · rw [if_neg h, if_neg (by omega)])
      refine ⟨ml', ?_, r1, OF_trans OF_up r2⟩
      refine Eq.trans ?_ e'
      have e43 : ∀ b1 : Bool, (b1 || !inr (P (pq p) + x)) = (b || !adb S P (p + 1)) → G 82 43 [some (.inr (.inr 10)), some (.inl (zi p)), some (.inr (.inl x)), none] [] (s, n, up2 mi 10 20 (bz b1), ml, mr) = G 82 2 [some (.inr (.inr 10)), some (.inl (zi (p + 1))), some (.inr (.inl x)), none] [] (s, n, up2 mi 10 20 (bz (b || !adb S P (p + 1))), up2 ml (21 + tp) p (P (pq p) + x), mr) := by
        intro b1 hb
        refine (b82_43 hG ..).trans ?_
        have h16' : (up2 mi 10 20 (bz b1)) 10 16 = zi tp := by rw [up2_s, up1_n _ _ (by decide), h16]
        rw [gc15 hC, bind_s, gc16 hC, bind_s, h16', ac20 hC htp, bind_s, kc10 hC, Nat.beq_refl, cnd_t, c74 hG hC ha (by omega) hp', bind_s, as_V, bind_s, hPp, hb]
        refine (b82_58 hG ..).trans ?_
        rw [show zi p + 1 = zi (p + 1) from zi_add p 1]
      have hab : (b || !adb S P (p + 1)) = ((b || !adb S P p) || !inr x || !inr (P (pq p) + x)) := by
        rw [adb_S, ← hx]
        cases b <;> cases adb S P p <;> cases inr x <;> cases inr (P (pq p) + x) <;> rfl
      refine (b82_2 hG ..).trans ?_
      rw [c0, cnd_f, gc17 hC, bind_s, ac39 hC hp', bind_s, hS p hp', ← hx, cmp_eq0, decide_eq_false hz, cnd_f, cmp_0lt, cmp_0le]
      have e38 : G 82 38 [some (.inr (.inr 10)), some (.inl (zi p)), some (.inr (.inl x)), none] [] (s, n, up2 mi 10 20 (bz (b || !adb S P p)), ml, mr) = G 82 43 [some (.inr (.inr 10)), some (.inl (zi p)), some (.inr (.inl x)), none] [] (s, n, up2 mi 10 20 (bz true), ml, mr) := by
        refine (b82_38 hG ..).trans ?_
        rw [show (1 : Int32) = zi 1 from rfl, pc20l hC, bind_s, up2_2]
      by_cases h1 : (8640000000 : Int64) < x
      · have hn : inr x = false := by rw [inr_ok, decide_eq_true h1]; rfl
        rw [decide_eq_true h1, cnd_t, e38]
        exact e43 true (by rw [hab, hn]; simp)
      · rw [decide_eq_false h1, cnd_f]
        by_cases h2 : (-8640000000 : Int64) ≤ x
        · have hn : inr x = true := by rw [inr_ok, decide_eq_false h1, decide_eq_true h2]; rfl
          rw [decide_eq_true h2, cnd_t]
          exact e43 _ (by rw [hab, hn, Bool.not_true, Bool.or_false])
        · have hn : inr x = false := by rw [inr_ok, decide_eq_false h2, Bool.and_false]
          rw [decide_eq_false h2, cnd_f, e38]
          exact e43 true (by rw [hab, hn]; simp)
theorem c82 {G : AG} (hG : FIX G) {s : Nat → Nat × Nat} {mr : Nat → Nat → Nat} (hC : CS s mr) {n : Nat × Nat} {mi : Nat → Nat → Int32} {tp : Nat} {b : Bool} {S P : Po} {ml : Nat → Nat → Int64} (htp : tp < 18) (h16 : mi 10 16 = zi tp) (hg : gdn P 252 = true) (hS : CPo 39 S ml) (hP : CPo (21 + tp) P ml) :
    ∃ ml', G 82 0 [some (.inr (.inr 10)), none, none, none] [] (s, n, up2 mi 10 20 (bz b), ml, mr) = some (none, (s, n, up2 mi 10 20 (bz (b || !(gdn S 252 && gdn (pad P S) 252))), ml', mr)) ∧ CPo (21 + tp) (pad P S) ml' ∧ OF (21 + tp) ml ml' := by
  obtain ⟨ml', e', r1, r2⟩ := c82L hG hC (n := n) (b := b) htp h16 hg 252 0 none ml (by omega) hS (fun q hq => by rw [if_neg (Nat.not_lt_zero _)]; exact hP q hq)
  refine ⟨ml', ?_, r1, r2⟩
  rw [← adb_gdn]
  refine (b82_0 hG ..).trans (Eq.trans ?_ e')
  rw [show (b || !adb S P 0) = b from by rw [adb, Bool.not_true, Bool.or_false]]
  rfl