/-! the class: reckon, op by op -/
def CW : List Po → (Nat → Nat → Int64) → Prop
  | [], _ => True
  | T :: R, ml => CPo (21 + R.length) T ml ∧ CW R ml
theorem CW_mv : ∀ {R : List Po} {k : Nat} {a b}, CW R a → OW k a b → R.length ≤ k → k ≤ 18 → CW R b
  | [], _, _, _, _, _, _, _ => trivial
  | T :: R, k, a, b, h, hf, hl, hk => by
    rw [List.length_cons] at hl
    exact ⟨CPo_mv h.1 (hf _ (by omega) (by omega) (by omega)), CW_mv h.2 hf (by omega) hk⟩
theorem inr_zl {m : Nat} (h : m ≤ 8640000000) : inr (zl m) = true := by
  unfold inr
  rw [Bool.and_eq_true]
  refine ⟨decide_eq_true ?_, decide_eq_true ?_⟩
  · rw [Int64.le_iff_toInt_le, zl_ti (by omega), show (-8640000000 : Int64).toInt = -8640000000 from rfl]; omega
  · show zl m ≤ zl 8640000000
    rw [zl_le (by omega) (by omega)]; exact h
theorem cst_good {T : Po} {w : Nat} (hw : w ≤ 99) (hg : gdn T 252 = true) : (gdn (cst w) 252 && gdn (pad T (cst w)) 252) = inr (T 0 + 8640 * zl w) := by
  have e8 : (8640 : Int64) * zl w = zl (8640 * w) := zl_mul 8640 w
  have hc : ∀ c, cst w c = if c = 0 then 8640 * zl w else 0 := fun _ => rfl
  rw [← adb_gdn, Bool.eq_iff_iff]
  constructor
  · intro h
    have := (adb_at h (by decide : 0 < 252)).2
    rw [show pq 0 = 0 from rfl, hc, if_pos rfl] at this
    exact this
  · intro h
    refine adb_of (fun k hk => ?_)
    rw [hc]
    by_cases e : pq k = 0
    · rw [e, if_pos rfl]
      exact ⟨by rw [e8]; exact inr_zl (by omega), h⟩
    · rw [if_neg e, Int64.add_zero]
      exact ⟨rfl, gdn_pq hg hk⟩
theorem CQ_rk3 {Q : Pg} {N : Nat} {s : Nat → Nat × Nat} {mi : Nat → Nat → Int32} {mr : Nat → Nat → Nat} {sd tp b} (hQ : CQ Q N s mi mr) (hW : WP Q) : CQ Q N s (rk3 mi sd tp b) mr := CQ_i hQ hW (fun a h => rk3_n _ _ _ _ (by
  rcases h with h | ⟨r, hr, h | h⟩ | h <;> omega))
abbrev l71 (r sd p : Nat) (o4 o5 o6 o7 o8 : Option AV) : ALs := [some (.inr (.inr 10)), some (.inr (.inr (42 + 9 * r))), some (.inl (zi sd)), some (.inl (zi p)), o4, o5, o6, o7, o8]
theorem noR_n : noR none := Or.inl rfl
theorem noR_R (x) : noR (some (.inr (.inr x))) := Or.inr ⟨x, rfl⟩
theorem c71n {G : AG} (hG : FIX G) {s : Nat → Nat × Nat} {mr : Nat → Nat → Nat} (hC : CS s mr) {r sd p x : Nat} (o5 o6 o7 o8 : Option AV) (H : Hp) : G 71 175 (l71 r sd p (some (.inr (.inr x))) o5 o6 o7 o8) [] H = G 71 21 (l71 r sd (p + 1) (some (.inr (.inr x))) o5 o6 o7 o8) [] H := by
  refine (b71_175 hG ..).trans ?_
  rw [show zi p + 1 = zi (p + 1) from zi_add p 1]
/-- an op that is neither WORK nor CALL nor DONE -/
theorem c71o {G : AG} (hG : FIX G) {s : Nat → Nat × Nat} {mr : Nat → Nat → Nat} (hC : CS s mr) {n : Nat × Nat} {mi : Nat → Nat → Int32} {Q : Pg} {N : Nat} (hQ : CQ Q N s mi mr) (hW : WP Q) {r sd p : Nat} {tp : Int32} {ml : Nat → Nat → Int64} (hr : r < 8) (hp : p < qn Q r) (hk : qk Q r p = 3 ∨ qk Q r p = 5 ∨ qk Q r p = 6 ∨ qk Q r p = 7) (o4 o5 o6 o7 o8 : Option AV) (h5 : noR o5) (h6 : noR o6) (h7 : noR o7) :
    ∃ x p8, (qk Q r p = 6 → G 71 21 (l71 r sd p o4 o5 o6 o7 o8) [] (s, n, rk3 mi (zi sd) tp false, ml, mr) = (G 86 0 [some (.inr (.inr 10)), some (.inr (.inr (mr (43 + 9 * r) (hdp (stk (qk Q r) p))))), none, none] [] (s, n, rk3 mi (zi sd) tp false, ml, mr)).bind fun u6 => (asV u6.1).bind fun _ => G 71 175 (l71 r sd p (some (.inr (.inr x))) o5 o6 (some (.inr (.inr (mr (43 + 9 * r) (hdp (stk (qk Q r) p)))))) p8) [] u6.2) ∧
      (qk Q r p ≠ 6 → G 71 21 (l71 r sd p o4 o5 o6 o7 o8) [] (s, n, rk3 mi (zi sd) tp false, ml, mr) = (G 72 0 [some (.inr (.inr 10))] [] (s, n, rk3 mi (zi sd) tp false, ml, mr)).bind fun u1 => (asV u1.1).bind fun _ => G 71 175 (l71 r sd p (some (.inr (.inr x))) o5 o6 o7 p8) [] u1.2) := by
  have h24 : qn Q r ≤ 24 := hW.2.1 r
  have hQ' := CQ_rk3 (sd := zi sd) (tp := tp) (b := false) hQ hW
  have hR := hQ'.2.1 r hr
  have h23 := hR.2.1
  obtain ⟨c1, c2, c3, c4, c5, c6, c7, -⟩ := hR.2.2.2.2.2.1 p hp
  obtain ⟨o, ho⟩ : ∃ o, o = mr (43 + 9 * r) p := ⟨_, rfl⟩
  rw [← ho] at c1 c2 c3 c4 c5 c6 c7
  have e18 := c18_t hG hC (n := n) (ml := ml) hr h23 h24 hp
  rw [← ho] at e18
  have hb7 : Nat.beq (s (42 + 9 * r)).1 7 = true := by rw [kc42 hC hr]; rfl
  have hb6 : Nat.beq (s 10).1 6 = true := by rw [kc10 hC]; rfl
  have ho0 : Nat.beq o 0 = false := nbeq_f (by omega)
  have hk8 : qk Q r p < 100 := by omega
  have e131 : G 71 21 (l71 r sd p o4 o5 o6 o7 o8) [] (s, n, rk3 mi (zi sd) tp false, ml, mr) = G 71 131 (l71 r sd p (some (.inr (.inr o))) o5 o6 o7 o8) [] (s, n, rk3 mi (zi sd) tp false, ml, mr) := by
    refine (b71_21 hG _ _ _ _ _ _ _ _ _ h5 _).trans ?_
    have hsk : (s o).1 = 3 ∨ (s o).1 = 2 ∨ (s o).1 = 4 := by
      rw [c3]
      rcases hk with h | h | h | h <;> rw [h]
      · exact Or.inl rfl
      · exact Or.inr (Or.inl rfl)
      · exact Or.inr (Or.inr rfl)
      · exact Or.inr (Or.inr rfl)
    have t10 : ([10].any (Nat.beq (s o).1)) = false := by rcases hsk with h | h | h <;> rw [h] <;> rfl
    have t14 : ([1, 2, 3, 4].any (Nat.beq (s o).1)) = true := by rcases hsk with h | h | h <;> rw [h] <;> rfl
    have t1 : ([1].any (Nat.beq (s o).1)) = false := by rcases hsk with h | h | h <;> rw [h] <;> rfl
    have t2 : ([2, 3, 4, 10].any (Nat.beq (s o).1)) = true := by rcases hsk with h | h | h <;> rw [h] <;> rfl
    have h8 : decide (zi (qk Q r p) ≠ (8 : Int32)) = true := decide_eq_true (by show zi (qk Q r p) ≠ zi 8; rw [zi_ne (by omega) (by omega)]; omega)
    rw [gc23 hC hr, bind_s, h23, decide_eq_false (by rw [zi_le (by omega) (by omega)]; omega : ¬ zi (qn Q r) ≤ zi p), cnd_f, gc20 hC, bind_s, rk3_20, show decide (bz false ≠ 0) = false from rfl, cnd_f, hb7, cnd_t, e18, bind_s, as_R, bind_s]
    simp only [ho0, t10, t14, t1, t2, cnd_f, cnd_t, bind_s, decide_true]
    rw [opF1 c3, bind_s, c4, h8, cnd_t]
  rcases hk with hk | hk | hk | hk
  · refine ⟨o, some (.inr (.inr 0)), fun h => by omega, fun _ => ?_⟩
    rw [e131]
    refine (b71_131 hG _ _ _ _ _ _ _ _ _ h6 h7 _).trans ?_
    rw [hk, if_neg (by decide)] at c7
    have e0 := c18_f hG hC (n := n) (ml := ml) (x := -1) hr h23 h24 (by unfold isN; rw [show decide (0 ≤ (-1 : Int32).toInt) = false from by decide]; rfl)
    rw [ho0, cnd_f, opF4 c3, bind_s, c7, hb7, cnd_t, e0, bind_s, as_R, bind_s]
    simp only [Nat.beq_refl, cnd_t, bind_s, decide_true]
    refine (b71_171 hG ..).trans ?_
    rw [hb6, cnd_t]
  · refine ⟨o, some (.inr (.inr 0)), fun h => by omega, fun _ => ?_⟩
    rw [e131]
    refine (b71_131 hG _ _ _ _ _ _ _ _ _ h6 h7 _).trans ?_
    rw [hk, if_neg (by decide)] at c7
    have e0 := c18_f hG hC (n := n) (ml := ml) (x := -1) hr h23 h24 (by unfold isN; rw [show decide (0 ≤ (-1 : Int32).toInt) = false from by decide]; rfl)
    rw [ho0, cnd_f, opF4 c3, bind_s, c7, hb7, cnd_t, e0, bind_s, as_R, bind_s]
    simp only [Nat.beq_refl, cnd_t, bind_s, decide_true]
    refine (b71_171 hG ..).trans ?_
    rw [hb6, cnd_t]
  · refine ⟨o, some (.inr (.inr (mr (43 + 9 * r) (hdp (stk (qk Q r) p))))), fun _ => ?_, fun h => absurd hk h⟩
    rw [e131]
    refine (b71_131 hG _ _ _ _ _ _ _ _ _ h6 h7 _).trans ?_
    rw [hk, if_pos (by decide)] at c7
    have hdl := hdp_lt (hW.2.2.2.1 r) hp (by omega)
    have e1 := c18_t hG hC (n := n) (ml := ml) hr h23 h24 (by omega : hdp (stk (qk Q r) p) < qn Q r)
    obtain ⟨d1, d2, d3, -⟩ := hR.2.2.2.2.2.1 (hdp (stk (qk Q r) p)) (by omega)
    obtain ⟨o2, ho2⟩ : ∃ o2, o2 = mr (43 + 9 * r) (hdp (stk (qk Q r) p)) := ⟨_, rfl⟩
    rw [← ho2] at e1 d1 d2 d3 ⊢
    have hkq : qk Q r (hdp (stk (qk Q r) p)) = 3 := by
      rcases hW.2.2.2.1 r p hp with h | ⟨h, -⟩ | h | h | ⟨-, q, T, hS⟩ | ⟨h, -⟩ | ⟨h, -⟩
      · omega
      · omega
      · omega
      · omega
      · have hent := (stk_inv (WF_le (hW.2.2.2.1 r) (Nat.le_of_lt hp))).2.1 (q, 0) (by rw [hS]; exact List.mem_cons_self ..)
        rw [hS]
        rcases hent.2 with ⟨-, h⟩ | ⟨h, -⟩ | ⟨h, -⟩
        · exact h
        · exact absurd h (by show ¬ (0 : Nat) = 1; decide)
        · exact absurd h (by show ¬ (0 : Nat) = 2; decide)
      · omega
      · omega
    have hso : (s o2).1 = 3 := by rw [d3, hkq]; rfl
    have ho2n : Nat.beq o2 0 = false := nbeq_f (by omega)
    have t3 : ([3].any (Nat.beq (s o2).1)) = true := by rw [hso]; rfl
    rw [ho0, cnd_f, opF4 c3, bind_s, c7, hb7, cnd_t, e1, bind_s, as_R, bind_s]
    simp only [ho2n, t3, cnd_f, cnd_t, bind_s, Bool.or_true, hb6]
    rw [show decide ((1 : Int32) = 0) = false from by decide, cnd_f]
  · refine ⟨o, some (.inr (.inr (mr (43 + 9 * r) (hdp (stk (qk Q r) p))))), fun h => by omega, fun _ => ?_⟩
    rw [e131]
    refine (b71_131 hG _ _ _ _ _ _ _ _ _ h6 h7 _).trans ?_
    rw [hk, if_pos (by decide)] at c7
    have hdl := hdp_lt (hW.2.2.2.1 r) hp (by omega)
    have e1 := c18_t hG hC (n := n) (ml := ml) hr h23 h24 (by omega : hdp (stk (qk Q r) p) < qn Q r)
    obtain ⟨d1, d2, d3, -⟩ := hR.2.2.2.2.2.1 (hdp (stk (qk Q r) p)) (by omega)
    obtain ⟨o2, ho2⟩ : ∃ o2, o2 = mr (43 + 9 * r) (hdp (stk (qk Q r) p)) := ⟨_, rfl⟩
    rw [← ho2] at e1 d1 d2 d3 ⊢
    have hkq : qk Q r (hdp (stk (qk Q r) p)) = 5 := by
      rcases hW.2.2.2.1 r p hp with h | ⟨h, -⟩ | h | h | ⟨h, -⟩ | ⟨-, q, T, hS⟩ | ⟨h, -⟩
      · omega
      · omega
      · omega
      · omega
      · omega
      · have hent := (stk_inv (WF_le (hW.2.2.2.1 r) (Nat.le_of_lt hp))).2.1 (q, 1) (by rw [hS]; exact List.mem_cons_self ..)
        rw [hS]
        rcases hent.2 with ⟨h, -⟩ | ⟨-, h, -⟩ | ⟨-, h, -⟩
        · exact absurd h (by show ¬ (1 : Nat) = 0; decide)
        · exact h
        · exact h
      · omega
    have hso : (s o2).1 = 2 := by rw [d3, hkq]; rfl
    have ho2n : Nat.beq o2 0 = false := nbeq_f (by omega)
    have t3 : ([3].any (Nat.beq (s o2).1)) = false := by rw [hso]; rfl
    have t4 : ([1, 2, 4, 10].any (Nat.beq (s o2).1)) = true := by rw [hso]; rfl
    rw [ho0, cnd_f, opF4 c3, bind_s, c7, hb7, cnd_t, e1, bind_s, as_R, bind_s]
    simp only [ho2n, t3, t4, cnd_f, cnd_t, bind_s, decide_true]
    refine (b71_171 hG ..).trans ?_
    rw [hb6, cnd_t]