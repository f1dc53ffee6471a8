/-! the class: a loop's formula -/
theorem h5_at {P : Po} : ∀ {n k : Nat}, h5 P n = false → k < n → degc (cd k) = 5 → P (cd k) = 0
  | 0, k, _, hk, _ => by omega
  | n + 1, k, h, hk, hd => by
    unfold h5 at h
    rw [Bool.or_eq_false_iff] at h
    by_cases e : k = n
    · subst e
      have h2 := h.2
      rw [decide_eq_true hd, Bool.and_true, Bool.not_eq_false'] at h2
      exact of_decide_eq_true h2
    · exact h5_at h.1 (by omega) hd
theorem h5_yes {P : Po} {p : Nat} (hp : p < 252) (h : 126 ≤ p) (hn : P (pq p) ≠ 0) : h5 P 252 = true := by
  cases hh : h5 P 252
  · obtain ⟨r1, r2⟩ := cd_rk (pq_vc hp)
    have hd : degc (pq p) = 5 := by
      have h1 := (not_congr (pq_deg hp (by decide : 4 ≤ 5))).mpr (by show ¬ p < 126; omega)
      have h2 := (pq_vc hp).2
      omega
    have := h5_at hh r2 (by rw [r1]; exact hd)
    rw [r1] at this
    exact absurd this hn
  · rfl
theorem h5_no {P : Po} {w : Nat} (hw : w ≤ 4) (hP : dle w P) : h5 P 252 = false := by
  have h : ∀ n, n ≤ 252 → h5 P n = false := by
    intro n
    induction n with
    | zero => exact fun _ => rfl
    | succ n ih =>
      intro hn
      unfold h5
      rw [ih (by omega), Bool.false_or]
      by_cases hd : degc (cd n) = 5
      · rw [hP _ (rk_cd (by omega)).1 (by omega)]; rfl
      · rw [decide_eq_false hd, Bool.and_false]
  exact h 252 (Nat.le_refl _)
theorem c86 {G : AG} (hG : FIX G) {s : Nat → Nat × Nat} {mr : Nat → Nat → Nat} (hC : CS s mr) {n : Nat × Nat} {mi : Nat → Nat → Int32} (hT : CTab mi) {o N tp d : Nat} {sd : Int32} {t : Nat → Nat} {A P : Po} {ml : Nat → Nat → Int64} (ho : s o = (3, 6)) (ho4 : 142 ≤ o) (h3 : mi o 3 = zi d) (hd : d ≤ 2) (hE : EX s mi N (mr o 0) t) (htb : ∀ q, t q ≤ 2) (ht : tp + 1 < 18) (hg : gdn A 252 = true) (hPv : vlt (3 + d) P) (hA : CPo (21 + tp) A ml) (hP : CPo (21 + (tp + 1)) P ml) :
    ∃ ml' b', G 86 0 [some (.inr (.inr 10)), some (.inr (.inr o)), none, none] [] (s, n, rk3 mi sd (zi (tp + 1)) false, ml, mr) = some (none, (s, n, rk3 mi sd (zi tp) b', ml', mr)) ∧ b' = !(sumOk (ad0 P) t d && (gdn (sumR (ad0 P) t d) 252 && gdn (pad A (sumR (ad0 P) t d)) 252)) ∧ (b' = false → CPo (21 + tp) (pad A (sumR (ad0 P) t d)) ml') ∧ OW tp ml ml' := by
  have hb6 : Nat.beq (s 10).1 6 = true := by rw [kc10 hC]; rfl
  have hb3 : Nat.beq (s o).1 3 = true := by rw [ho]; rfl
  have hsW := csW hC (tp + 1) ht
  have z0 := CPo_ad0 hP
  have hPv' := vlt_ad0 hPv
  obtain ⟨m0, hm0⟩ : ∃ m0, m0 = up2 ml (21 + (tp + 1)) 0 (ml (21 + (tp + 1)) 0 + 8640) := ⟨_, rfl⟩
  rw [← hm0] at z0
  have f0 : OW tp ml m0 := by rw [hm0]; exact OW_OF OF_up (by omega)
  have hA0 : CPo (21 + tp) A m0 := CPo_mv hA (by rw [hm0, up2_n _ _ (by omega)])
  obtain ⟨U, hU⟩ : ∃ U, U = ad0 P := ⟨_, rfl⟩
  rw [← hU] at z0 hPv'
  rw [← hU]
  have hTr : ∀ b, CTab (rk3 mi sd (zi tp) b) := fun b => CTab_rk3 hT
  obtain ⟨w, hw, e1, z1, z2⟩ := c87 hG hC (hTr false) (n := n) hsW z0
  have hPw : dle w U := dle_upn hw z1
  obtain ⟨m1, e2, y1, y2⟩ := c73 hG hC (n := n) (mi := rk3 mi sd (zi tp) false) (x := 0) (ml := m0) (cs39 hC) (by decide) (by decide)
  have f1 : OW tp ml m1 := OW_trans f0 (OW_OF y2 (Or.inl rfl))
  have zP1 : CPo (21 + (tp + 1)) U m1 := CPo_mv z0 (y2 _ (by omega))
  have hA1 : CPo (21 + tp) A m1 := CPo_mv hA0 (y2 _ (by omega))
  have h3' : ∀ b, (rk3 mi sd (zi tp) b) o 3 = zi d := fun b => by rw [rk3_n _ _ _ _ (by omega)]; exact h3
  have hE' : ∀ b, EX s (rk3 mi sd (zi tp) b) N (mr o 0) t := fun b => ⟨hE.1, hE.2.1, hE.2.2.1, fun q hq => by rw [rk3_n _ _ _ _ (by have := hE.1; omega)]; exact hE.2.2.2 q hq⟩
  have e88 := c88 hG hC (n := n) (ml := m1) ho (h3' false) (by omega) (hE' false) htb
  have est : G 86 0 [some (.inr (.inr 10)), some (.inr (.inr o)), none, none] [] (s, n, rk3 mi sd (zi (tp + 1)) false, ml, mr) = bif !(aln t (2 + d)) then (bif decide (zi w ≠ (5 : Int32)) then (G 93 0 [some (.inr (.inr 10)), some (.inr (.inr (21 + (tp + 1)))), some (.inl (zi w)), some (.inr (.inr o)), none, none, none] [] (s, n, rk3 mi sd (zi tp) false, m1, mr)).bind fun u15 => (asV u15.1).bind fun _ => G 86 88 [some (.inr (.inr 10)), some (.inr (.inr o)), some (.inr (.inr (21 + (tp + 1)))), some (.inl (zi w))] [] u15.2 else G 86 88 [some (.inr (.inr 10)), some (.inr (.inr o)), some (.inr (.inr (21 + (tp + 1)))), some (.inl (zi w))] [] (s, n, rk3 mi sd (zi tp) true, m1, mr)) else (G 89 0 [some (.inr (.inr 10)), some (.inr (.inr (21 + (tp + 1)))), some (.inl (zi w)), some (.inr (.inr o)), none, none, none, none, none] [] (s, n, rk3 mi sd (zi tp) false, m1, mr)).bind fun u17 => (asV u17.1).bind fun _ => G 86 88 [some (.inr (.inr 10)), some (.inr (.inr o)), some (.inr (.inr (21 + (tp + 1)))), some (.inl (zi w))] [] u17.2 := by
    refine (b86_0 hG ..).trans ?_
    rw [gc16 hC, bind_s, rk3_16, decide_eq_true (by show zi 1 ≤ zi (tp + 1); rw [zi_le (by omega) (by omega)]; omega : (1 : Int32) ≤ zi (tp + 1)), cnd_t, gc15 hC, bind_s, bind_s, ac20 hC ht, bind_s, bind_s, show zi (tp + 1) - 1 = zi tp from by rw [show (1 : Int32) = zi 1 from rfl, zi_sub (by omega)]; rfl, pc16 hC, bind_s, rk3_w16, show hAJ ((s, n, rk3 mi sd (zi tp) false, ml, mr) : Hp) (21 + (tp + 1)) 0 = some (ml (21 + (tp + 1)) 0) from acW hC ht (by decide : 0 < 252), bind_s, show hSJ ((s, n, rk3 mi sd (zi tp) false, ml, mr) : Hp) (21 + (tp + 1)) 0 (ml (21 + (tp + 1)) 0 + 8640) = some (s, n, rk3 mi sd (zi tp) false, m0, mr) from by rw [hm0]; exact wcW hC ht (by decide : 0 < 252), bind_s, e1, bind_s, as_I, bind_s, gc17 hC, bind_s, e2, bind_s, as_V, bind_s, hb3, cnd_t, e88, bind_s, as_I, bind_s, bz_0, hb6, cnd_t, cnd_t, show hpZ ((s, n, rk3 mi sd (zi tp) false, m1, mr) : Hp) 10 20 1 = some (s, n, rk3 mi sd (zi tp) true, m1, mr) from by rw [← rk3_w20 mi sd (zi tp) false true]; exact pc20l hC, bind_s]
  have e88' : ∀ (b : Bool) (S : Po) (m2 : Nat → Nat → Int64), CPo 39 S m2 → CPo (21 + tp) A m2 → ∃ m3, G 86 88 [some (.inr (.inr 10)), some (.inr (.inr o)), some (.inr (.inr (21 + (tp + 1)))), some (.inl (zi w))] [] (s, n, rk3 mi sd (zi tp) b, m2, mr) = some (none, (s, n, rk3 mi sd (zi tp) (b || !(gdn S 252 && gdn (pad A S) 252)), m3, mr)) ∧ CPo (21 + tp) (pad A S) m3 ∧ OW tp m2 m3 := by
    intro b S m2 hS hA2
    obtain ⟨m3, e3, x1, x2⟩ := c82 hG hC (n := n) (mi := up2 (up2 mi 10 19 sd) 10 16 (zi tp)) (tp := tp) (b := b) (by omega) (by rw [up2_s, up1_s]) hg hS hA2
    refine ⟨m3, ?_, x1, OW_OF x2 (by omega)⟩
    refine (b86_88 hG ..).trans ?_
    rw [hb6, cnd_t, show rk3 mi sd (zi tp) b = up2 (up2 (up2 mi 10 19 sd) 10 16 (zi tp)) 10 20 (bz b) from rfl, e3, bind_s, as_V, bind_s]
    rfl
  rw [est]
  unfold sumOk sumR
  cases hal : aln t (2 + d)
  · rw [Bool.not_false, cnd_t, Bool.false_or]
    by_cases h5w : w = 5
    · subst h5w
      obtain ⟨p, hp1, hp2, hp3⟩ := z2 rfl
      have hh : h5 U 252 = true := h5_yes hp1 hp2 hp3
      obtain ⟨m3, e3, x1, x2⟩ := e88' true (fun _ => 0) m1 y1 hA1
      refine ⟨m3, true, ?_, ?_, fun h => (by cases h), OW_trans f1 x2⟩
      · rw [show decide (zi 5 ≠ (5 : Int32)) = false from by decide, cnd_f, e3, Bool.true_or]
      · rw [hh, Bool.not_true, Bool.false_and, Bool.false_and]; rfl
    · have hh : h5 U 252 = false := h5_no (by omega) hPw
      obtain ⟨m2, e4, x3, x4⟩ := c93 hG hC (CTab_10 (CTab_10 hT)) (n := n) (mi := up2 (up2 mi 10 19 sd) 10 16 (zi tp)) (b := false) hsW (by omega) ho ho4 (by rw [up2_n _ _ (by omega), up2_n _ _ (by omega)]; exact h3) hd ⟨hE.1, hE.2.1, hE.2.2.1, fun q hq => by rw [up2_n _ _ (by have := hE.1; omega), up2_n _ _ (by have := hE.1; omega)]; exact hE.2.2.2 q hq⟩ htb (by omega : w ≤ 4) hPw hPv' zP1 y1
      obtain ⟨m3, e3, x1, x2⟩ := e88' (false || !dv6 (sumS U t d) 252) (fun c => sumS U t d c / 60) m2 x3 (CPo_mv hA1 (x4 _ (by omega)))
      refine ⟨m3, (false || !dv6 (sumS U t d) 252 || !(gdn (fun c => sumS U t d c / 60) 252 && gdn (pad A (fun c => sumS U t d c / 60)) 252)), ?_, ?_, fun _ => x1, OW_trans (OW_trans f1 (OW_OF x4 (Or.inl rfl))) x2⟩
      · rw [decide_eq_true (by show zi w ≠ zi 5; rw [zi_ne (by omega) (by omega)]; exact h5w : zi w ≠ (5 : Int32)), cnd_t, show rk3 mi sd (zi tp) false = up2 (up2 (up2 mi 10 19 sd) 10 16 (zi tp)) 10 20 (bz false) from rfl, e4, bind_s, as_V, bind_s]
        exact e3
      · rw [hh, Bool.not_false, Bool.true_and, Bool.false_or, cnd_f]
        cases dv6 (sumS U t d) 252 <;> cases gdn (fun c => sumS U t d c / 60) 252 <;> cases gdn (pad A (fun c => sumS U t d c / 60)) 252 <;> rfl
  · rw [Bool.not_true, cnd_f, Bool.true_or, Bool.true_and, cnd_t]
    obtain ⟨m2, e4, x3, x4⟩ := c89 hG hC (hTr false) (n := n) hsW (by omega) ho (h3' false) hd (hE' false) htb hw hPw hPv' zP1 y1
    obtain ⟨m3, e3, x1, x2⟩ := e88' false (sumF U t d) m2 x3 (CPo_mv hA1 (x4 _ (by omega)))
    refine ⟨m3, (false || !(gdn (sumF U t d) 252 && gdn (pad A (sumF U t d)) 252)), ?_, ?_, fun _ => x1, OW_trans (OW_trans f1 (OW_OF x4 (Or.inl rfl))) x2⟩
    · rw [e4, bind_s, as_V, bind_s]
      exact e3
    · rw [Bool.false_or]