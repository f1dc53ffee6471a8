/-! the class: runs: OR, DONE; any step -/
theorem IA_b {Q : Pg} {t r p x0 x1 sp k : Nat} {z : Int32} {L : List En} {R : List Fr} (h : IA Q t ((r, p, x0, x1, L) :: R, sp, k, z)) : 99 * t ≤ 50000000 ∧ sp ≤ 50000000 := by
  obtain ⟨-, -, b1, -, -, b6, b7, -⟩ := h
  have c1 : k ≤ 20000 := b1
  have c2 : t + phi Q ((r, p, x0, x1, L) :: R) ≤ 25 + 25 * k := b6
  have c3 : bsf Q ((r, p, x0, x1, L) :: R) + sp ≤ 99 * t := b7
  omega
theorem c110o {G : AG} (hG : FIX G) {s : Nat → Nat × Nat} {mr : Nat → Nat → Nat} (hC : CS s mr) {n : Nat × Nat} {Q : Pg} {N w t r p x0 x1 sp k : Nat} {z : Int32} {c : En} {L : List En} {R : List Fr} {mi : Nat → Nat → Int32} {ml : Nat → Nat → Int64} (hW : WP Q) (hQ : CQ Q N s mi mr) (hw : w ≤ 4) (hI : IA Q t ((r, p, x0, x1, c :: L) :: R, sp, k, z)) (hR : RC Q w mi ml mr ((r, p, x0, x1, c :: L) :: R, sp, k, z)) (hp : p < qn Q r) (hk : qk Q r p = 7 ∨ qk Q r p = 8) :
    ∃ mi' ml' mr', G 110 0 [some (.inr (.inr 41)), some (.inr (.inr (42 + 9 * r))), none, none, none, none, none] [] (s, n, mi, ml, mr) = some (none, (s, n, mi', ml', mr')) ∧ PC Q w mi' ml' mr' (stA Q w ((r, p, x0, x1, c :: L) :: R, sp, k, z)) ∧ CRf mi mi' ml ml' mr mr' := by
  have hFs := hI.1
  have hB := IA_b hI
  obtain ⟨⟨⟨i1, i2, i3, i4, i5⟩, i6, i7⟩, -, j1, -, -, -, -, jE, -⟩ := hI
  obtain ⟨⟨g1, g2, g3, g4, g5⟩, ⟨g6, g7⟩, g8⟩ := hR
  have f5 := g8.1.2.2.2.2
  have j1' : k ≤ 20000 := j1
  have g1' : mi 41 34 = zi w := g1
  have g2' : mi 41 35 = zi sp := g2
  have g3' : mi 41 36 = zi k := g3
  have g5' : mi 41 33 = z := g5
  have hWF := hW.2.2.2.1 r
  have hnil := whl_nil hW i1 i2
  have hCR := hQ.2.1 r i1
  obtain ⟨q, hq⟩ : ∃ q, q = hdp (stk (qk Q r) p) := ⟨_, rfl⟩
  have sq : ∃ y, stk (qk Q r) p = (q, y) :: stk (qk Q r) q ∧ q < p ∧ qk Q r q = 5 ∧ (qk Q r p = 7 → y = 1) ∧ (qk Q r p = 8 → y = 2) := by
    rcases hk with h | h
    · obtain ⟨a1, a2, a3, a4⟩ := st_or hWF hp h hq.symm
      exact ⟨1, a1, a3, a4, fun _ => rfl, fun e => by omega⟩
    · obtain ⟨a1, a2, a3, a4⟩ := st_done hWF hp h hq.symm
      exact ⟨2, a1, a3, a4, fun e => by omega, fun _ => rfl⟩
  obtain ⟨y, s1, s3, s4, s5, s6⟩ := sq
  have est := c110k hG hC (n := n) (ml := ml) hW hQ i1 g7 hp (by omega)
  rw [← hq] at est
  obtain ⟨c1, c2, c3, -⟩ := hCR.2.2.2.2.2.1 q (by omega)
  rw [s4, osh_5] at c3
  obtain ⟨-, -, p3, p4, -⟩ := hCR.2.2.2.2.2.1 p hp
  have hb8 : Nat.beq (s 41).1 8 = true := by rw [kc41 hC]; rfl
  have ho0 : Nat.beq (mr (43 + 9 * r) q) 0 = false := nbeq_f (by omega)
  have t3 : ([3].any (Nat.beq (s (mr (43 + 9 * r) q)).1)) = false := by rw [c3]; rfl
  have t31 : ([1, 2, 4, 10].any (Nat.beq (s (mr (43 + 9 * r) q)).1)) = true := by rw [c3]; rfl
  have t2 : ([2].any (Nat.beq (s (mr (43 + 9 * r) q)).1)) = true := by rw [c3]; rfl
  obtain ⟨m1, hm1⟩ : ∃ m, m = up2 mi 41 39 (zi (p + 1)) := ⟨_, rfl⟩
  have fr1 : CRf mi m1 ml ml mr mr := by rw [hm1]; exact CRf_41
  have m41 : ∀ a, a ≠ 41 → m1 a = mi a := fun a ha => by rw [hm1, up2_n _ _ ha]
  have h41 : ∀ f, f ≠ 39 → m1 41 f = mi 41 f := fun f hf => by rw [hm1, up2_s, up1_n _ _ hf]
  have n39 : m1 41 39 = zi (p + 1) := by rw [hm1, up2_s, up1_s]
  have p4' : m1 (mr (43 + 9 * r) p) 1 = zi (qk Q r p) := by
    have := ((hCR.2.2.2.2.2.1 p hp).1)
    rw [m41 _ (by omega)]; exact p4
  have e121 : G 121 0 [some (.inr (.inr 41)), some (.inr (.inr (42 + 9 * r))), some (.inr (.inr (mr (43 + 9 * r) p))), some (.inr (.inr (mr (43 + 9 * r) q))), none, none, none] [] (s, n, mi, ml, mr) = (bif decide (bz (decide (3 ≤ w)) = 0) then G 121 66 [some (.inr (.inr 41)), some (.inr (.inr (42 + 9 * r))), some (.inr (.inr (mr (43 + 9 * r) p))), some (.inr (.inr (mr (43 + 9 * r) q))), none, some (.inr (.inr (mr (43 + 9 * r) q))), none] [] (s, n, m1, ml, mr) else (G 122 0 [some (.inr (.inr 41)), some (.inr (.inr (mr (43 + 9 * r) q))), some (.inl (zi (qk Q r p))), none] [] (s, n, m1, ml, mr)).bind fun u9 => (asV u9.1).bind fun _ => some (none, u9.2)) := by
    refine (b121_0 hG ..).trans ?_
    rw [gc39 hC, bind_s, g7, show zi p + 1 = zi (p + 1) from zi_add p 1, pc39 hC, bind_s, ← hm1]
    simp only [ho0, cnd_f, t3, t31, t2, cnd_t, bind_s, Bool.or_true, decide_true]
    rw [show decide ((1 : Int32) = 0) = false from by decide, cnd_f, hb8, cnd_t, c119 hG hC hw ((h41 34 (by decide)).trans g1'), bind_s, as_I, bind_s, opF1 p3, bind_s, p4', hb8, cnd_t]
    congr 1
    congr 1
    funext u
    congr 1
    funext _
    exact b121_99 hG ..
  rw [est, e121]
  by_cases hw3 : 3 ≤ w
  · rw [decide_eq_true hw3, show decide (bz true = 0) = false from rfl, cnd_f]
    rcases hk with hk | hk
    · have hy := s5 hk
      subst hy
      have es := (st_or hWF hp hk hq.symm).2.1
      have e122 : G 122 0 [some (.inr (.inr 41)), some (.inr (.inr (mr (43 + 9 * r) q))), some (.inl (zi (qk Q r p))), none] [] (s, n, m1, ml, mr) = some (none, (s, n, up2 (up2 m1 (mr (43 + 9 * r) q) 10 (zi sp)) 41 35 0, ml, mr)) := by
        refine (b122_0 hG ..).trans ?_
        rw [hk, show decide (zi 7 ≠ (7 : Int32)) = false from by decide, cnd_f, gc35 hC, bind_s, h41 _ (by decide), g2', rpI c3 hF2_10 (by omega), bind_s, pc35 hC, bind_s]
        exact b122_66 hG ..
      rw [e122, stA_7 hp hk, if_pos hw3]
      refine ⟨_, _, _, rfl, ?_, CRf_trans (CRf_trans fr1 (CRf_910 c1 (Or.inr rfl))) CRf_41⟩
      have mo : ∀ a, a ≠ 41 → a ≠ mr (43 + 9 * r) q → up2 (up2 m1 (mr (43 + 9 * r) q) 10 (zi sp)) 41 35 0 a = mi a := fun a h1 h2 => by rw [up2_n _ _ h1, up2_n _ _ h2, m41 _ h1]
      have h41' : ∀ f, f ≠ 35 → up2 (up2 m1 (mr (43 + 9 * r) q) 10 (zi sp)) 41 35 0 41 f = m1 41 f := fun f hf => by rw [up2_s, up1_n _ _ hf, up2_n _ _ (by omega)]
      refine RC_o hW hQ (by omega : q < qn Q r) mo hFs g8 ⟨(h41' 34 (by decide)).trans ((h41 34 (by decide)).trans g1), by rw [up2_s, up1_s]; rfl, (h41' 36 (by decide)).trans ((h41 36 (by decide)).trans g3), (h41' 37 (by decide)).trans ((h41 37 (by decide)).trans g4), (h41' 33 (by decide)).trans ((h41 33 (by decide)).trans g5)⟩ g6 ((h41' 39 (by decide)).trans n39) (fun j => by rw [es, s1, cf_1, cf_2]) (by rw [es, s1, lps_1, lps_2]) (fun j => by rw [es, s1, ef_1, ef_2]) (fun h3 => ?_)
      have f5' := f5 h3
      rw [s1, EC_1] at f5'
      rw [es, EC_2]
      exact ⟨⟨by rw [up2_n _ _ (by omega), up2_s, up1_n _ _ (by decide), m41 _ (by omega)]; exact f5'.1, by rw [up2_n _ _ (by omega), up2_s, up1_s]⟩, EC_o hW hQ i1 (Nat.le_refl _) (by omega) mo f5'.2⟩
    · have hy := s6 hk
      subst hy
      have es := (st_done hWF hp hk hq.symm).2.1
      have f5' := f5 hw3
      rw [s1, EC_2] at f5'
      have hjE : EBs (bsf Q R) (99 * t) (stk (qk Q r) p) (c :: L) := jE
      rw [s1, EBs_2] at hjE
      have hc2 : c.2 ≤ 50000000 := by have := hjE.1; omega
      have e122 : G 122 0 [some (.inr (.inr 41)), some (.inr (.inr (mr (43 + 9 * r) q))), some (.inl (zi (qk Q r p))), none] [] (s, n, m1, ml, mr) = some (none, (s, n, up2 m1 41 35 (zi (c.1 + mxw w c.2 sp)), ml, mr)) := by
        have s55 : ∀ v : Nat, G 122 55 [some (.inr (.inr 41)), some (.inr (.inr (mr (43 + 9 * r) q))), some (.inl (zi 8)), none] [.inl (zi v)] (s, n, m1, ml, mr) = some (none, (s, n, up2 m1 41 35 (zi (c.1 + v)), ml, mr)) := by
          intro v
          refine (b122_55 hG ..).trans ?_
          rw [rgI c3 hF2_9, bind_s, m41 _ (by omega), f5'.1.1, zi_add, pc35 hC, bind_s]
          exact b122_66 hG ..
        have i34 : m1 41 34 = zi w := (h41 34 (by decide)).trans g1'
        have i35 : m1 41 35 = zi sp := (h41 35 (by decide)).trans g2'
        have i10 : m1 (mr (43 + 9 * r) q) 10 = zi c.2 := by rw [m41 _ (by omega)]; exact f5'.1.2
        refine (b122_0 hG ..).trans ?_
        rw [hk, show decide (zi 8 ≠ (7 : Int32)) = true from by decide, cnd_t, gc34 hC, bind_s, i34]
        have hw34 : w = 3 ∨ w = 4 := by omega
        rcases hw34 with hwe | hwe
        · rw [hwe, show decide (zi 3 ≠ (3 : Int32)) = false from by decide, cnd_f, rgI c3 hF2_10, bind_s, i10, gc35 hC, bind_s, i35]
          have : (if zi c.2 < zi sp then zi sp else zi c.2) = zi (mxw 3 c.2 sp) := by
            unfold mxw
            rw [if_pos rfl]
            by_cases h : c.2 < sp
            · rw [if_pos (by rw [zi_lt (by omega) (by omega)]; exact h), if_neg (by omega)]
            · rw [if_neg (by rw [zi_lt (by omega) (by omega)]; exact h)]
              by_cases h' : sp < c.2
              · rw [if_pos h']
              · rw [if_neg h', show c.2 = sp by omega]
          rw [this]
          exact s55 _
        · rw [hwe, show decide (zi 4 ≠ (3 : Int32)) = true from by decide, cnd_t, rgI c3 hF2_10, bind_s, i10, gc35 hC, bind_s, i35]
          have : (if zi sp < zi c.2 then zi sp else zi c.2) = zi (mxw 4 c.2 sp) := by
            unfold mxw
            rw [if_neg (by decide : ¬ (4 : Nat) = 3)]
            by_cases h : sp < c.2
            · rw [if_pos (by rw [zi_lt (by omega) (by omega)]; exact h), if_neg (by omega)]
            · rw [if_neg (by rw [zi_lt (by omega) (by omega)]; exact h)]
              by_cases h' : c.2 < sp
              · rw [if_pos h']
              · rw [if_neg h', show c.2 = sp by omega]
          rw [this]
          exact s55 _
      rw [e122, stA_8 hp hk, if_pos hw3]
      refine ⟨_, _, _, rfl, ?_, CRf_trans fr1 CRf_41⟩
      have mo : ∀ a, a ≠ 41 → a ≠ mr (43 + 9 * r) q → up2 m1 41 35 (zi (c.1 + mxw w c.2 sp)) a = mi a := fun a h1 h2 => by rw [up2_n _ _ h1, m41 _ h1]
      have h41' : ∀ f, f ≠ 35 → up2 m1 41 35 (zi (c.1 + mxw w c.2 sp)) 41 f = m1 41 f := fun f hf => by rw [up2_s, up1_n _ _ hf]
      refine RC_o hW hQ (by omega : q < qn Q r) mo hFs g8 ⟨(h41' 34 (by decide)).trans ((h41 34 (by decide)).trans g1), by rw [up2_s, up1_s], (h41' 36 (by decide)).trans ((h41 36 (by decide)).trans g3), (h41' 37 (by decide)).trans ((h41 37 (by decide)).trans g4), (h41' 33 (by decide)).trans ((h41 33 (by decide)).trans g5)⟩ g6 ((h41' 39 (by decide)).trans n39) (fun j => by rw [es, s1, cf_2]) (by rw [es, s1, lps_2]) (fun j => by rw [es, s1, ef_2]) (fun h3 => ?_)
      rw [es]
      exact EC_o hW hQ i1 (Nat.le_refl _) (by omega) mo f5'.2
  · rw [decide_eq_false hw3, show decide (bz false = 0) = true from rfl, cnd_t]
    rcases hk with hk | hk
    · have hy := s5 hk
      subst hy
      obtain ⟨E0, q1, q2, ⟨-, q3⟩, q4⟩ := opn_e hWF hnil (by omega : q < qn Q r) (Or.inr s4)
      obtain ⟨k1, k2, k3, k4, -⟩ := cls_ok ⟨E0, q1, q2, q3 s4, q4⟩
      obtain ⟨E, hEe⟩ : ∃ E, E = cls (qk Q r) (qn Q r) q 8 := ⟨_, rfl⟩
      rw [← hEe] at k1 k2 k3 k4
      have es := (st_done hWF k4 k1 k2).2.1
      have h8 : mi (mr (43 + 9 * r) q) 8 = zi E := by
        have := (hCR.2.2.2.2.2.1 _ k4).2.2.2.2.2.2.2.2.2.2.2.2 k1
        rw [k2] at this; exact this
      have e66 : G 121 66 [some (.inr (.inr 41)), some (.inr (.inr (42 + 9 * r))), some (.inr (.inr (mr (43 + 9 * r) p))), some (.inr (.inr (mr (43 + 9 * r) q))), none, some (.inr (.inr (mr (43 + 9 * r) q))), none] [] (s, n, m1, ml, mr) = some (none, (s, n, up2 m1 41 39 (zi (E + 1)), ml, mr)) := by
        refine (b121_66_R hG ..).trans ?_
        simp only [ho0, cnd_f, t2, cnd_t, bind_s, Bool.or_true]
        rw [show decide ((1 : Int32) = 0) = false from by decide, cnd_f, opF1 p3, bind_s, p4', hk, show decide (zi 7 ≠ (7 : Int32)) = false from by decide, cnd_f, rgI c3 hF2_8, bind_s, m41 _ (by omega), h8, show zi E + 1 = zi (E + 1) from zi_add E 1, pc39 hC, bind_s]
        exact b121_99 hG ..
      rw [e66, stA_7 hp hk, if_neg hw3, ← hq, ← hEe]
      refine ⟨_, _, _, rfl, ?_, CRf_trans fr1 CRf_41⟩
      have h41' : ∀ f, f ≠ 39 → up2 m1 41 39 (zi (E + 1)) 41 f = m1 41 f := fun f hf => by rw [up2_s, up1_n _ _ hf]
      exact RC_o hW hQ (by omega : q < qn Q r) (fun a h1 _ => by rw [up2_n _ _ h1]; exact m41 a h1) hFs g8 ⟨(h41' 34 (by decide)).trans ((h41 34 (by decide)).trans g1), (h41' 35 (by decide)).trans ((h41 35 (by decide)).trans g2), (h41' 36 (by decide)).trans ((h41 36 (by decide)).trans g3), (h41' 37 (by decide)).trans ((h41 37 (by decide)).trans g4), (h41' 33 (by decide)).trans ((h41 33 (by decide)).trans g5)⟩ g6 (by rw [up2_s, up1_s]) (fun j => by rw [es, s1, cf_1]) (by rw [es, s1, lps_1]) (fun j => by rw [es, s1, ef_1]) (fun h3 => absurd h3 hw3)
    · have hy := s6 hk
      subst hy
      have es := (st_done hWF hp hk hq.symm).2.1
      have e66 : G 121 66 [some (.inr (.inr 41)), some (.inr (.inr (42 + 9 * r))), some (.inr (.inr (mr (43 + 9 * r) p))), some (.inr (.inr (mr (43 + 9 * r) q))), none, some (.inr (.inr (mr (43 + 9 * r) q))), none] [] (s, n, m1, ml, mr) = some (none, (s, n, m1, ml, mr)) := by
        refine (b121_66_R hG ..).trans ?_
        simp only [ho0, cnd_f, t2, cnd_t, bind_s, Bool.or_true]
        rw [show decide ((1 : Int32) = 0) = false from by decide, cnd_f, opF1 p3, bind_s, p4', hk, show decide (zi 8 ≠ (7 : Int32)) = true from by decide, cnd_t]
        exact b121_99 hG ..
      rw [e66, stA_8 hp hk, if_neg hw3]
      refine ⟨_, _, _, rfl, ?_, fr1⟩
      exact RC_o hW hQ (by omega : q < qn Q r) (fun a h1 _ => m41 a h1) hFs g8 ⟨(h41 34 (by decide)).trans g1, (h41 35 (by decide)).trans g2, (h41 36 (by decide)).trans g3, (h41 37 (by decide)).trans g4, (h41 33 (by decide)).trans g5⟩ g6 n39 (fun j => by rw [es, s1, cf_2]) (by rw [es, s1, lps_2]) (fun j => by rw [es, s1, ef_2]) (fun h3 => absurd h3 hw3)
/-- any step -/
theorem c110 {G : AG} (hG : FIX G) {s : Nat → Nat × Nat} {mr : Nat → Nat → Nat} (hC : CS s mr) {n : Nat × Nat} {Q : Pg} {N w t r p x0 x1 sp k : Nat} {z : Int32} {L : List En} {R : List Fr} {mi : Nat → Nat → Int32} {ml : Nat → Nat → Int64} (hW : WP Q) (hQ : CQ Q N s mi mr) (hw : w ≤ 4) (hI : IA Q t ((r, p, x0, x1, L) :: R, sp, k, z)) (hR : RC Q w mi ml mr ((r, p, x0, x1, L) :: R, sp, k, z)) :
    ∃ mi' ml' mr', G 110 0 [some (.inr (.inr 41)), some (.inr (.inr (42 + 9 * r))), none, none, none, none, none] [] (s, n, mi, ml, mr) = some (none, (s, n, mi', ml', mr')) ∧ PC Q w mi' ml' mr' (stA Q w ((r, p, x0, x1, L) :: R, sp, k, z)) ∧ CRf mi mi' ml ml' mr mr' := by
  have i3 : p ≤ qn Q r := hI.1.1.2.2.1
  have i4 : L.length = (stk (qk Q r) p).length := hI.1.1.2.2.2.1
  by_cases hp : p = qn Q r
  · subst hp
    exact c110e hG hC hW hQ hI hR
  have hp' : p < qn Q r := by omega
  have hne : (∃ y T, stk (qk Q r) p = y :: T) → ∃ c L', L = c :: L' := by
    rintro ⟨y, T, h⟩
    rw [h] at i4
    cases L with
    | nil => cases i4
    | cons c L' => exact ⟨c, L', rfl⟩
  rcases hW.2.2.2.1 r p hp' with h | ⟨h, -⟩ | h | h | ⟨h, q, T, hS⟩ | ⟨h, q, T, hS⟩ | ⟨h, q, T, hS⟩
  · exact c110w hG hC hW hQ hI hR hp' h
  · exact c110l hG hC hW hQ hI hR hp' h
  · exact c110c hG hC hW hQ hI hR hp' h
  · exact c110i hG hC hW hQ hw hI hR hp' h
  · obtain ⟨c, L', rfl⟩ := hne ⟨_, _, hS⟩
    exact c110d hG hC hW hQ hI hR hp' h
  · obtain ⟨c, L', rfl⟩ := hne ⟨_, _, hS⟩
    exact c110o hG hC hW hQ hw hI hR hp' (Or.inl h)
  · obtain ⟨c, L', rfl⟩ := hne ⟨_, _, hS⟩
    exact c110o hG hC hW hQ hw hI hR hp' (Or.inr h)