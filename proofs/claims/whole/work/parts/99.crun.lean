/-! the class: runs: small methods -/
theorem c116_t {G : AG} (hG : FIX G) {s : Nat → Nat × Nat} {mr : Nat → Nat → Nat} (hC : CS s mr) {n : Nat × Nat} {mi : Nat → Nat → Int32} {ml : Nat → Nat → Int64} {k sp : Nat} (h36 : mi 41 36 = zi k) (h35 : mi 41 35 = zi sp) (hk : k < 20000) : G 116 0 [some (.inr (.inr 41))] [] (s, n, mi, ml, mr) = some (some (.inl (bz true)), (s, n, up2 (up2 mi 41 36 (zi (k + 1))) 41 35 (zi (sp + 1)), ml, mr)) := by
  refine (b116_0 hG ..).trans ?_
  rw [gc36 hC, bind_s, h36, decide_eq_true (by show zi k < zi 20000; rw [zi_lt (by omega) (by omega)]; exact hk : zi k < (20000 : Int32)), cnd_t, bind_s, show zi k + 1 = zi (k + 1) from zi_add k 1, pc36 hC, bind_s, gc35 hC, bind_s, up2_s, up1_n _ _ (by decide), h35, show zi sp + 1 = zi (sp + 1) from zi_add sp 1, pc35 hC, bind_s]
  rfl
theorem c116_f {G : AG} (hG : FIX G) {s : Nat → Nat × Nat} {mr : Nat → Nat → Nat} (hC : CS s mr) {n : Nat × Nat} {mi : Nat → Nat → Int32} {ml : Nat → Nat → Int64} (h36 : mi 41 36 = zi 20000) : G 116 0 [some (.inr (.inr 41))] [] (s, n, mi, ml, mr) = some (some (.inl (bz false)), (s, n, up2 mi 41 37 (bz true), ml, mr)) := by
  refine (b116_0 hG ..).trans ?_
  rw [gc36 hC, bind_s, h36, show decide (zi 20000 < (20000 : Int32)) = false from by decide, cnd_f, show (1 : Int32) = zi 1 from rfl, pc37l hC, bind_s]
  rfl
theorem c111 {G : AG} (hG : FIX G) {s : Nat → Nat × Nat} {mr : Nat → Nat → Nat} (hC : CS s mr) {n : Nat × Nat} {mi : Nat → Nat → Int32} {ml : Nat → Nat → Int64} {r N e x0 x1 : Nat} {t c : Nat → Nat} (hr : r < 8) (hE : EX s mi N e t) (htb : ∀ q, t q ≤ 2) (h0 : ml (49 + 9 * r) 0 = zl x0) (h1 : ml (49 + 9 * r) 1 = zl x1) (hc : ∀ j, j < 3 → ml (49 + 9 * r) (2 + j) = zl (c j)) : G 111 0 [some (.inr (.inr (42 + 9 * r))), some (.inr (.inr e)), none, none, none] [] (s, n, mi, ml, mr) = some (some (.inr (.inl (zl (exv t x0 x1 c)))), (s, n, mi, ml, mr)) := by
  have st : ∀ (v : Nat) (a y : Nat), v < 5 → ml (49 + 9 * r) v = zl y → G 111 8 [some (.inr (.inr (42 + 9 * r))), some (.inr (.inr e)), some (.inr (.inl (zl a))), none, some (.inl (zi v))] [] (s, n, mi, ml, mr) = G 111 8 [some (.inr (.inr (42 + 9 * r))), some (.inr (.inr e)), some (.inr (.inl (zl (a + t (v + 1) * y)))), none, some (.inl (zi (v + 1)))] [] (s, n, mi, ml, mr) := by
    intro v a y hv hy
    have ht := htb (v + 1)
    refine (b111_8 hG ..).trans ?_
    rw [decide_eq_false (by show ¬ zi 5 ≤ zi v; rw [zi_le (by omega) (by omega)]; omega : ¬ (5 : Int32) ≤ zi v), cnd_f, show (1 : Int32) + zi v = zi (v + 1) from by rw [Int32.add_comm]; exact zi_add v 1, raI hE.2.2.1 (by omega) (by decide), bind_s, hE.2.2.2 (v + 1) (by omega), gc29 hC hr, bind_s, ac49 hC hr hv, bind_s, hy, zi_64 (by omega), zl_mul, zl_add, show zi v + 1 = zi (v + 1) from zi_add v 1]
  have ht := htb 0
  refine (b111_0 hG ..).trans ?_
  rw [show (0 : Int32) = zi 0 from rfl, raI hE.2.2.1 (by decide) (by decide), bind_s, hE.2.2.2 0 (by decide), zi_64 (by omega), st 0 _ x0 (by decide) h0, st 1 _ x1 (by decide) h1, st 2 _ (c 0) (by decide) (hc 0 (by decide)), st 3 _ (c 1) (by decide) (hc 1 (by decide)), st 4 _ (c 2) (by decide) (hc 2 (by decide))]
  refine (b111_8 hG ..).trans ?_
  rw [show decide ((5 : Int32) ≤ zi (4 + 1)) = true from by decide, cnd_t]
  rfl
theorem c112 {G : AG} (hG : FIX G) {s : Nat → Nat × Nat} {mr : Nat → Nat → Nat} (hC : CS s mr) {n : Nat × Nat} {mi : Nat → Nat → Int32} {ml : Nat → Nat → Int64} {r o d : Nat} {v : Int64} (hr : r < 8) (ho : s o = (3, 6)) (h3 : mi o 3 = zi d) (hd : d ≤ 2) : G 112 0 [some (.inr (.inr (42 + 9 * r))), some (.inr (.inr o)), some (.inr (.inl v)), none, none] [] (s, n, mi, ml, mr) = some (none, (s, n, mi, up2 ml (50 + 9 * r) (2 + d) v, mr)) := by
  have hb3 : Nat.beq (s o).1 3 = true := by rw [ho]; rfl
  refine (b112_0 hG ..).trans ?_
  rw [hb3, cnd_t, c90 hG hC (k := 3) ho h3, bind_s, as_I, bind_s, decide_eq_false (by show ¬ zi 5 ≤ zi (2 + d); rw [zi_le (by omega) (by omega)]; omega : ¬ (5 : Int32) ≤ zi (2 + d)), cnd_f, gc30 hC hr, bind_s, wc50 hC hr (by omega), bind_s]
  exact b112_20 hG ..
theorem c115 {G : AG} (hG : FIX G) {s : Nat → Nat × Nat} {mr : Nat → Nat → Nat} (hC : CS s mr) {n : Nat × Nat} {mi : Nat → Nat → Int32} {ml : Nat → Nat → Int64} {r o d : Nat} {v : Int64} (hr : r < 8) (ho : s o = (3, 6)) (h3 : mi o 3 = zi d) (hd : d ≤ 2) : G 115 0 [some (.inr (.inr (42 + 9 * r))), some (.inr (.inr o)), some (.inr (.inl v)), none, none] [] (s, n, mi, ml, mr) = some (none, (s, n, mi, up2 ml (49 + 9 * r) (2 + d) v, mr)) := by
  have hb3 : Nat.beq (s o).1 3 = true := by rw [ho]; rfl
  refine (b115_0 hG ..).trans ?_
  rw [hb3, cnd_t, c90 hG hC (k := 3) ho h3, bind_s, as_I, bind_s, decide_eq_false (by show ¬ zi 5 ≤ zi (2 + d); rw [zi_le (by omega) (by omega)]; omega : ¬ (5 : Int32) ≤ zi (2 + d)), cnd_f, gc29 hC hr, bind_s, wc49 hC hr (by omega), bind_s]
  exact b115_20 hG ..
theorem c114 {G : AG} (hG : FIX G) {s : Nat → Nat × Nat} {mr : Nat → Nat → Nat} (hC : CS s mr) {n : Nat × Nat} {mi : Nat → Nat → Int32} {ml : Nat → Nat → Int64} {r o d c e : Nat} (hr : r < 8) (ho : s o = (3, 6)) (h3 : mi o 3 = zi d) (hd : d ≤ 2) (h49 : ml (49 + 9 * r) (2 + d) = zl c) (h50 : ml (50 + 9 * r) (2 + d) = zl e) (hc : c < 2147483648) (he : e < 2147483648) : G 114 0 [some (.inr (.inr (42 + 9 * r))), some (.inr (.inr o)), none] [] (s, n, mi, ml, mr) = some (some (.inr (.inl (if c < e then zl (c + 1) else 0))), (s, n, mi, ml, mr)) := by
  have hb3 : Nat.beq (s o).1 3 = true := by rw [ho]; rfl
  refine (b114_0 hG ..).trans ?_
  rw [hb3, cnd_t, c90 hG hC (k := 3) ho h3, bind_s, as_I, bind_s, decide_eq_false (by show ¬ zi 5 ≤ zi (2 + d); rw [zi_le (by omega) (by omega)]; omega : ¬ (5 : Int32) ≤ zi (2 + d)), cnd_f, gc29 hC hr, bind_s, ac49 hC hr (by omega), bind_s, gc30 hC hr, bind_s, ac50 hC hr (by omega), bind_s, h49, h50, cmp_lt0]
  by_cases hlt : c < e
  · rw [decide_eq_true (by rw [zl_lt (by omega) (by omega)]; exact hlt : zl c < zl e), cnd_t, bind_s, ac49 hC hr (by omega), bind_s, h49, if_pos hlt, show zl c + 1 = zl (c + 1) from zl_add c 1]
  · rw [decide_eq_false (by rw [zl_lt (by omega) (by omega)]; exact hlt : ¬ zl c < zl e), cnd_f, if_neg hlt]
    exact b114_26 hG ..
/-- goRound: on, spent, or over -/
theorem c113 {G : AG} (hG : FIX G) {s : Nat → Nat × Nat} {mr : Nat → Nat → Nat} (hC : CS s mr) {n : Nat × Nat} {mi : Nat → Nat → Int32} {ml : Nat → Nat → Int64} {r o d c e k sp q E : Nat} (hr : r < 8) (ho : s o = (3, 6)) (ho4 : 142 ≤ o) (h3 : mi o 3 = zi d) (h2 : mi o 2 = zi q) (h11 : mi o 11 = zi E) (hd : d ≤ 2) (h49 : ml (49 + 9 * r) (2 + d) = zl c) (h50 : ml (50 + 9 * r) (2 + d) = zl e) (hc : c < 2147483648) (he : e < 2147483648) (h36 : mi 41 36 = zi k) (h35 : mi 41 35 = zi sp) (hk : k ≤ 20000) :
    (c < e → k < 20000 → G 113 0 [some (.inr (.inr 41)), some (.inr (.inr (42 + 9 * r))), some (.inr (.inr o)), none, none] [] (s, n, mi, ml, mr) = some (none, (s, n, up2 (up2 (up2 mi 41 36 (zi (k + 1))) 41 35 (zi (sp + 1))) 41 39 (zi (q + 1)), up2 ml (49 + 9 * r) (2 + d) (zl (c + 1)), mr))) ∧
    (c < e → k = 20000 → G 113 0 [some (.inr (.inr 41)), some (.inr (.inr (42 + 9 * r))), some (.inr (.inr o)), none, none] [] (s, n, mi, ml, mr) = some (none, (s, n, up2 mi 41 37 (bz true), ml, mr))) ∧
    (¬ c < e → G 113 0 [some (.inr (.inr 41)), some (.inr (.inr (42 + 9 * r))), some (.inr (.inr o)), none, none] [] (s, n, mi, ml, mr) = some (none, (s, n, up2 mi 41 39 (zi (E + 1)), up2 ml (49 + 9 * r) (2 + d) 0, mr))) := by
  have hb7 : Nat.beq (s (42 + 9 * r)).1 7 = true := by rw [kc42 hC hr]; rfl
  have hb8 : Nat.beq (s 41).1 8 = true := by rw [kc41 hC]; rfl
  have e114 := c114 hG hC (n := n) hr ho h3 hd h49 h50 (by omega) he
  refine ⟨fun hlt hk1 => ?_, fun hlt hk1 => ?_, fun hlt => ?_⟩
  · rw [if_pos hlt] at e114
    refine (b113_0 hG ..).trans ?_
    rw [hb7, cnd_t, e114, bind_s, as_J, bind_s, cmp_ne0, decide_eq_true (by show zl (c + 1) ≠ zl 0; rw [ne_eq, zl_eq (by omega) (by omega)]; omega : zl (c + 1) ≠ 0), cnd_t, hb8, cnd_t, c116_t hG hC h36 h35 hk1, bind_s, as_I, bind_s, show decide (bz true = 0) = false from rfl, cnd_f, hb7, cnd_t, c115 hG hC hr ho (by rw [up2_n _ _ (by omega), up2_n _ _ (by omega)]; exact h3) hd, bind_s, as_V, bind_s, rgI ho hF3_2, bind_s, up2_n _ _ (by omega), up2_n _ _ (by omega), h2, show zi q + 1 = zi (q + 1) from zi_add q 1, pc39 hC, bind_s]
    exact b113_54 hG ..
  · rw [if_pos hlt] at e114
    rw [hk1] at h36
    refine (b113_0 hG ..).trans ?_
    rw [hb7, cnd_t, e114, bind_s, as_J, bind_s, cmp_ne0, decide_eq_true (by show zl (c + 1) ≠ zl 0; rw [ne_eq, zl_eq (by omega) (by omega)]; omega : zl (c + 1) ≠ 0), cnd_t, hb8, cnd_t, c116_f hG hC h36, bind_s, as_I, bind_s, show decide (bz false = 0) = true from rfl, cnd_t]
    exact b113_54 hG ..
  · rw [if_neg hlt] at e114
    refine (b113_0 hG ..).trans ?_
    rw [hb7, cnd_t, e114, bind_s, as_J, bind_s, cmp_ne0, decide_eq_false (by decide : ¬ (0 : Int64) ≠ 0), cnd_f, hb7, cnd_t, c115 hG hC hr ho h3 hd, bind_s, as_V, bind_s, rgI ho hF3_11, bind_s, h11, show zi E + 1 = zi (E + 1) from zi_add E 1, pc39 hC, bind_s]
    exact b113_54 hG ..
theorem c119 {G : AG} (hG : FIX G) {s : Nat → Nat × Nat} {mr : Nat → Nat → Nat} (hC : CS s mr) {n : Nat × Nat} {mi : Nat → Nat → Int32} {ml : Nat → Nat → Int64} {w : Nat} (hw : w ≤ 4) (h34 : mi 41 34 = zi w) : G 119 0 [some (.inr (.inr 41))] [] (s, n, mi, ml, mr) = some (some (.inl (bz (decide (3 ≤ w)))), (s, n, mi, ml, mr)) := by
  refine (b119_0 hG ..).trans ?_
  have h5 : w = 0 ∨ w = 1 ∨ w = 2 ∨ w = 3 ∨ w = 4 := by omega
  rw [gc34 hC, bind_s, h34]
  rcases h5 with rfl | rfl | rfl | rfl | rfl
  · exact b119_21 hG ..
  · exact b119_21 hG ..
  · exact b119_21 hG ..
  · exact (b119_16 hG ..).trans (b119_21 hG ..)
  · exact (b119_16 hG ..).trans (b119_21 hG ..)
theorem c120 {G : AG} (hG : FIX G) {s : Nat → Nat × Nat} {mr : Nat → Nat → Nat} (hC : CS s mr) {n : Nat × Nat} {mi : Nat → Nat → Int32} {ml : Nat → Nat → Int64} {z : Int32} (h33 : mi 41 33 = z) : G 120 0 [some (.inr (.inr 41))] [] (s, n, mi, ml, mr) = some (some (.inl (bz (lot2 (lotN z)))), (s, n, up2 mi 41 33 (lotN z), ml, mr)) := by
  have hb : ∀ x : Int32, decide (((x >>> (16 &&& 31)) &&& 1) = 0) = !decide (((x >>> (16 &&& 31)) &&& 1) = 1) := by
    intro x
    obtain ⟨y, hy⟩ : ∃ y, y = x >>> (16 &&& 31) := ⟨_, rfl⟩
    rw [← hy]
    have h2 : y &&& 1 = 0 ∨ y &&& 1 = 1 := by
      have hb1 : (y &&& 1).toBitVec = y.toBitVec &&& 1#32 := rfl
      have hb2 : y.toBitVec &&& 1#32 = 0#32 ∨ y.toBitVec &&& 1#32 = 1#32 := by
        have h1 : (y.toBitVec &&& 1#32).toNat = y.toBitVec.toNat % 2 := by rw [BitVec.toNat_and]; exact Nat.and_one_is_mod _
        have h3 : y.toBitVec.toNat % 2 = 0 ∨ y.toBitVec.toNat % 2 = 1 := by omega
        rcases h3 with h | h
        · left; apply BitVec.eq_of_toNat_eq; rw [h1, h]; rfl
        · right; apply BitVec.eq_of_toNat_eq; rw [h1, h]; rfl
      rcases hb2 with h | h
      · left; apply Int32.toBitVec_inj.mp; rw [hb1, h]; rfl
      · right; apply Int32.toBitVec_inj.mp; rw [hb1, h]; rfl
    rcases h2 with h | h <;> rw [h] <;> rfl
  refine (b120_0 hG ..).trans ?_
  rw [gc33 hC, bind_s, h33, pc33 hC, bind_s, gc33 hC, bind_s, up2_s, up1_s]
  show (bif decide ((((lotN z) >>> (16 &&& 31)) &&& 1) = 0) then _ else _) = _
  rw [hb]
  unfold lot2
  cases decide ((((lotN z) >>> (16 &&& 31)) &&& 1) = 1)
  · exact b120_32 hG ..
  · exact b120_32 hG ..
theorem c109 {G : AG} (hG : FIX G) {s : Nat → Nat × Nat} {mr : Nat → Nat → Nat} (hC : CS s mr) {n : Nat × Nat} {mi : Nat → Nat → Int32} {ml : Nat → Nat → Int64} {r fr : Nat} {a b : Int64} {pl : Int32} (hr : r < 8) : ∃ ml', G 109 0 [some (.inr (.inr (42 + 9 * r))), some (.inr (.inl a)), none, some (.inr (.inl b)), none, some (.inr (.inr fr)), some (.inl pl)] [] (s, n, mi, ml, mr) = some (none, (s, n, up2 mi (42 + 9 * r) 32 pl, ml', up2 mr (42 + 9 * r) 31 fr)) ∧ ml' (49 + 9 * r) 0 = a ∧ ml' (49 + 9 * r) 1 = b ∧ (∀ j, j < 3 → ml' (49 + 9 * r) (2 + j) = 0) ∧ OF (49 + 9 * r) ml ml' := by
  obtain ⟨m1, e1, z1, z2⟩ := c73 hG hC (n := n) (mi := mi) (x := 0) (ml := ml) (cs49 hC r hr) (by omega) (by decide)
  refine ⟨up2 (up2 m1 (49 + 9 * r) 0 a) (49 + 9 * r) 1 b, ?_, by rw [up2_s, up1_n _ _ (by decide), up2_s, up1_s], by rw [up2_s, up1_s], fun j hj => by rw [up2_s, up1_n _ _ (by omega), up2_s, up1_n _ _ (by omega)]; exact z1 _ (by omega), OF_trans z2 (OF_trans OF_up OF_up)⟩
  have hC' : CS s (up2 mr (42 + 9 * r) 31 fr) := CS_ext hC (fun _ _ => rfl) (fun x f h => by
    rw [up2_ap]
    split
    · rename_i hx
      rw [if_neg, hx]
      rintro rfl
      rcases h with h | ⟨r', hr', h, h2⟩ | ⟨r', hr', h⟩ <;> omega
    · rfl)
  refine (b109_0 hG ..).trans ?_
  rw [gc29 hC hr, bind_s, e1, bind_s, as_V, bind_s, gc29 hC hr, bind_s, show (0 : Int32) = zi 0 from rfl, wc49 hC hr (by decide), bind_s, gc29 hC hr, bind_s, show (1 : Int32) = zi 1 from rfl, wc49 hC hr (by decide), bind_s, pc31 hC hr, bind_s, pc32 hC' hr, bind_s]