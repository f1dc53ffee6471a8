/-! the class: a call's formula; a formula kept -/
theorem zi_div {a b : Nat} (ha : a < 2147483648) (hb0 : 0 < b) (hb : b < 2147483648) : zi a / zi b = zi (a / b) := by
  have h1 : a / b < 2147483648 := Nat.lt_of_le_of_lt (Nat.div_le_self a b) ha
  rw [← Int32.toInt_inj, Int32.toInt_div, zi_ti ha, zi_ti hb, zi_ti h1]
  rw [← Int.ofNat_tdiv]
  obtain ⟨q, hq⟩ : ∃ q, q = a / b := ⟨_, rfl⟩
  rw [← hq] at h1 ⊢
  clear hq
  exact Int.bmod_eq_of_le (by omega) (by omega)
theorem zi_mod {a b : Nat} (ha : a < 2147483648) (hb0 : 0 < b) (hb : b < 2147483648) : zi a - zi a / zi b * zi b = zi (a % b) := by
  have h2 : a / b * b ≤ a := Nat.div_mul_le_self a b
  rw [zi_div ha hb0 hb, zi_mul, zi_sub h2]
  congr 1
  have := Nat.div_add_mod a b
  rw [Nat.mul_comm] at this
  omega
theorem if6 {α : Type} (a b : α) : (if (6 : Int32) = 0 then a else b) = b := if_neg (by decide)
theorem c76 {G : AG} (hG : FIX G) {s : Nat → Nat × Nat} {mr : Nat → Nat → Nat} (hC : CS s mr) {n : Nat × Nat} {mi : Nat → Nat → Int32} {a : Nat} {W : Po} {ml : Nat → Nat → Int64} (ha : s a = (21, 36)) (hF : CF a W ml) (hv : vlt 2 W) : ∃ w, w ≤ 5 ∧ G 76 0 [some (.inr (.inr a)), none, none] [] (s, n, mi, ml, mr) = some (some (.inl (zi w)), (s, n, mi, ml, mr)) ∧ dle w W := by
  have L : ∀ (f i m : Nat), i + f = 36 → m ≤ 5 → (∀ j, j < i → F36 W j ≠ 0 → j / 6 + j % 6 ≤ m) → ∃ w, w ≤ 5 ∧ G 76 4 [some (.inr (.inr a)), some (.inl (zi m)), some (.inl (zi i))] [] (s, n, mi, ml, mr) = some (some (.inl (zi w)), (s, n, mi, ml, mr)) ∧ (∀ j, j < 36 → F36 W j ≠ 0 → j / 6 + j % 6 ≤ w) := by
    intro f
    induction f with
    | zero =>
      intro i m hi hm h
      have e : i = 36 := by omega
      subst e
      refine ⟨m, hm, ?_, h⟩
      refine (b76_4 hG ..).trans ?_
      rw [show decide ((36 : Int32) ≤ zi 36) = true from by decide, cnd_t, if_neg (by show ¬ zi 5 < zi m; rw [zi_lt (by omega) (by omega)]; omega)]
    | succ f ih =>
      intro i m hi hm h
      have hi' : i < 36 := by omega
      have c0 : decide ((36 : Int32) ≤ zi i) = false := decide_eq_false (by show ¬ zi 36 ≤ zi i; rw [zi_le (by omega) (by omega)]; omega)
      by_cases hz : F36 W i = 0
      · obtain ⟨w, h1, h2, h3⟩ := ih (i + 1) m (by omega) hm (fun j hj hn => by
          by_cases e : j = i
          · rw [e] at hn; exact absurd hz hn
          · exact h j (by omega) hn)
        refine ⟨w, h1, Eq.trans ?_ h2, h3⟩
        refine (b76_4 hG ..).trans ?_
        rw [c0, cnd_f, raJ ha hi' (by decide), bind_s, hF i hi', cmp_eq0, decide_eq_true hz, cnd_t]
        refine (b76_32 hG ..).trans ?_
        rw [show zi i + 1 = zi (i + 1) from zi_add i 1]
      · have hle : i / 6 + i % 6 ≤ 5 := by
          unfold F36 at hz
          by_cases h5 : i / 6 + i % 6 ≤ 5
          · exact h5
          · rw [if_neg h5] at hz; exact absurd rfl hz
        obtain ⟨w, h1, h2, h3⟩ := ih (i + 1) (if m < i / 6 + i % 6 then i / 6 + i % 6 else m) (by omega) (by split <;> omega) (fun j hj hn => by
          by_cases e : j = i
          · rw [e]; split <;> omega
          · have := h j (by omega) hn
            split <;> omega)
        refine ⟨w, h1, Eq.trans ?_ h2, h3⟩
        refine (b76_4 hG ..).trans ?_
        rw [c0, cnd_f, raJ ha hi' (by decide), bind_s, hF i hi', cmp_eq0, decide_eq_false hz, cnd_f, if6, if6, bind_s, bind_s, show (6 : Int32) = zi 6 from rfl, zi_mod (by omega) (by decide) (by decide), zi_div (by omega) (by decide) (by decide), zi_add]
        refine (b76_32 hG ..).trans ?_
        rw [show zi i + 1 = zi (i + 1) from zi_add i 1]
        have em : (if zi m < zi (i / 6 + i % 6) then zi (i / 6 + i % 6) else zi m) = zi (if m < i / 6 + i % 6 then i / 6 + i % 6 else m) := by
          by_cases hl : m < i / 6 + i % 6
          · rw [if_pos hl, if_pos (by rw [zi_lt (by omega) (by omega)]; exact hl)]
          · rw [if_neg hl, if_neg (by rw [zi_lt (by omega) (by omega)]; exact hl)]
        rw [em]
  obtain ⟨w, h1, h2, h3⟩ := L 36 0 0 (by omega) (by decide) (fun j hj => by omega)
  refine ⟨w, h1, (b76_0 hG ..).trans h2, fun c hc hd => ?_⟩
  by_cases h36 : 36 ≤ c
  · exact hv c hc h36
  · have hab : c % 6 + c / 6 ≤ 5 := by
      have h4 : degc c = c % 6 + c / 6 := by
        show c % 6 + c / 6 % 6 + c / 36 % 6 + c / 216 % 6 + c / 1296 % 6 = _
        omega
      have := hc.2
      omega
    have hdc : degc c = c % 6 + c / 6 := by
      show c % 6 + c / 6 % 6 + c / 36 % 6 + c / 216 % 6 + c / 1296 % 6 = _
      omega
    have hat := F36_at (W := W) (a := c % 6) (b := c / 6) (by omega)
    rw [if_pos hab, Nat.mod_add_div] at hat
    by_cases hn : W c = 0
    · exact hn
    · have := h3 (c % 6 * 6 + c / 6) (by omega) (by rw [hat]; exact hn)
      omega
theorem c81 {G : AG} (hG : FIX G) {s : Nat → Nat × Nat} {mr : Nat → Nat → Nat} (hC : CS s mr) {n : Nat × Nat} {mi : Nat → Nat → Int32} (hT : CTab mi) {o N f a w d : Nat} {t : Nat → Nat} {W : Po} {ml : Nat → Nat → Int64} (ho : s o = (1, 7)) (h3 : mi o 3 = zi d) (hd : d ≤ 3) (hE : EX s mi N (mr o 5) t) (htb : ∀ q, t q ≤ 2) (hf : s f = (21, 36)) (hf40 : f ≠ 40) (ha : a ≤ w) (hw : w ≤ 5) (hF : CF f W ml) :
    ∃ ml', G 81 0 [some (.inr (.inr 10)), some (.inr (.inr f)), some (.inl (zi a)), some (.inl (zi (w - a))), some (.inr (.inr o)), none] [] (s, n, mi, ml, mr) = some (none, (s, n, mi, ml', mr)) ∧ CPo 40 (prA W (fun q => zl (t q)) d w a) ml' ∧ OF 40 ml ml' := by
  obtain ⟨m, hm⟩ : ∃ m, m = w - a := ⟨_, rfl⟩
  have hb5 : Nat.beq (s 11).1 5 = true := by rw [kc11 hC]; rfl
  have hdF : ∀ b, b ≤ m → dle (m - b) ((fun b c => W (a + 6 * b) * del 0 c) b) := fun b _ => dle_sdel _
  have L : ∀ (K : Nat) (ml : Nat → Nat → Int64), K ≤ m + 1 → CF f W ml → CPo 40 (hos (fun q => zl (t q)) d m (fun b c => W (a + 6 * b) * del 0 c) K) ml → ∃ ml', G 81 11 [some (.inr (.inr 10)), some (.inr (.inr f)), some (.inl (zi a)), some (.inl (zi m)), some (.inr (.inr o)), some (.inl (zi K + (-1)))] [] (s, n, mi, ml, mr) = some (none, (s, n, mi, ml', mr)) ∧ CPo 40 (hos (fun q => zl (t q)) d m (fun b c => W (a + 6 * b) * del 0 c) 0) ml' ∧ OF 40 ml ml' := by
    intro K
    induction K with
    | zero =>
      intro ml _ _ h
      refine ⟨ml, ?_, h, OF_refl _ _⟩
      refine (b81_11 hG ..).trans ?_
      rw [lt0_m1, cnd_t]
    | succ b ih =>
      intro ml hK hF h
      obtain ⟨NN, hNN, hN2, hz⟩ : ∃ NN, NN ≤ 252 ∧ G 79 0 [some (.inl (zi m - zi b - 1))] [] (s, n, mi, ml, mr) = some (some (.inl (zi NN)), (s, n, mi, ml, mr)) ∧ ∀ p, p < 252 → NN ≤ p → hos (fun q => zl (t q)) d m (fun b c => W (a + 6 * b) * del 0 c) (b + 1) (pq p) = 0 := by
        by_cases hbm : b = m
        · subst hbm
          refine ⟨0, by decide, ?_, fun p _ _ => hos_end _⟩
          rw [zi_sub (Nat.le_refl b), Nat.sub_self]
          exact c79n hG hC
        · have hu := upn_le (m - (b + 1)) (by omega)
          refine ⟨upn (m - (b + 1)), hu.2, ?_, fun p hp h2 => upn_dle (hos_dle hd hdF (m - (b + 1)) (b + 1) (by omega)) (by omega) hp h2⟩
          rw [zi_sub (by omega), show zi (m - b) - 1 = zi (m - (b + 1)) from by rw [show (1 : Int32) = zi 1 from rfl, zi_sub (by omega)]; rfl]
          exact c79 hG hC hT (by omega)
      obtain ⟨m1, e1, z1, z2⟩ := c80 hG hC hT (n := n) (cs40 hC) (by decide) hE.2.2.1 hE.2.2.2 htb hd hNN hz h
      have hF1 : CF f W m1 := fun i hi => by rw [z2 f hf40]; exact hF i hi
      have hab : a * 6 + b < 36 := by omega
      have hfv : m1 f (a * 6 + b) = W (a + 6 * b) := by rw [hF1 _ hab, F36_at (by omega), if_pos (by omega)]
      obtain ⟨ml', e', r1, r2⟩ := ih (up2 m1 40 0 (m1 40 0 + W (a + 6 * b))) (by omega) (fun i hi => by rw [up2_n _ _ hf40]; exact hF1 i hi) (fun p hp => by
        rw [hos_S (by omega), up2_s]
        show _ = _ + W (a + 6 * b) * (if pq p = 0 then 1 else 0)
        by_cases e : p = 0
        · subst e
          rw [up1_s, z1 0 hp, show pq 0 = 0 from rfl, if_pos rfl, Int64.mul_one]
        · rw [up1_n _ _ e, z1 p hp, if_neg (fun hc : pq p = 0 => e (pq_inj hp (by decide : (0 : Nat) < 252) hc)), Int64.mul_zero, Int64.add_zero])
      refine ⟨ml', Eq.trans ?_ e', r1, OF_trans (OF_trans z2 OF_up) r2⟩
      rw [zi_dec]
      refine (b81_11 hG ..).trans ?_
      have c0 : decide (zi b < 0) = false := decide_eq_false (Int32.not_lt.mpr (zi_ge0 (by omega)))
      rw [c0, cnd_f, gc14 hC, bind_s, gc18 hC, bind_s, hN2, bind_s, as_I, bind_s, rgR ho hF1_5, bind_s, rgI ho hF1_3, bind_s, h3, hb5, cnd_t, e1, bind_s, as_V, bind_s, gc18 hC, bind_s, show (0 : Int32) = zi 0 from rfl, ac40 hC (by decide), bind_s, show zi a * 6 + zi b = zi (a * 6 + b) from by rw [show (6 : Int32) = zi 6 from rfl, zi_mul, zi_add], raJ hf hab (by decide), bind_s, hfv, wc40 hC (by decide), bind_s]
  obtain ⟨m0, e0, y1, y2⟩ := c73 hG hC (n := n) (mi := mi) (x := 0) (ml := ml) (cs40 hC) (by decide) (by decide)
  obtain ⟨ml', e', r1, r2⟩ := L (m + 1) m0 (Nat.le_refl _) (fun i hi => by rw [y2 f hf40]; exact hF i hi) (fun p hp => by rw [y1 p hp, hos_end])
  refine ⟨ml', ?_, by unfold prA; rw [← hm]; exact r1, OF_trans y2 r2⟩
  rw [← hm]
  refine (b81_0 hG ..).trans ?_
  rw [gc18 hC, bind_s, e0, bind_s, as_V, bind_s]
  rw [zi_dec] at e'
  exact e'