/-! the law: its loop -/
def LWk (L B k : Nat) (H : Hp) : Prop := (H.1 1 = (30, L) ∧ 142 ≤ H.2.1.1 ∧ H.2.1.1 ≤ 142 + 3 * k ∧ H.2.1.2 ≤ B + 40 * k) ∧ ∃ (Q : Pg) (x : Nat → Nat) (t : Tr) (z : Int32), WP Q ∧ (∀ q, x q ≤ 2) ∧ CLw Q x t z H ∧ MDw Q x t z H
theorem LWk_next {L B k : Nat} {H : Hp} (h : LWk L B k H) : LWk L B (k + 1) H := ⟨⟨h.1.1, h.1.2.1, by have := h.1.2.2.1; omega, by have := h.1.2.2.2; omega⟩, h.2⟩
theorem hA1 {H : Hp} {L i : Nat} (h : H.1 1 = (30, L)) (hi : i < L) (hL : L ≤ 4096) : hAI H 1 (zi i) = some (H.2.2.1 1 i) := by
  obtain ⟨s, n, mi, ml, mr⟩ := H
  exact raC h hi (by omega)
theorem law_case {α : Type} {f : α → AV} {H : Hp} {cl : RT} {md : Hp → RT} {L B k : Nat} (h1 : H.1 1 = (30, L) ∧ 142 ≤ H.2.1.1 ∧ H.2.1.1 ≤ 142 + 3 * k ∧ H.2.1.2 ≤ B + 40 * k) (h12 : (H.1 114).1 = 12) (hs : STP f H cl md) : ∃ (v : α) (H1 H2 : Hp), cl = some (some (f v), H1) ∧ md H1 = some (some (f v), H2) ∧ H1.1 1 = (30, L) ∧ H1.2.2.1 1 = H.2.2.1 1 ∧ (H1.1 114).1 = 12 ∧ LWk L B (k + 1) H2 := by
  obtain ⟨v, H1, H2, Q', x', t', z', e1, fc, e2, fm, hW, hx, hC, hM⟩ := hs
  obtain ⟨c1, c2, c3, c4, c5, c6, c7⟩ := fc
  obtain ⟨m1, m2, m3, m4, m5⟩ := fm
  refine ⟨v, H1, H2, e1, e2, (c1 1 (by decide)).trans h1.1, c2, by rw [c1 114 (by decide)]; exact h12, ⟨by rw [m1, c1 1 (by decide)]; exact h1.1, by rw [m2]; omega, by rw [m2]; omega, by rw [m2]; omega⟩, Q', x', t', z', hW, hx, hC, hM⟩
theorem law_end {L k : Nat} (hL : L ≤ 4096) (hk : 8 * k ≤ 5000) (h : ¬ (zi L - 8 < zi (8 * k))) : 8 * k + 8 ≤ L := by
  by_cases h8 : 8 ≤ L
  · rw [show (8 : Int32) = zi 8 from rfl, zi_sub h8, zi_lt (by omega) (by omega)] at h
    omega
  · exfalso
    apply h
    have h0 : (0 : Int32) ≤ zi (8 * k) := zi_ge0 (by omega)
    have hl : L = 0 ∨ L = 1 ∨ L = 2 ∨ L = 3 ∨ L = 4 ∨ L = 5 ∨ L = 6 ∨ L = 7 := by omega
    have hn : zi L - 8 < 0 := by rcases hl with rfl | rfl | rfl | rfl | rfl | rfl | rfl | rfl <;> decide
    exact Int32.lt_of_lt_of_le hn h0
theorem lawL {G : AG} (hG : FIX G) {L B : Nat} (hL : L ≤ 4096) : ∀ (f k : Nat) (H : Hp), k + f = 513 → LWk L B k H → ∃ H', G 181 18 [some (.inr (.inr 1)), some (.inr (.inr 4)), some (.inr (.inr 114)), some (.inl (zi (8 * k)))] [] H = some (some (.inl 1), H') ∧ H'.2.1.1 ≤ 2000 ∧ H'.2.1.2 ≤ B + 21000 := by
  intro f
  induction f with
  | zero =>
    intro k H hf hl
    have hlen : hLen H 1 = some (zi L) := by unfold hLen; rw [hl.1.1]; rfl
    have hk : k = 513 := by omega
    have ht : zi L - 8 < zi (8 * k) := Classical.byContradiction fun h => by
      have := law_end hL (by omega) h
      omega
    have h3 := hl.1.2.2.1
    have h4 := hl.1.2.2.2
    refine ⟨H, ?_, by omega, by omega⟩
    refine (b181_18 hG ..).trans ?_
    rw [hlen, bind_s, decide_eq_true ht, cnd_t]
    rfl
  | succ f ih =>
    intro k H hf hl
    have hlen : hLen H 1 = some (zi L) := by unfold hLen; rw [hl.1.1]; rfl
    by_cases ht : zi L - 8 < zi (8 * k)
    · have h3 := hl.1.2.2.1
      have h4 := hl.1.2.2.2
      refine ⟨H, ?_, by omega, by omega⟩
      refine (b181_18 hG ..).trans ?_
      rw [hlen, bind_s, decide_eq_true ht, cnd_t]
      rfl
    have h8 := law_end hL (by omega) ht
    obtain ⟨hs1, Q, x, t, z, hW, hx, hC, hM⟩ := hl
    have hl0 : LWk L B k H := ⟨hs1, Q, x, t, z, hW, hx, hC, hM⟩
    have h12 : (H.1 114).1 = 12 := by rw [ms114 hM.1]
    have hb11 : Nat.beq (H.1 4).1 11 = true := by rw [cs4 hC.1]; rfl
    have rd : ∀ j, j < 8 → hAI H 1 (zi (8 * k + j)) = some (H.2.2.1 1 (8 * k + j)) := fun j hj => hA1 hs1.1 (by omega) hL
    have rd0 : hAI H 1 (zi (8 * k)) = some (H.2.2.1 1 (8 * k)) := rd 0 (by decide)
    have nx : ∀ H2, LWk L B (k + 1) H2 → ∃ H', G 181 901 [some (.inr (.inr 1)), some (.inr (.inr 4)), some (.inr (.inr 114)), some (.inl (zi (8 * k)))] [] H2 = some (some (.inl 1), H') ∧ H'.2.1.1 ≤ 2000 ∧ H'.2.1.2 ≤ B + 21000 := by
      intro H2 h2
      obtain ⟨H', e, b⟩ := ih (k + 1) H2 (by omega) h2
      refine ⟨H', ?_, b⟩
      rw [b181_901 hG, show zi (8 * k) + 8 = zi (8 * (k + 1)) from (zi_add _ 8).trans (by congr 1)]
      exact e
    rw [b181_18 hG, hlen, bind_s, decide_eq_false ht, cnd_f, rd0, bind_s, show zi (8 * k) + 1 = zi (8 * k + 1) from zi_add _ 1, show zi (8 * k) + 2 = zi (8 * k + 2) from zi_add _ 2, show zi (8 * k) + 3 = zi (8 * k + 3) from zi_add _ 3, show zi (8 * k) + 4 = zi (8 * k + 4) from zi_add _ 4, show zi (8 * k) + 5 = zi (8 * k + 5) from zi_add _ 5, show zi (8 * k) + 6 = zi (8 * k + 6) from zi_add _ 6, show zi (8 * k) + 7 = zi (8 * k + 7) from zi_add _ 7]
    by_cases hc0 : (H.2.2.1 1 (8 * k)) &&& 31 = Int32.ofInt 0
    · obtain ⟨v, H1, H2, e1, e2, g1, g2, g3, lw⟩ := law_case hs1 h12 (lw_rt hG (s := H.1) (n := H.2.1) (mi := H.2.2.1) (ml := H.2.2.2.1) (mr := H.2.2.2.2) hW hx hs1.2.1 hC hM )
      have rd' : ∀ j, j < 8 → hAI H1 1 (zi (8 * k + j)) = some (H.2.2.1 1 (8 * k + j)) := fun j hj => by rw [hA1 g1 (by omega) hL, g2]
      have hb12 : Nat.beq (H1.1 114).1 12 = true := by rw [g3]; rfl
      have e1' := e1
      have e2' := e2
      rw [decide_eq_true hc0, cnd_t, hb11, cnd_t, show H = (H.1, H.2.1, H.2.2.1, H.2.2.2.1, H.2.2.2.2) from rfl, e1', bind_s, as_I, bind_s, hb12, cnd_t, e2', bind_s, as_I, bind_s, decide_eq_true rfl, cnd_t]
      exact nx H2 lw
    rw [decide_eq_false hc0, cnd_f]
    by_cases hc1 : (H.2.2.1 1 (8 * k)) &&& 31 = Int32.ofInt (0 + 1)
    · obtain ⟨v, H1, H2, e1, e2, g1, g2, g3, lw⟩ := law_case hs1 h12 (lw_x hG (s := H.1) (n := H.2.1) (mi := H.2.2.1) (ml := H.2.2.2.1) (mr := H.2.2.2.2) hW hx hs1.2.1 hC hM (H.2.2.1 1 (8 * k + 1)) (H.2.2.1 1 (8 * k + 2)) (H.2.2.1 1 (8 * k + 3)) (H.2.2.1 1 (8 * k + 4)) (H.2.2.1 1 (8 * k + 5)) (H.2.2.1 1 (8 * k + 6)) (H.2.2.1 1 (8 * k + 7)))
      have rd' : ∀ j, j < 8 → hAI H1 1 (zi (8 * k + j)) = some (H.2.2.1 1 (8 * k + j)) := fun j hj => by rw [hA1 g1 (by omega) hL, g2]
      have hb12 : Nat.beq (H1.1 114).1 12 = true := by rw [g3]; rfl
      have e1' := e1
      have e2' := e2
      rw [decide_eq_true hc1, cnd_t, rd 1 (by decide), bind_s, rd 2 (by decide), bind_s, rd 3 (by decide), bind_s, rd 4 (by decide), bind_s, rd 5 (by decide), bind_s, rd 6 (by decide), bind_s, rd 7 (by decide), bind_s, hb11, cnd_t, show H = (H.1, H.2.1, H.2.2.1, H.2.2.2.1, H.2.2.2.2) from rfl, e1', bind_s, as_I, bind_s, rd' 1 (by decide), bind_s, rd' 2 (by decide), bind_s, rd' 3 (by decide), bind_s, rd' 4 (by decide), bind_s, rd' 5 (by decide), bind_s, rd' 6 (by decide), bind_s, rd' 7 (by decide), bind_s, hb12, cnd_t, e2', bind_s, as_I, bind_s, decide_eq_true rfl, cnd_t]
      exact nx H2 lw
    rw [decide_eq_false hc1, cnd_f]
    by_cases hc2 : (H.2.2.1 1 (8 * k)) &&& 31 = Int32.ofInt ((0 + 1) + 1)
    · obtain ⟨v, H1, H2, e1, e2, g1, g2, g3, lw⟩ := law_case hs1 h12 (lw_work hG (s := H.1) (n := H.2.1) (mi := H.2.2.1) (ml := H.2.2.2.1) (mr := H.2.2.2.2) hW hx hs1.2.1 hC hM (H.2.2.1 1 (8 * k + 1)) (H.2.2.1 1 (8 * k + 2)))
      have rd' : ∀ j, j < 8 → hAI H1 1 (zi (8 * k + j)) = some (H.2.2.1 1 (8 * k + j)) := fun j hj => by rw [hA1 g1 (by omega) hL, g2]
      have hb12 : Nat.beq (H1.1 114).1 12 = true := by rw [g3]; rfl
      have e1' := e1
      have e2' := e2
      rw [decide_eq_true hc2, cnd_t, rd 1 (by decide), bind_s, rd 2 (by decide), bind_s, hb11, cnd_t, show H = (H.1, H.2.1, H.2.2.1, H.2.2.2.1, H.2.2.2.2) from rfl, e1', bind_s, as_I, bind_s, rd' 1 (by decide), bind_s, rd' 2 (by decide), bind_s, hb12, cnd_t, e2', bind_s, as_I, bind_s, decide_eq_true rfl, cnd_t]
      exact nx H2 lw
    rw [decide_eq_false hc2, cnd_f]
    by_cases hc3 : (H.2.2.1 1 (8 * k)) &&& 31 = Int32.ofInt (((0 + 1) + 1) + 1)
    · obtain ⟨v, H1, H2, e1, e2, g1, g2, g3, lw⟩ := law_case hs1 h12 (lw_loop hG (s := H.1) (n := H.2.1) (mi := H.2.2.1) (ml := H.2.2.2.1) (mr := H.2.2.2.2) hW hx hs1.2.1 hC hM (H.2.2.1 1 (8 * k + 1)))
      have rd' : ∀ j, j < 8 → hAI H1 1 (zi (8 * k + j)) = some (H.2.2.1 1 (8 * k + j)) := fun j hj => by rw [hA1 g1 (by omega) hL, g2]
      have hb12 : Nat.beq (H1.1 114).1 12 = true := by rw [g3]; rfl
      have e1' := e1
      have e2' := e2
      rw [decide_eq_true hc3, cnd_t, rd 1 (by decide), bind_s, hb11, cnd_t, show H = (H.1, H.2.1, H.2.2.1, H.2.2.2.1, H.2.2.2.2) from rfl, e1', bind_s, as_I, bind_s, rd' 1 (by decide), bind_s, hb12, cnd_t, e2', bind_s, as_I, bind_s, decide_eq_true rfl, cnd_t]
      exact nx H2 lw
    rw [decide_eq_false hc3, cnd_f]
    by_cases hc4 : (H.2.2.1 1 (8 * k)) &&& 31 = Int32.ofInt ((((0 + 1) + 1) + 1) + 1)
    · obtain ⟨v, H1, H2, e1, e2, g1, g2, g3, lw⟩ := law_case hs1 h12 (lw_call hG (s := H.1) (n := H.2.1) (mi := H.2.2.1) (ml := H.2.2.2.1) (mr := H.2.2.2.2) hW hx hs1.2.1 hC hM (H.2.2.1 1 (8 * k + 1)) (H.2.2.1 1 (8 * k + 2)))
      have rd' : ∀ j, j < 8 → hAI H1 1 (zi (8 * k + j)) = some (H.2.2.1 1 (8 * k + j)) := fun j hj => by rw [hA1 g1 (by omega) hL, g2]
      have hb12 : Nat.beq (H1.1 114).1 12 = true := by rw [g3]; rfl
      have e1' := e1
      have e2' := e2
      rw [decide_eq_true hc4, cnd_t, rd 1 (by decide), bind_s, rd 2 (by decide), bind_s, hb11, cnd_t, show H = (H.1, H.2.1, H.2.2.1, H.2.2.2.1, H.2.2.2.2) from rfl, e1', bind_s, as_I, bind_s, rd' 1 (by decide), bind_s, rd' 2 (by decide), bind_s, hb12, cnd_t, e2', bind_s, as_I, bind_s, decide_eq_true rfl, cnd_t]
      exact nx H2 lw
    rw [decide_eq_false hc4, cnd_f]
    by_cases hc5 : (H.2.2.1 1 (8 * k)) &&& 31 = Int32.ofInt (((((0 + 1) + 1) + 1) + 1) + 1)
    · obtain ⟨v, H1, H2, e1, e2, g1, g2, g3, lw⟩ := law_case hs1 h12 (lw_eith hG (s := H.1) (n := H.2.1) (mi := H.2.2.1) (ml := H.2.2.2.1) (mr := H.2.2.2.2) hW hx hs1.2.1 hC hM (H.2.2.1 1 (8 * k + 1)))
      have rd' : ∀ j, j < 8 → hAI H1 1 (zi (8 * k + j)) = some (H.2.2.1 1 (8 * k + j)) := fun j hj => by rw [hA1 g1 (by omega) hL, g2]
      have hb12 : Nat.beq (H1.1 114).1 12 = true := by rw [g3]; rfl
      have e1' := e1
      have e2' := e2
      rw [decide_eq_true hc5, cnd_t, rd 1 (by decide), bind_s, hb11, cnd_t, show H = (H.1, H.2.1, H.2.2.1, H.2.2.2.1, H.2.2.2.2) from rfl, e1', bind_s, as_I, bind_s, rd' 1 (by decide), bind_s, hb12, cnd_t, e2', bind_s, as_I, bind_s, decide_eq_true rfl, cnd_t]
      exact nx H2 lw
    rw [decide_eq_false hc5, cnd_f]
    by_cases hc6 : (H.2.2.1 1 (8 * k)) &&& 31 = Int32.ofInt ((((((0 + 1) + 1) + 1) + 1) + 1) + 1)
    · obtain ⟨v, H1, H2, e1, e2, g1, g2, g3, lw⟩ := law_case hs1 h12 (lw_close hG (s := H.1) (n := H.2.1) (mi := H.2.2.1) (ml := H.2.2.2.1) (mr := H.2.2.2.2) hW hx hs1.2.1 hC hM (H.2.2.1 1 (8 * k + 1)) (H.2.2.1 1 (8 * k + 2)))
      have rd' : ∀ j, j < 8 → hAI H1 1 (zi (8 * k + j)) = some (H.2.2.1 1 (8 * k + j)) := fun j hj => by rw [hA1 g1 (by omega) hL, g2]
      have hb12 : Nat.beq (H1.1 114).1 12 = true := by rw [g3]; rfl
      have e1' := e1
      have e2' := e2
      rw [decide_eq_true hc6, cnd_t, rd 1 (by decide), bind_s, rd 2 (by decide), bind_s, hb11, cnd_t, show H = (H.1, H.2.1, H.2.2.1, H.2.2.2.1, H.2.2.2.2) from rfl, e1', bind_s, as_I, bind_s, rd' 1 (by decide), bind_s, rd' 2 (by decide), bind_s, hb12, cnd_t, e2', bind_s, as_I, bind_s, decide_eq_true rfl, cnd_t]
      exact nx H2 lw
    rw [decide_eq_false hc6, cnd_f]
    by_cases hc7 : (H.2.2.1 1 (8 * k)) &&& 31 = Int32.ofInt (((((((0 + 1) + 1) + 1) + 1) + 1) + 1) + 1)
    · obtain ⟨v, H1, H2, e1, e2, g1, g2, g3, lw⟩ := law_case hs1 h12 (lw_back hG (s := H.1) (n := H.2.1) (mi := H.2.2.1) (ml := H.2.2.2.1) (mr := H.2.2.2.2) hW hx hs1.2.1 hC hM (H.2.2.1 1 (8 * k + 1)))
      have rd' : ∀ j, j < 8 → hAI H1 1 (zi (8 * k + j)) = some (H.2.2.1 1 (8 * k + j)) := fun j hj => by rw [hA1 g1 (by omega) hL, g2]
      have hb12 : Nat.beq (H1.1 114).1 12 = true := by rw [g3]; rfl
      have e1' := e1
      have e2' := e2
      rw [decide_eq_true hc7, cnd_t, rd 1 (by decide), bind_s, hb11, cnd_t, show H = (H.1, H.2.1, H.2.2.1, H.2.2.2.1, H.2.2.2.2) from rfl, e1', bind_s, as_I, bind_s, rd' 1 (by decide), bind_s, hb12, cnd_t, e2', bind_s, as_I, bind_s, decide_eq_true rfl, cnd_t]
      exact nx H2 lw
    rw [decide_eq_false hc7, cnd_f]
    by_cases hc8 : (H.2.2.1 1 (8 * k)) &&& 31 = Int32.ofInt ((((((((0 + 1) + 1) + 1) + 1) + 1) + 1) + 1) + 1)
    · obtain ⟨v, H1, H2, e1, e2, g1, g2, g3, lw⟩ := law_case hs1 h12 (lw_kind hG (s := H.1) (n := H.2.1) (mi := H.2.2.1) (ml := H.2.2.2.1) (mr := H.2.2.2.2) hW hx hs1.2.1 hC hM (H.2.2.1 1 (8 * k + 1)) (H.2.2.1 1 (8 * k + 2)))
      have rd' : ∀ j, j < 8 → hAI H1 1 (zi (8 * k + j)) = some (H.2.2.1 1 (8 * k + j)) := fun j hj => by rw [hA1 g1 (by omega) hL, g2]
      have hb12 : Nat.beq (H1.1 114).1 12 = true := by rw [g3]; rfl
      have e1' := e1
      have e2' := e2
      rw [decide_eq_true hc8, cnd_t, rd 1 (by decide), bind_s, rd 2 (by decide), bind_s, hb11, cnd_t, show H = (H.1, H.2.1, H.2.2.1, H.2.2.2.1, H.2.2.2.2) from rfl, e1', bind_s, as_I, bind_s, rd' 1 (by decide), bind_s, rd' 2 (by decide), bind_s, hb12, cnd_t, e2', bind_s, as_I, bind_s, decide_eq_true rfl, cnd_t]
      exact nx H2 lw
    rw [decide_eq_false hc8, cnd_f]
    by_cases hc9 : (H.2.2.1 1 (8 * k)) &&& 31 = Int32.ofInt (((((((((0 + 1) + 1) + 1) + 1) + 1) + 1) + 1) + 1) + 1)
    · obtain ⟨v, H1, H2, e1, e2, g1, g2, g3, lw⟩ := law_case hs1 h12 (lw_is hG (s := H.1) (n := H.2.1) (mi := H.2.2.1) (ml := H.2.2.2.1) (mr := H.2.2.2.2) hW hx hs1.2.1 hC hM (H.2.2.1 1 (8 * k + 1)) (H.2.2.1 1 (8 * k + 2)) (H.2.2.1 1 (8 * k + 3)))
      have rd' : ∀ j, j < 8 → hAI H1 1 (zi (8 * k + j)) = some (H.2.2.1 1 (8 * k + j)) := fun j hj => by rw [hA1 g1 (by omega) hL, g2]
      have hb12 : Nat.beq (H1.1 114).1 12 = true := by rw [g3]; rfl
      have e1' := e1
      have e2' := e2
      rw [decide_eq_true hc9, cnd_t, rd 1 (by decide), bind_s, rd 2 (by decide), bind_s, rd 3 (by decide), bind_s, hb11, cnd_t, show H = (H.1, H.2.1, H.2.2.1, H.2.2.2.1, H.2.2.2.2) from rfl, e1', bind_s, as_I, bind_s, rd' 1 (by decide), bind_s, rd' 2 (by decide), bind_s, rd' 3 (by decide), bind_s, hb12, cnd_t, e2', bind_s, as_I, bind_s, decide_eq_true rfl, cnd_t]
      exact nx H2 lw
    rw [decide_eq_false hc9, cnd_f]
    by_cases hc10 : (H.2.2.1 1 (8 * k)) &&& 31 = Int32.ofInt ((((((((((0 + 1) + 1) + 1) + 1) + 1) + 1) + 1) + 1) + 1) + 1)
    · obtain ⟨v, H1, H2, e1, e2, g1, g2, g3, lw⟩ := law_case hs1 h12 (lw_told hG (s := H.1) (n := H.2.1) (mi := H.2.2.1) (ml := H.2.2.2.1) (mr := H.2.2.2.2) hW hx hs1.2.1 hC hM (H.2.2.1 1 (8 * k + 1)) (H.2.2.1 1 (8 * k + 2)) (H.2.2.1 1 (8 * k + 3)))
      have rd' : ∀ j, j < 8 → hAI H1 1 (zi (8 * k + j)) = some (H.2.2.1 1 (8 * k + j)) := fun j hj => by rw [hA1 g1 (by omega) hL, g2]
      have hb12 : Nat.beq (H1.1 114).1 12 = true := by rw [g3]; rfl
      have e1' := e1
      have e2' := e2
      rw [decide_eq_true hc10, cnd_t, rd 1 (by decide), bind_s, rd 2 (by decide), bind_s, rd 3 (by decide), bind_s, hb11, cnd_t, show H = (H.1, H.2.1, H.2.2.1, H.2.2.2.1, H.2.2.2.2) from rfl, e1', bind_s, as_I, bind_s, rd' 1 (by decide), bind_s, rd' 2 (by decide), bind_s, rd' 3 (by decide), bind_s, hb12, cnd_t, e2', bind_s, as_I, bind_s, decide_eq_true rfl, cnd_t]
      exact nx H2 lw
    rw [decide_eq_false hc10, cnd_f]
    by_cases hc11 : (H.2.2.1 1 (8 * k)) &&& 31 = Int32.ofInt (((((((((((0 + 1) + 1) + 1) + 1) + 1) + 1) + 1) + 1) + 1) + 1) + 1)
    · obtain ⟨v, H1, H2, e1, e2, g1, g2, g3, lw⟩ := law_case hs1 h12 (lw_ask hG (s := H.1) (n := H.2.1) (mi := H.2.2.1) (ml := H.2.2.2.1) (mr := H.2.2.2.2) hW hx hs1.2.1 hC hM (H.2.2.1 1 (8 * k + 1)) (H.2.2.1 1 (8 * k + 2)) (H.2.2.1 1 (8 * k + 3)))
      have rd' : ∀ j, j < 8 → hAI H1 1 (zi (8 * k + j)) = some (H.2.2.1 1 (8 * k + j)) := fun j hj => by rw [hA1 g1 (by omega) hL, g2]
      have hb12 : Nat.beq (H1.1 114).1 12 = true := by rw [g3]; rfl
      have e1' := e1
      have e2' := e2
      rw [decide_eq_true hc11, cnd_t, rd 1 (by decide), bind_s, rd 2 (by decide), bind_s, rd 3 (by decide), bind_s, hb11, cnd_t, show H = (H.1, H.2.1, H.2.2.1, H.2.2.2.1, H.2.2.2.2) from rfl, e1', bind_s, as_I, bind_s, rd' 1 (by decide), bind_s, rd' 2 (by decide), bind_s, rd' 3 (by decide), bind_s, hb12, cnd_t, e2', bind_s, as_I, bind_s, decide_eq_true rfl, cnd_t]
      exact nx H2 lw
    rw [decide_eq_false hc11, cnd_f]
    by_cases hc12 : (H.2.2.1 1 (8 * k)) &&& 31 = Int32.ofInt ((((((((((((0 + 1) + 1) + 1) + 1) + 1) + 1) + 1) + 1) + 1) + 1) + 1) + 1)
    · obtain ⟨v, H1, H2, e1, e2, g1, g2, g3, lw⟩ := law_case hs1 h12 (lw_trace hG (s := H.1) (n := H.2.1) (mi := H.2.2.1) (ml := H.2.2.2.1) (mr := H.2.2.2.2) hW hx hs1.2.1 hC hM (H.2.2.1 1 (8 * k + 1)))
      have rd' : ∀ j, j < 8 → hAI H1 1 (zi (8 * k + j)) = some (H.2.2.1 1 (8 * k + j)) := fun j hj => by rw [hA1 g1 (by omega) hL, g2]
      have hb12 : Nat.beq (H1.1 114).1 12 = true := by rw [g3]; rfl
      have e1' := e1
      have e2' := e2
      rw [decide_eq_true hc12, cnd_t, rd 1 (by decide), bind_s, hb11, cnd_t, show H = (H.1, H.2.1, H.2.2.1, H.2.2.2.1, H.2.2.2.2) from rfl, e1', bind_s, as_I, bind_s, rd' 1 (by decide), bind_s, hb12, cnd_t, e2', bind_s, as_I, bind_s, decide_eq_true rfl, cnd_t]
      exact nx H2 lw
    rw [decide_eq_false hc12, cnd_f]
    by_cases hc13 : (H.2.2.1 1 (8 * k)) &&& 31 = Int32.ofInt (((((((((((((0 + 1) + 1) + 1) + 1) + 1) + 1) + 1) + 1) + 1) + 1) + 1) + 1) + 1)
    · obtain ⟨v, H1, H2, e1, e2, g1, g2, g3, lw⟩ := law_case hs1 h12 (lw_terms hG (s := H.1) (n := H.2.1) (mi := H.2.2.1) (ml := H.2.2.2.1) (mr := H.2.2.2.2) hW hx hs1.2.1 hC hM (H.2.2.1 1 (8 * k + 1)) (H.2.2.1 1 (8 * k + 2)))
      have rd' : ∀ j, j < 8 → hAI H1 1 (zi (8 * k + j)) = some (H.2.2.1 1 (8 * k + j)) := fun j hj => by rw [hA1 g1 (by omega) hL, g2]
      have hb12 : Nat.beq (H1.1 114).1 12 = true := by rw [g3]; rfl
      have e1' := e1
      have e2' := e2
      rw [decide_eq_true hc13, cnd_t, rd 1 (by decide), bind_s, rd 2 (by decide), bind_s, hb11, cnd_t, show H = (H.1, H.2.1, H.2.2.1, H.2.2.2.1, H.2.2.2.2) from rfl, e1', bind_s, as_I, bind_s, rd' 1 (by decide), bind_s, rd' 2 (by decide), bind_s, hb12, cnd_t, e2', bind_s, as_I, bind_s, decide_eq_true rfl, cnd_t]
      exact nx H2 lw
    rw [decide_eq_false hc13, cnd_f]
    by_cases hc14 : (H.2.2.1 1 (8 * k)) &&& 31 = Int32.ofInt ((((((((((((((0 + 1) + 1) + 1) + 1) + 1) + 1) + 1) + 1) + 1) + 1) + 1) + 1) + 1) + 1)
    · obtain ⟨v, H1, H2, e1, e2, g1, g2, g3, lw⟩ := law_case hs1 h12 (lw_term hG (s := H.1) (n := H.2.1) (mi := H.2.2.1) (ml := H.2.2.2.1) (mr := H.2.2.2.2) hW hx hs1.2.1 hC hM (H.2.2.1 1 (8 * k + 1)) (H.2.2.1 1 (8 * k + 2)) (H.2.2.1 1 (8 * k + 3)) (H.2.2.1 1 (8 * k + 4)))
      have rd' : ∀ j, j < 8 → hAI H1 1 (zi (8 * k + j)) = some (H.2.2.1 1 (8 * k + j)) := fun j hj => by rw [hA1 g1 (by omega) hL, g2]
      have hb12 : Nat.beq (H1.1 114).1 12 = true := by rw [g3]; rfl
      have e1' := e1
      have e2' := e2
      rw [decide_eq_true hc14, cnd_t, rd 1 (by decide), bind_s, rd 2 (by decide), bind_s, rd 3 (by decide), bind_s, rd 4 (by decide), bind_s, hb11, cnd_t, show H = (H.1, H.2.1, H.2.2.1, H.2.2.2.1, H.2.2.2.2) from rfl, e1', bind_s, as_J, bind_s, rd' 1 (by decide), bind_s, rd' 2 (by decide), bind_s, rd' 3 (by decide), bind_s, rd' 4 (by decide), bind_s, hb12, cnd_t, e2', bind_s, as_J, bind_s, cmp_eq0, decide_eq_true rfl, cnd_t]
      exact nx H2 lw
    rw [decide_eq_false hc14, cnd_f]
    by_cases hc15 : (H.2.2.1 1 (8 * k)) &&& 31 = Int32.ofInt (((((((((((((((0 + 1) + 1) + 1) + 1) + 1) + 1) + 1) + 1) + 1) + 1) + 1) + 1) + 1) + 1) + 1)
    · obtain ⟨v, H1, H2, e1, e2, g1, g2, g3, lw⟩ := law_case hs1 h12 (lw_val hG (s := H.1) (n := H.2.1) (mi := H.2.2.1) (ml := H.2.2.2.1) (mr := H.2.2.2.2) hW hx hs1.2.1 hC hM (H.2.2.1 1 (8 * k + 1)) (H.2.2.1 1 (8 * k + 2)) (H.2.2.1 1 (8 * k + 3)) (H.2.2.1 1 (8 * k + 4)))
      have rd' : ∀ j, j < 8 → hAI H1 1 (zi (8 * k + j)) = some (H.2.2.1 1 (8 * k + j)) := fun j hj => by rw [hA1 g1 (by omega) hL, g2]
      have hb12 : Nat.beq (H1.1 114).1 12 = true := by rw [g3]; rfl
      have e1' := e1
      have e2' := e2
      rw [decide_eq_true hc15, cnd_t, rd 1 (by decide), bind_s, rd 2 (by decide), bind_s, rd 3 (by decide), bind_s, rd 4 (by decide), bind_s, hb11, cnd_t, show H = (H.1, H.2.1, H.2.2.1, H.2.2.2.1, H.2.2.2.2) from rfl, e1', bind_s, as_J, bind_s, rd' 1 (by decide), bind_s, rd' 2 (by decide), bind_s, rd' 3 (by decide), bind_s, rd' 4 (by decide), bind_s, hb12, cnd_t, e2', bind_s, as_J, bind_s, cmp_eq0, decide_eq_true rfl, cnd_t]
      exact nx H2 lw
    rw [decide_eq_false hc15, cnd_f]
    by_cases hc16 : (H.2.2.1 1 (8 * k)) &&& 31 = Int32.ofInt ((((((((((((((((0 + 1) + 1) + 1) + 1) + 1) + 1) + 1) + 1) + 1) + 1) + 1) + 1) + 1) + 1) + 1) + 1)
    · obtain ⟨v, H1, H2, e1, e2, g1, g2, g3, lw⟩ := law_case hs1 h12 (lw_sure hG (s := H.1) (n := H.2.1) (mi := H.2.2.1) (ml := H.2.2.2.1) (mr := H.2.2.2.2) hW hx hs1.2.1 hC hM (H.2.2.1 1 (8 * k + 1)))
      have rd' : ∀ j, j < 8 → hAI H1 1 (zi (8 * k + j)) = some (H.2.2.1 1 (8 * k + j)) := fun j hj => by rw [hA1 g1 (by omega) hL, g2]
      have hb12 : Nat.beq (H1.1 114).1 12 = true := by rw [g3]; rfl
      have e1' := e1
      have e2' := e2
      rw [decide_eq_true hc16, cnd_t, rd 1 (by decide), bind_s, hb11, cnd_t, show H = (H.1, H.2.1, H.2.2.1, H.2.2.2.1, H.2.2.2.2) from rfl, e1', bind_s, as_I, bind_s, rd' 1 (by decide), bind_s, hb12, cnd_t, e2', bind_s, as_I, bind_s, decide_eq_true rfl, cnd_t]
      exact nx H2 lw
    rw [decide_eq_false hc16, cnd_f]
    by_cases hc17 : (H.2.2.1 1 (8 * k)) &&& 31 = Int32.ofInt (((((((((((((((((0 + 1) + 1) + 1) + 1) + 1) + 1) + 1) + 1) + 1) + 1) + 1) + 1) + 1) + 1) + 1) + 1) + 1)
    · obtain ⟨v, H1, H2, e1, e2, g1, g2, g3, lw⟩ := law_case hs1 h12 (lw_worth hG (s := H.1) (n := H.2.1) (mi := H.2.2.1) (ml := H.2.2.2.1) (mr := H.2.2.2.2) hW hx hs1.2.1 hC hM (H.2.2.1 1 (8 * k + 1)) (H.2.2.1 1 (8 * k + 2)) (H.2.2.1 1 (8 * k + 3)) (H.2.2.1 1 (8 * k + 4)))
      have rd' : ∀ j, j < 8 → hAI H1 1 (zi (8 * k + j)) = some (H.2.2.1 1 (8 * k + j)) := fun j hj => by rw [hA1 g1 (by omega) hL, g2]
      have hb12 : Nat.beq (H1.1 114).1 12 = true := by rw [g3]; rfl
      have e1' := e1
      have e2' := e2
      rw [decide_eq_true hc17, cnd_t, rd 1 (by decide), bind_s, rd 2 (by decide), bind_s, rd 3 (by decide), bind_s, rd 4 (by decide), bind_s, hb11, cnd_t, show H = (H.1, H.2.1, H.2.2.1, H.2.2.2.1, H.2.2.2.2) from rfl, e1', bind_s, as_I, bind_s, rd' 1 (by decide), bind_s, rd' 2 (by decide), bind_s, rd' 3 (by decide), bind_s, rd' 4 (by decide), bind_s, hb12, cnd_t, e2', bind_s, as_I, bind_s, decide_eq_true rfl, cnd_t]
      exact nx H2 lw
    rw [decide_eq_false hc17, cnd_f]
    by_cases hc18 : (H.2.2.1 1 (8 * k)) &&& 31 = Int32.ofInt ((((((((((((((((((0 + 1) + 1) + 1) + 1) + 1) + 1) + 1) + 1) + 1) + 1) + 1) + 1) + 1) + 1) + 1) + 1) + 1) + 1)
    · obtain ⟨v, H1, H2, e1, e2, g1, g2, g3, lw⟩ := law_case hs1 h12 (lw_lot hG (s := H.1) (n := H.2.1) (mi := H.2.2.1) (ml := H.2.2.2.1) (mr := H.2.2.2.2) hW hx hs1.2.1 hC hM (H.2.2.1 1 (8 * k + 1)))
      have rd' : ∀ j, j < 8 → hAI H1 1 (zi (8 * k + j)) = some (H.2.2.1 1 (8 * k + j)) := fun j hj => by rw [hA1 g1 (by omega) hL, g2]
      have hb12 : Nat.beq (H1.1 114).1 12 = true := by rw [g3]; rfl
      have e1' := e1
      have e2' := e2
      rw [decide_eq_true hc18, cnd_t, rd 1 (by decide), bind_s, hb11, cnd_t, show H = (H.1, H.2.1, H.2.2.1, H.2.2.2.1, H.2.2.2.2) from rfl, e1', bind_s, as_I, bind_s, rd' 1 (by decide), bind_s, hb12, cnd_t, e2', bind_s, as_I, bind_s, decide_eq_true rfl, cnd_t]
      exact nx H2 lw
    rw [decide_eq_false hc18, cnd_f]
    by_cases hc19 : (H.2.2.1 1 (8 * k)) &&& 31 = Int32.ofInt (((((((((((((((((((0 + 1) + 1) + 1) + 1) + 1) + 1) + 1) + 1) + 1) + 1) + 1) + 1) + 1) + 1) + 1) + 1) + 1) + 1) + 1)
    · obtain ⟨v, H1, H2, e1, e2, g1, g2, g3, lw⟩ := law_case hs1 h12 (lw_allow hG (s := H.1) (n := H.2.1) (mi := H.2.2.1) (ml := H.2.2.2.1) (mr := H.2.2.2.2) hW hx hs1.2.1 hC hM (H.2.2.1 1 (8 * k + 1)) (H.2.2.1 1 (8 * k + 2)) (H.2.2.1 1 (8 * k + 3)) (H.2.2.1 1 (8 * k + 4)))
      have rd' : ∀ j, j < 8 → hAI H1 1 (zi (8 * k + j)) = some (H.2.2.1 1 (8 * k + j)) := fun j hj => by rw [hA1 g1 (by omega) hL, g2]
      have hb12 : Nat.beq (H1.1 114).1 12 = true := by rw [g3]; rfl
      have e1' := e1
      have e2' := e2
      rw [decide_eq_true hc19, cnd_t, rd 1 (by decide), bind_s, rd 2 (by decide), bind_s, rd 3 (by decide), bind_s, rd 4 (by decide), bind_s, hb11, cnd_t, show H = (H.1, H.2.1, H.2.2.1, H.2.2.2.1, H.2.2.2.2) from rfl, e1', bind_s, as_I, bind_s, rd' 1 (by decide), bind_s, rd' 2 (by decide), bind_s, rd' 3 (by decide), bind_s, rd' 4 (by decide), bind_s, hb12, cnd_t, e2', bind_s, as_I, bind_s, decide_eq_true rfl, cnd_t]
      exact nx H2 lw
    rw [decide_eq_false hc19, cnd_f]
    by_cases hc20 : (H.2.2.1 1 (8 * k)) &&& 31 = Int32.ofInt ((((((((((((((((((((0 + 1) + 1) + 1) + 1) + 1) + 1) + 1) + 1) + 1) + 1) + 1) + 1) + 1) + 1) + 1) + 1) + 1) + 1) + 1) + 1)
    · obtain ⟨v, H1, H2, e1, e2, g1, g2, g3, lw⟩ := law_case hs1 h12 (lw_count hG (s := H.1) (n := H.2.1) (mi := H.2.2.1) (ml := H.2.2.2.1) (mr := H.2.2.2.2) hW hx hs1.2.1 hC hM (H.2.2.1 1 (8 * k + 1)))
      have rd' : ∀ j, j < 8 → hAI H1 1 (zi (8 * k + j)) = some (H.2.2.1 1 (8 * k + j)) := fun j hj => by rw [hA1 g1 (by omega) hL, g2]
      have hb12 : Nat.beq (H1.1 114).1 12 = true := by rw [g3]; rfl
      have e1' := e1
      have e2' := e2
      rw [decide_eq_true hc20, cnd_t, rd 1 (by decide), bind_s, hb11, cnd_t, show H = (H.1, H.2.1, H.2.2.1, H.2.2.2.1, H.2.2.2.2) from rfl, e1', bind_s, as_I, bind_s, rd' 1 (by decide), bind_s, hb12, cnd_t, e2', bind_s, as_I, bind_s, decide_eq_true rfl, cnd_t]
      exact nx H2 lw
    rw [decide_eq_false hc20, cnd_f]
    exact nx H (LWk_next hl0)
