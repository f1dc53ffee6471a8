/-! the class: a call's formula -/
def F36 (W : Po) (i : Nat) : Int64 := if i / 6 + i % 6 ≤ 5 then W (i / 6 + 6 * (i % 6)) else 0
def CF (a : Nat) (W : Po) (ml : Nat → Nat → Int64) : Prop := ∀ i, i < 36 → ml a i = F36 W i
theorem F36_at {W : Po} {a b : Nat} (hb : b < 6) : F36 W (a * 6 + b) = if a + b ≤ 5 then W (a + 6 * b) else 0 := by
  unfold F36
  rw [show (a * 6 + b) / 6 = a by omega, show (a * 6 + b) % 6 = b by omega]
theorem code_ab {a b : Nat} (h : a + b ≤ 5) : vc (a + 6 * b) ∧ degc (a + 6 * b) = a + b ∧ (a + 6 * b) % 6 = a ∧ (a + 6 * b) / 6 % 6 = b ∧ a + 6 * b < 36 := by
  have e : a + 6 * b = mk6 a b 0 0 0 := by unfold mk6; omega
  obtain ⟨h0, h1, h2, h3, h4⟩ := mk6_dg (a0 := a) (a1 := b) (a2 := 0) (a3 := 0) (a4 := 0) (by omega) (by omega) (by decide) (by decide) (by decide)
  rw [e]
  have hd : degc (mk6 a b 0 0 0) = a + b := by
    show _ % 6 + _ / 6 % 6 + _ / 36 % 6 + _ / 216 % 6 + _ / 1296 % 6 = _
    rw [h0, h1, h2, h3, h4]; rfl
  have h36 : mk6 a b 0 0 0 < 36 := by unfold mk6; omega
  exact ⟨⟨by omega, by rw [hd]; omega⟩, hd, h0, h1, h36⟩
/-- Horner's way: the coefficient of each power, the highest first -/
def hos (e : Nat → Int64) (d m : Nat) (F : Nat → Po) (b : Nat) : Po := fun c => sm (m + 1 - b) (fun u => pwE e d u (F (b + u)) c)
theorem hos_S {e : Nat → Int64} {d m b : Nat} {F : Nat → Po} (hb : b ≤ m) (c : Nat) : hos e d m F b c = mulE e d (hos e d m F (b + 1)) c + F b c := by
  have h1 : mulE e d (hos e d m F (b + 1)) c = sm (m + 1 - (b + 1)) (fun u => mulE e d (pwE e d u (F (b + 1 + u))) c) := mulE_sm c _
  rw [h1]
  show sm (m + 1 - b) _ = _
  rw [show m + 1 - b = (m + 1 - (b + 1)) + 1 by omega, sm_head, Int64.add_comm]
  congr 1
  exact sm_congr (fun u _ => by rw [show b + (u + 1) = b + 1 + u by omega]; rfl)
theorem hos_end {e : Nat → Int64} {d m : Nat} {F : Nat → Po} (c : Nat) : hos e d m F (m + 1) c = 0 := by
  unfold hos
  rw [Nat.sub_self]; rfl
theorem hos_dle {e : Nat → Int64} {d m : Nat} {F : Nat → Po} (hd : d ≤ 3) (hF : ∀ b, b ≤ m → dle (m - b) (F b)) : ∀ f b : Nat, b + f = m → dle (m - b) (hos e d m F b)
  | 0, b, h => by
    have e1 : b = m := by omega
    subst e1
    intro c hc hn
    have h0 : peq (hos e d b F (b + 1)) (fun _ => 0) := fun x _ => hos_end x
    rw [hos_S (Nat.le_refl _), mulE_congr hd h0 c hc, hF b (Nat.le_refl _) c hc hn, Int64.add_zero]
    exact mulE_sm (Q := fun _ _ => 0) c 0
  | f + 1, b, h => by
    have ih := hos_dle (e := e) hd hF f (b + 1) (by omega)
    have h3 := dle_mulE (e := e) hd ih
    intro c hc hn
    rw [hos_S (by omega), hF b (by omega) c hc hn, Int64.add_zero]
    exact h3 c hc (by omega)
theorem pwE_sc {e : Nat → Int64} {d : Nat} {w : Int64} {P : Po} (c : Nat) : ∀ j, pwE e d j (fun c => w * P c) c = w * pwE e d j P c := by
  intro j
  induction j generalizing c with
  | zero => rfl
  | succ j ih =>
    show mulE e d (pwE e d j (fun c => w * P c)) c = w * mulE e d (pwE e d j P) c
    rw [show pwE e d j (fun c => w * P c) = fun c => w * pwE e d j P c from funext ih]
    exact mulE_sc c
theorem dle_sdel {w : Int64} (m : Nat) : dle m (fun c => w * del 0 c) := fun c hc hn => by
  show w * del 0 c = 0
  rw [dle_del c hc (by omega), Int64.mul_zero]
/-- what stands at x0^a, the second expression put in -/
def prA (W : Po) (e2 : Nat → Int64) (d w a : Nat) : Po := hos e2 d (w - a) (fun b c => W (a + 6 * b) * del 0 c) 0
theorem prA_dle {W : Po} {e2 : Nat → Int64} {d w a : Nat} (hd : d ≤ 3) : dle (w - a) (prA W e2 d w a) := hos_dle hd (fun b _ => dle_sdel _) (w - a) 0 (Nat.zero_add _)
def C21 : List Nat := [0, 1, 2, 3, 4, 5, 6, 7, 8, 9, 10, 12, 13, 14, 15, 18, 19, 20, 24, 25, 30]
def B36 : List Bool := [true, true, true, true, true, true, true, true, true, true, true, false, true, true, true, true, false, false, true, true, true, false, false, false, true, true, false, false, false, false, true, false, false, false, false, false]
set_option maxRecDepth 100000 in
theorem sm21 {f : Nat → Int64} (hz : ∀ c, vc c → 36 ≤ c → f c = 0) : sm 252 (fun x => f (cd x)) = sm 36 (fun c => if degc c < 6 then f c else 0) := by
  have h1 : sm 252 (fun x => f (cd x)) = sm 21 (fun x => f (cd x)) := sm_tail (by decide) (fun i h1 h2 => by
    refine hz _ (rk_cd h2).1 ?_
    have hk : chk (fun k => Nat.blt k 21 || Nat.ble 36 (cd k)) 252 = true := by decide +kernel
    have := chk_ok (f := fun k => Nat.blt k 21 || Nat.ble 36 (cd k)) hk h2
    rw [Bool.or_eq_true] at this
    rcases this with h | h
    · exact absurd (Nat.le_of_ble_eq_true h) (by omega)
    · exact Nat.le_of_ble_eq_true h)
  rw [h1]
  have h2 : ∀ x, x < 21 → f (cd x) = f (C21.getD x 0) := fun x hx => by
    have hk : chk (fun k => Nat.beq (cd k) (C21.getD k 0)) 21 = true := by decide +kernel
    rw [Nat.eq_of_beq_eq_true (chk_ok (f := fun k => Nat.beq (cd k) (C21.getD k 0)) hk hx)]
  have h3 : ∀ c, c < 36 → (if degc c < 6 then f c else 0) = bif B36.getD c false then f c else 0 := fun c hc => by
    have hk : chk (fun c => decide (degc c < 6) == B36.getD c false) 36 = true := by decide +kernel
    have h4 : decide (degc c < 6) = B36.getD c false := eq_of_beq (chk_ok (f := fun c => decide (degc c < 6) == B36.getD c false) hk hc)
    rw [← h4]
    by_cases h5 : degc c < 6
    · rw [if_pos h5, decide_eq_true h5]; rfl
    · rw [if_neg h5, decide_eq_false h5]; rfl
  rw [sm_congr h2, sm_congr h3]
  simp only [sm, C21, B36, List.getD_cons_zero, List.getD_cons_succ, cnd_t, cnd_f, Int64.add_zero]
set_option maxRecDepth 100000 in
theorem sm66 {f : Nat → Int64} : sm 36 f = sm 6 (fun b => sm 6 (fun a => f (a + 6 * b))) := by
  simp only [sm, Nat.reduceMul, Nat.reduceAdd, Int64.zero_add, Int64.add_assoc]
theorem put_hos {W : Po} {e1 e2 : Nat → Int64} {d w : Nat} (hd : d ≤ 3) (hw : w ≤ 5) (hv : vlt 2 W) (hW : dle w W) : peq (hos e1 d w (fun a => prA W e2 d w a) 0) (putP W e1 e2 d) := by
  intro c hc
  have hT : ∀ a, a < 6 → ∀ b, b < 6 → (if a + b ≤ 5 then W (a + 6 * b) * pwE e2 d b (pwE e1 d a (del 0)) c else 0) = (if a + b ≤ 5 then W (a + 6 * b) * pwE e1 d a (pwE e2 d b (del 0)) c else 0) := by
    intro a _ b _
    split
    · rw [pwE_comm hd hd b a c hc]
    · rfl
  have h1 : putP W e1 e2 d c = sm 6 (fun a => sm 6 (fun b => if a + b ≤ 5 then W (a + 6 * b) * pwE e1 d a (pwE e2 d b (del 0)) c else 0)) := by
    show sm 252 (fun x => W (cd x) * pwE e2 d (cd x / 6 % 6) (pwE e1 d (cd x % 6) (del 0)) c) = _
    rw [sm21 (f := fun y => W y * pwE e2 d (y / 6 % 6) (pwE e1 d (y % 6) (del 0)) c) (fun y hy h36 => by
      show W y * _ = 0
      rw [hv y hy h36, Int64.zero_mul]), sm66, sm_comm]
    refine sm_congr (fun a ha => sm_congr (fun b hb => ?_))
    rw [← hT a ha b hb]
    by_cases h : a + b ≤ 5
    · obtain ⟨-, k2, k3, k4, -⟩ := code_ab h
      rw [if_pos h, if_pos (by rw [k2]; omega), k3, k4]
    · have e : a + 6 * b = mk6 a b 0 0 0 := by unfold mk6; omega
      obtain ⟨g0, g1, g2, g3, g4⟩ := mk6_dg (a0 := a) (a1 := b) (a2 := 0) (a3 := 0) (a4 := 0) ha hb (by decide) (by decide) (by decide)
      have hdg : degc (a + 6 * b) = a + b := by
        rw [e]
        show _ % 6 + _ / 6 % 6 + _ / 36 % 6 + _ / 216 % 6 + _ / 1296 % 6 = _
        rw [g0, g1, g2, g3, g4]; rfl
      rw [if_neg h, if_neg (by rw [hdg]; omega)]
  rw [h1]
  show sm (w + 1 - 0) (fun u => pwE e1 d u (prA W e2 d w (0 + u)) c) = _
  rw [Nat.sub_zero]
  have h2 : ∀ a, a < w + 1 → pwE e1 d a (prA W e2 d w (0 + a)) c = sm 6 (fun b => if a + b ≤ 5 then W (a + 6 * b) * pwE e1 d a (pwE e2 d b (del 0)) c else 0) := by
    intro a ha
    rw [Nat.zero_add]
    have h3 : prA W e2 d w a = lc (w - a + 1) (fun b => W (a + 6 * b)) (fun b => pwE e2 d b (del 0)) := by
      funext x
      show sm (w - a + 1 - 0) (fun u => pwE e2 d u (fun c => W (a + 6 * (0 + u)) * del 0 c) x) = _
      rw [Nat.sub_zero]
      exact sm_congr (fun u _ => by rw [pwE_sc, Nat.zero_add])
    rw [h3, pwE_lc hd a c hc]
    show sm (w - a + 1) (fun b => W (a + 6 * b) * pwE e1 d a (pwE e2 d b (del 0)) c) = _
    rw [sm_tail (k := w - a + 1) (n := 6) (by omega) (fun b h4 h5 => by
      split
      · rename_i h6
        obtain ⟨k1, k2, -, -, -⟩ := code_ab h6
        rw [hW _ k1 (by rw [k2]; omega), Int64.zero_mul]
      · rfl)]
    refine sm_congr (fun b hb => ?_)
    rw [if_pos (by omega)]
  rw [sm_congr h2]
  refine (sm_tail (by omega) (fun a h4 h5 => sm_zero (fun b hb => ?_))).symm
  split
  · rename_i h6
    obtain ⟨k1, k2, -, -, -⟩ := code_ab h6
    rw [hW _ k1 (by rw [k2]; omega), Int64.zero_mul]
  · rfl
