/-! the model: make: what it holds while it goes on -/
def MR : List Po → (Nat → Nat → Int64) → Prop
  | [], _ => True
  | T :: R, ml => MPo (16 + R.length) T ml ∧ MR R ml
def PL (r : Nat) : List (Nat × Nat) → (Nat → Nat → Int32) → Prop
  | [], _ => True
  | q :: T, mi => mi 133 T.length = zi (24 * r + q.1) ∧ mi 134 T.length = zi (16 + rc T) ∧ PL r T mi
/-- no row of a formula has changed; of the ints the pile alone -/
def RN (ml ml' : Nat → Nat → Int64) : Prop := (∀ x, x < 4032 → ml' 126 x = ml 126 x) ∧ ∀ a, a ≠ 126 → a ≠ 130 → ml' a = ml a
def MJ (mi mi' : Nat → Nat → Int32) : Prop := ∀ a, a ≠ 133 → a ≠ 134 → mi' a = mi a
theorem RN_refl (a) : RN a a := ⟨fun _ _ => rfl, fun _ _ _ => rfl⟩
theorem RN_trans {a b c} (h : RN a b) (h' : RN b c) : RN a c := ⟨fun x hx => (h'.1 x hx).trans (h.1 x hx), fun x h1 h2 => (h'.2 x h1 h2).trans (h.2 x h1 h2)⟩
theorem RN_RG {i a b} (h : RG i a b) (hi : 16 ≤ i) : RN a b := ⟨fun x hx => h.1 x (by omega) (by omega), h.2⟩
theorem RN_RF {i j a b} (h : RF i j a b) (hi : 16 ≤ i) : RN a b := ⟨fun x hx => h.1 x (by omega), fun x h1 _ => h.2 x h1⟩
theorem MJ_refl (a) : MJ a a := fun _ _ _ => rfl
theorem MJ_trans {a b c} (h : MJ a b) (h' : MJ b c) : MJ a c := fun x h1 h2 => (h' x h1 h2).trans (h x h1 h2)
theorem MPo_RN {u : Nat} {P : Po} {a b} (h : MPo u P a) (hf : RN a b) (hu : u < 16) : MPo u P b := fun k hk => by rw [hf.1 _ (by omega)]; exact h k hk
theorem MR_RG : ∀ {R : List Po} {i : Nat} {a b}, MR R a → RG i a b → 16 + R.length ≤ i → i < 58 → MR R b
  | [], _, _, _, _, _, _, _ => trivial
  | T :: R, i, a, b, h, hf, hl, hi => by
    rw [List.length_cons] at hl
    exact ⟨MPo_RG h.1 hf (by omega) (by omega), MR_RG h.2 hf (by omega) hi⟩
theorem MR_RF : ∀ {R : List Po} {i : Nat} {a b}, MR R a → RF i (i + 1) a b → 16 + R.length ≤ i → MR R b
  | [], _, _, _, _, _, _ => trivial
  | T :: R, i, a, b, h, hf, hl => by
    rw [List.length_cons] at hl
    exact ⟨MPo_RF h.1 hf (by omega), MR_RF h.2 hf (by omega)⟩
theorem PL_up : ∀ {S : List (Nat × Nat)} {r i : Nat} {v : Int32} {mi}, PL r S mi → S.length ≤ i → ∀ a, PL r S (up2 mi a i v)
  | [], _, _, _, _, _, _, _ => trivial
  | q :: T, r, i, v, mi, h, hl, a => by
    rw [List.length_cons] at hl
    refine ⟨?_, ?_, PL_up h.2.2 (by omega) a⟩
    · rw [up2_ap]
      split
      · rename_i e; rw [if_neg (by omega), ← e]; exact h.1
      · exact h.1
    · rw [up2_ap]
      split
      · rename_i e; rw [if_neg (by omega), ← e]; exact h.2.1
      · exact h.2.1
theorem MPo_ad0 {i : Nat} {P : Po} {ml} (h : MPo i P ml) : MPo i (ad0 P) (up2 ml 126 (252 * i) (ml 126 (252 * i) + 8640)) := by
  intro k hk
  have h0 : ml 126 (252 * i) = P 0 := h 0 (by omega)
  rw [up2_s]
  unfold ad0
  by_cases e : k = 0
  · subst e
    rw [show 252 * i + 0 = 252 * i from rfl, up1_s, h0, show cd 0 = 0 from rfl, if_pos rfl]
  · rw [up1_n _ _ (by omega), if_neg, h k hk]
    intro hc
    exact e (cd_inj hk (by omega : (0 : Nat) < 252) hc)
theorem MPo_cst {i w : Nat} {ml} (h : MPo i (fun _ => 0) ml) : MPo i (cst w) (up2 ml 126 (252 * i) (8640 * zl w)) := by
  intro k hk
  rw [up2_s]
  unfold cst
  by_cases e : k = 0
  · subst e
    rw [show 252 * i + 0 = 252 * i from rfl, up1_s, show cd 0 = 0 from rfl, if_pos rfl]
  · rw [up1_n _ _ (by omega), if_neg, h k hk]
    intro hc
    exact e (cd_inj hk (by omega : (0 : Nat) < 252) hc)
/-- the locals of make at its loop -/
abbrev l154 (r sd a b c p : Nat) (o7 o8 o9 o10 o12 : Option AV) : ALs := [some (.inr (.inr 114)), some (.inl (zi r)), some (.inl (zi sd)), some (.inl (zi a)), some (.inl (zi b)), some (.inl (zi c)), some (.inl (zi p)), o7, o8, o9, o10, none, o12, none]
abbrev k154 (r sd a b c p op w : Nat) (o9 o10 o12 : Option AV) : ALs := l154 r sd a b c p (some (.inl (zi op))) (some (.inl (zi w))) o9 o10 o12
theorem m154n {G : AG} (hG : FIX G) {s : Nat → Nat × Nat} {mr : Nat → Nat → Nat} (hM : MS s mr) {r sd a b c p op w : Nat} (o9 o10 o12 : Option AV) (hp : p < 24) (H : Hp) : G 154 478 (k154 r sd a b c p op w o9 o10 o12) [] H = G 154 18 (k154 r sd a b c (p + 1) op w o9 o10 o12) [] H := by
  refine (b154_478 hG ..).trans ?_
  simp only [zi_lit, zi_add]
theorem m154k {G : AG} (hG : FIX G) {s : Nat → Nat × Nat} {mr : Nat → Nat → Nat} (hM : MS s mr) {n : Nat × Nat} {mi : Nat → Nat → Int32} {ml : Nat → Nat → Int64} {Q : Pg} (hQ : mdQ Q mi) (hW : WP Q) {r sd a b c p : Nat} (hr : r < 8) (hp : p < qn Q r) (hc : c < 57) (o7 o8 o9 o10 o12 : Option AV) :
    ((qk Q r p = 3 ∨ qk Q r p = 5) → G 154 18 (l154 r sd a b c p o7 o8 o9 o10 o12) [] (s, n, mi, ml, mr) = G 154 138 (k154 r sd a b c p (24 * r + p) (c + 1) o9 o10 o12) [] (s, n, mi, ml, mr)) ∧
    (qk Q r p = 4 → G 154 18 (l154 r sd a b c p o7 o8 o9 o10 o12) [] (s, n, mi, ml, mr) = G 154 416 (k154 r sd a b c p (24 * r + p) (c + 1) o9 o10 o12) [] (s, n, mi, ml, mr)) ∧
    (qk Q r p = 6 → 0 < a → 0 < b → G 154 18 (l154 r sd a b c p o7 o8 o9 o10 o12) [] (s, n, mi, ml, mr) = G 154 208 (k154 r sd (a - 1) (b - 1) c p (24 * r + p) (c + 1) o9 o10 o12) [] (s, n, mi, ml, mr)) ∧
    (qk Q r p = 8 → 0 < a → G 154 18 (l154 r sd a b c p o7 o8 o9 o10 o12) [] (s, n, mi, ml, mr) = G 154 273 (k154 r sd (a - 1) b c p (24 * r + p) (c + 1) o9 o10 o12) [] (s, n, mi, ml, mr)) := by
  have h24 : qn Q r ≤ 24 := hW.2.1 r
  have hk := (hQ.2.2 r p hr hp).1
  refine ⟨?_, ?_, ?_, ?_⟩
  · rintro (h | h) <;> rw [h] at hk <;> refine (b154_18 hG ..).trans ?_ <;> simp (disch := omega) only [gm51 hM, am115 hM, gm52 hM, am116 hM, hQ.2.1 r hr, bind_s, zi_lit, zi_mul, zi_add, zi_le, zi_eq, hk, oi1, oi2, oi3, oi4, oi5, eq_false (by omega : ¬ qn Q r ≤ p), decide_false, cnd_f, Nat.reduceEqDiff, decide_true, cnd_t]
  · intro h; rw [h] at hk; refine (b154_18 hG ..).trans ?_; simp (disch := omega) only [gm51 hM, am115 hM, gm52 hM, am116 hM, hQ.2.1 r hr, bind_s, zi_lit, zi_mul, zi_add, zi_le, zi_eq, hk, oi1, oi2, oi3, oi4, oi5, eq_false (by omega : ¬ qn Q r ≤ p), decide_false, cnd_f, Nat.reduceEqDiff, decide_true, cnd_t]
  · intro h ha hb
    have da : zi a + -zi 1 = zi (a - 1) := zi_dec' ha
    have db : zi b + -zi 1 = zi (b - 1) := zi_dec' hb
    rw [h] at hk; refine (b154_18 hG ..).trans ?_; simp (disch := omega) only [gm51 hM, am115 hM, gm52 hM, am116 hM, hQ.2.1 r hr, bind_s, da, db, zi_lit, zi_mul, zi_add, zi_le, zi_eq, hk, oi1, oi2, oi3, oi4, oi5, oi6, eq_false (by omega : ¬ qn Q r ≤ p), decide_false, cnd_f, Nat.reduceEqDiff, decide_true, cnd_t]
  · intro h ha
    have da : zi a + -zi 1 = zi (a - 1) := zi_dec' ha
    rw [h] at hk; refine (b154_18 hG ..).trans ?_; simp (disch := omega) only [gm51 hM, am115 hM, gm52 hM, am116 hM, hQ.2.1 r hr, bind_s, da, zi_lit, zi_mul, zi_add, zi_le, zi_eq, hk, oi1, oi2, oi3, oi4, oi5, oi6, oi7, oi8, eq_false (by omega : ¬ qn Q r ≤ p), decide_false, cnd_f, Nat.reduceEqDiff, decide_true, cnd_t]
/-- WORK -/
theorem m154w {G : AG} (hG : FIX G) {s : Nat → Nat × Nat} {mr : Nat → Nat → Nat} (hM : MS s mr) {n : Nat × Nat} {mi : Nat → Nat → Int32} {ml : Nat → Nat → Int64} {Q : Pg} (hQ : mdQ Q mi) (hW : WP Q) {r sd a b p : Nat} {T : Po} {R : List Po} (hr : r < 8) (hp : p < qn Q r) (hl : R.length < 40) (hk : qk Q r p = 1) (hR : MR (T :: R) ml) (o7 o8 o9 o10 o12 : Option AV) :
    ∃ ml', (jn T (cst (qw Q r p)) R = none ∧ G 154 18 (l154 r sd a b (16 + R.length) p o7 o8 o9 o10 o12) [] (s, n, mi, ml, mr) = some (some (.inl (bz false)), (s, n, mi, ml', mr)) ∨ ∃ R', jn T (cst (qw Q r p)) R = some R' ∧ G 154 18 (l154 r sd a b (16 + R.length) p o7 o8 o9 o10 o12) [] (s, n, mi, ml, mr) = G 154 18 (k154 r sd a b (16 + R.length) (p + 1) (24 * r + p) (16 + R.length + 1) o9 o10 o12) [] (s, n, mi, ml', mr) ∧ MR R' ml') ∧ RN ml ml' := by
  have h24 : qn Q r ≤ 24 := hW.2.1 r
  obtain ⟨q1, q2, -, -⟩ := hQ.2.2 r p hr hp
  rw [hk] at q1
  have q2' := q2 hk
  have hw := hW.2.2.2.2.1 r p hp hk
  obtain ⟨m1, e1, z1, z2⟩ := m155 hG hM (n := n) (mi := mi) (ml := ml) (i := 16 + R.length + 1) (by omega)
  have z3 := MPo_cst (w := qw Q r p) z1
  have f3 : RF (16 + R.length + 1) (16 + R.length + 1 + 1) ml (up2 m1 126 (252 * (16 + R.length + 1)) (8640 * zl (qw Q r p))) := RF_trans z2 (RF_up (by omega) (by omega))
  have hT := MPo_RF hR.1 f3 (by omega)
  obtain ⟨m2, e2, z4, z5⟩ := m156 hG hM (n := n) (mi := mi) (by omega : 16 + R.length < 70) (by omega : 16 + R.length + 1 < 70) (by omega) hT z3
  have e0 : G 154 18 (l154 r sd a b (16 + R.length) p o7 o8 o9 o10 o12) [] (s, n, mi, ml, mr) = bif (gdn (cst (qw Q r p)) 252 && gdn (pad T (cst (qw Q r p))) 252) then G 154 478 (k154 r sd a b (16 + R.length) p (24 * r + p) (16 + R.length + 1) o9 o10 o12) [] (s, n, mi, m2, mr) else some (some (.inl (bz false)), (s, n, mi, m2, mr)) := by
    refine (b154_18 hG ..).trans ?_
    have eq1 : (8640 : Int64) * (zi (qw Q r p)).toInt64 = 8640 * zl (qw Q r p) := by rw [zi_64 (by omega)]
    simp (disch := omega) only [gm51 hM, am115 hM, gm52 hM, am116 hM, gm67 hM, gm53 hM, am117 hM, wm126 hM, hQ.2.1 r hr, km hM, Nat.beq_refl, bind_s, as_V, as_I, zi_lit, zi_mul, zi_add, zi_le, zi_eq, q1, q2', oi1, eq_false (by omega : ¬ qn Q r ≤ p), decide_false, cnd_f, Nat.reduceEqDiff, decide_true, cnd_t, e1, eq1]
    rw [e2]
    simp only [bind_s, as_I, ne_eq, bzp_z0]
    cases hb : (gdn (cst (qw Q r p)) 252 && gdn (pad T (cst (qw Q r p))) 252)
    · simp only [decide_true, decide_false, not_true_eq_false, not_false_eq_true, cnd_f, cnd_t]; rfl
    · simp only [Bool.true_eq_false, decide_true, decide_false, not_true_eq_false, not_false_eq_true, cnd_f, cnd_t]
  refine ⟨m2, ?_, RN_trans (RN_RF f3 (by omega)) (RN_RF z5 (by omega))⟩
  rw [e0]
  unfold jn
  cases hb : (gdn (cst (qw Q r p)) 252 && gdn (pad T (cst (qw Q r p))) 252)
  · exact Or.inl ⟨rfl, rfl⟩
  · rw [Bool.and_eq_true] at hb
    refine Or.inr ⟨_, rfl, ?_, z4 hb.1, MR_RF (MR_RF hR.2 f3 (by omega)) z5 (by omega)⟩
    rw [cnd_t]
    exact m154n hG hM _ _ _ (by omega) _