/-! programs: their stacks, when they are well made; what the model holds of them -/
def stq (k p : Nat) (S : List (Nat × Nat)) : List (Nat × Nat) :=
  if k = 3 then (p, 0) :: S else if k = 5 then (p, 1) :: S else if k = 7 then (match S with | [] => [] | q :: T => (q.1, 2) :: T) else if k = 6 ∨ k = 8 then S.tail else S
def stk (K : Nat → Nat) : Nat → List (Nat × Nat)
  | 0 => []
  | p + 1 => stq (K p) p (stk K p)
def lps : List (Nat × Nat) → Nat
  | [] => 0
  | q :: T => (if q.2 = 0 then 1 else 0) + lps T
def okc (k : Nat) (S : List (Nat × Nat)) : Prop := k = 1 ∨ (k = 3 ∧ lps S < 3) ∨ k = 4 ∨ k = 5 ∨ (k = 6 ∧ ∃ q T, S = (q, 0) :: T) ∨ (k = 7 ∧ ∃ q T, S = (q, 1) :: T) ∨ (k = 8 ∧ ∃ q T, S = (q, 2) :: T)
def WF (K : Nat → Nat) (n : Nat) : Prop := ∀ p, p < n → okc (K p) (stk K p)
theorem stq_1 (p S) : stq 1 p S = S := rfl
theorem stq_3 (p S) : stq 3 p S = (p, 0) :: S := rfl
theorem stq_4 (p S) : stq 4 p S = S := rfl
theorem stq_5 (p S) : stq 5 p S = (p, 1) :: S := rfl
theorem stq_6 (p S) : stq 6 p S = S.tail := rfl
theorem stq_7 (p q T) : stq 7 p (q :: T) = (q.1, 2) :: T := rfl
theorem stq_8 (p S) : stq 8 p S = S.tail := rfl
theorem stq_len (k p : Nat) (S : List (Nat × Nat)) : (stq k p S).length ≤ S.length + 1 := by
  unfold stq
  split
  · exact Nat.le_refl _
  · split
    · exact Nat.le_refl _
    · split
      · cases S with
        | nil => exact Nat.zero_le _
        | cons q T => exact Nat.le_succ _
      · split
        · rw [List.length_tail]; omega
        · exact Nat.le_succ _
theorem stk_len (K : Nat → Nat) : ∀ p, (stk K p).length ≤ p
  | 0 => Nat.le_refl _
  | p + 1 => Nat.le_trans (stq_len _ _ _) (Nat.succ_le_succ (stk_len K p))
theorem lps_len : ∀ S, lps S ≤ S.length
  | [] => Nat.le_refl _
  | q :: T => by
    have := lps_len T
    unfold lps
    rw [List.length_cons]
    split <;> omega
theorem stk_congr {K K' : Nat → Nat} : ∀ {p : Nat}, (∀ q, q < p → K q = K' q) → stk K p = stk K' p
  | 0, _ => rfl
  | p + 1, h => by
    unfold stk
    rw [h p (Nat.lt_succ_self _), stk_congr (p := p) fun q hq => h q (Nat.lt_succ_of_lt hq)]
/-- the stack in two rows, the innermost last -/
def OA : List (Nat × Nat) → (Nat → Int32) → (Nat → Int32) → Prop
  | [], _, _ => True
  | q :: T, f, g => f T.length = zi q.2 ∧ g T.length = zi q.1 ∧ OA T f g
theorem OA_congr : ∀ {S : List (Nat × Nat)} {f g f' g' : Nat → Int32}, (∀ i, i < S.length → f' i = f i) → (∀ i, i < S.length → g' i = g i) → OA S f g → OA S f' g'
  | [], _, _, _, _, _, _, _ => trivial
  | q :: T, f, g, f', g', h1, h2, h => by
    unfold OA at h ⊢
    have l : (q :: T).length = T.length + 1 := rfl
    exact ⟨(h1 _ (by omega)).trans h.1, (h2 _ (by omega)).trans h.2.1, OA_congr (fun i hi => h1 i (by omega)) (fun i hi => h2 i (by omega)) h.2.2⟩
/-- a program: how many routines; lengths; kinds; works; called; told -/
abbrev Pg : Type := Nat × (Nat → Nat) × (Nat → Nat → Nat) × (Nat → Nat → Nat) × (Nat → Nat → Nat) × (Nat → Nat → Nat → Nat)
abbrev qc (Q : Pg) : Nat := Q.1
abbrev qn (Q : Pg) : Nat → Nat := Q.2.1
abbrev qk (Q : Pg) : Nat → Nat → Nat := Q.2.2.1
abbrev qw (Q : Pg) : Nat → Nat → Nat := Q.2.2.2.1
abbrev qd (Q : Pg) : Nat → Nat → Nat := Q.2.2.2.2.1
abbrev qt (Q : Pg) : Nat → Nat → Nat → Nat := Q.2.2.2.2.2
def WP (Q : Pg) : Prop := qc Q ≤ 8 ∧ (∀ r, qn Q r ≤ 24) ∧ (∀ r, qc Q ≤ r → qn Q r = 0) ∧ (∀ r, WF (qk Q r) (qn Q r)) ∧
  (∀ r p, p < qn Q r → qk Q r p = 1 → 1 ≤ qw Q r p ∧ qw Q r p ≤ 99) ∧ (∀ r p, p < qn Q r → qk Q r p = 4 → qd Q r p < r) ∧ (∀ r p q, qt Q r p q ≤ 2)
/-- one op more -/
def psh (Q : Pg) (r k w d : Nat) (t : Nat → Nat) : Pg := (qc Q, up1 (qn Q) r (qn Q r + 1), up2 (qk Q) r (qn Q r) k, up2 (qw Q) r (qn Q r) w, up2 (qd Q) r (qn Q r) d, up2 (qt Q) r (qn Q r) t)
/-- what the model holds of a program -/
def mdQ (Q : Pg) (mi : Nat → Nat → Int32) : Prop := mi 114 50 = zi (qc Q) ∧ (∀ r, r < 8 → mi 115 r = zi (qn Q r)) ∧
  (∀ r p, r < 8 → p < qn Q r → mi 116 (24 * r + p) = zi (qk Q r p) ∧ (qk Q r p = 1 → mi 117 (24 * r + p) = zi (qw Q r p)) ∧ (qk Q r p = 4 → mi 118 (24 * r + p) = zi (qd Q r p)) ∧ ∀ q, q < 12 → mi 119 (12 * (24 * r + p) + q) = zi (qt Q r p q))
/-- nothing but what is not kept has changed -/
def MK (mi mi' : Nat → Nat → Int32) : Prop := (∀ a, a < 114 → mi' a = mi a) ∧ (∀ a, 142 ≤ a → mi' a = mi a) ∧ (∀ a, 115 ≤ a → a ≤ 123 → mi' a = mi a) ∧ (∀ a, 126 ≤ a → a ≤ 132 → mi' a = mi a) ∧ (∀ f, f < 63 → mi' 114 f = mi 114 f)
theorem MK_refl (mi) : MK mi mi := ⟨fun _ _ => rfl, fun _ _ => rfl, fun _ _ _ => rfl, fun _ _ _ => rfl, fun _ _ => rfl⟩
theorem MK_trans {a b c} (h : MK a b) (h' : MK b c) : MK a c := ⟨fun x hx => (h'.1 x hx).trans (h.1 x hx), fun x hx => (h'.2.1 x hx).trans (h.2.1 x hx), fun x h1 h2 => (h'.2.2.1 x h1 h2).trans (h.2.2.1 x h1 h2), fun x h1 h2 => (h'.2.2.2.1 x h1 h2).trans (h.2.2.2.1 x h1 h2), fun x h1 => (h'.2.2.2.2 x h1).trans (h.2.2.2.2 x h1)⟩
theorem MK_f {mi : Nat → Nat → Int32} {f : Nat} {v : Int32} (hf : 63 ≤ f) : MK mi (up2 mi 114 f v) := by
  refine ⟨fun a h => up2_n _ _ (by omega), fun a h => up2_n _ _ (by omega), fun a h h' => up2_n _ _ (by omega), fun a h h' => up2_n _ _ (by omega), fun g h => ?_⟩
  rw [up2_s, up1_n _ _ (by omega)]
theorem MK_a {mi : Nat → Nat → Int32} {a i : Nat} {v : Int32} (ha : a = 124 ∨ a = 125 ∨ (133 ≤ a ∧ a ≤ 141)) : MK mi (up2 mi a i v) :=
  ⟨fun b h => up2_n _ _ (by omega), fun b h => up2_n _ _ (by omega), fun b h h' => up2_n _ _ (by omega), fun b h h' => up2_n _ _ (by omega), fun g h => by rw [up2_n _ _ (by omega)]⟩
theorem mdQ_MK {Q mi mi'} (h : mdQ Q mi) (hk : MK mi mi') : mdQ Q mi' := by
  obtain ⟨h1, h2, h3⟩ := h
  obtain ⟨k1, k2, k3, k4, k5⟩ := hk
  refine ⟨(k5 50 (by decide)).trans h1, fun r hr => ?_, fun r p hr hp => ?_⟩
  · rw [k3 115 (by decide) (by decide)]; exact h2 r hr
  · rw [k3 116 (by decide) (by decide), k3 117 (by decide) (by decide), k3 118 (by decide) (by decide), k3 119 (by decide) (by decide)]
    exact h3 r p hr hp
