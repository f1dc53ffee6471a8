/-! runs: what holds all along -/
theorem st_end {K : Nat → Nat} {n E p : Nat} (hW : WF K n) (hE : E < n) (hk : K E = 6) (hd : hdp (stk K E) = p) : stk K E = (p, 0) :: stk K p ∧ stk K (E + 1) = stk K p ∧ p < E ∧ K p = 3 := by
  have hWE := WF_le hW (Nat.le_of_lt hE)
  have hl := hdp_lt hW hE (by omega)
  have e0 : stk K (E + 1) = stq (K E) E (stk K E) := rfl
  have ht := stk_tls hWE
  have hent := (stk_inv hWE).2.1
  rcases hW E hE with h | ⟨h, -⟩ | h | h | ⟨-, q, T, hS⟩ | ⟨h, -⟩ | ⟨h, -⟩
  · omega
  · omega
  · omega
  · omega
  · rw [hS] at hd ht hl hent
    have hq : q = p := hd
    subst hq
    have ht1 : stk K q = T := ht.1
    have hk3 : K q = 3 := by
      rcases (hent (q, 0) (List.mem_cons_self ..)).2 with ⟨-, h⟩ | ⟨h, -⟩ | ⟨h, -⟩
      · exact h
      · exact absurd h (by show ¬ (0 : Nat) = 1; decide)
      · exact absurd h (by show ¬ (0 : Nat) = 2; decide)
    rw [e0, hk, stq_6, hS, ht1]
    exact ⟨rfl, rfl, hl, hk3⟩
  · omega
  · omega
theorem st_or {K : Nat → Nat} {n E p : Nat} (hW : WF K n) (hE : E < n) (hk : K E = 7) (hd : hdp (stk K E) = p) : stk K E = (p, 1) :: stk K p ∧ stk K (E + 1) = (p, 2) :: stk K p ∧ p < E ∧ K p = 5 := by
  have hWE := WF_le hW (Nat.le_of_lt hE)
  have hl := hdp_lt hW hE (by omega)
  have e0 : stk K (E + 1) = stq (K E) E (stk K E) := rfl
  have ht := stk_tls hWE
  have hent := (stk_inv hWE).2.1
  rcases hW E hE with h | ⟨h, -⟩ | h | h | ⟨h, -⟩ | ⟨-, q, T, hS⟩ | ⟨h, -⟩
  · omega
  · omega
  · omega
  · omega
  · omega
  · rw [hS] at hd ht hl hent
    have hq : q = p := hd
    subst hq
    have ht1 : stk K q = T := ht.1
    have hk5 : K q = 5 := by
      rcases (hent (q, 1) (List.mem_cons_self ..)).2 with ⟨h, -⟩ | ⟨-, h, -⟩ | ⟨-, h, -⟩
      · exact absurd h (by show ¬ (1 : Nat) = 0; decide)
      · exact h
      · exact h
    rw [e0, hk, hS, stq_7, ht1]
    exact ⟨rfl, rfl, hl, hk5⟩
  · omega
theorem st_done {K : Nat → Nat} {n E p : Nat} (hW : WF K n) (hE : E < n) (hk : K E = 8) (hd : hdp (stk K E) = p) : stk K E = (p, 2) :: stk K p ∧ stk K (E + 1) = stk K p ∧ p < E ∧ K p = 5 := by
  have hWE := WF_le hW (Nat.le_of_lt hE)
  have hl := hdp_lt hW hE (by omega)
  have e0 : stk K (E + 1) = stq (K E) E (stk K E) := rfl
  have ht := stk_tls hWE
  have hent := (stk_inv hWE).2.1
  rcases hW E hE with h | ⟨h, -⟩ | h | h | ⟨h, -⟩ | ⟨h, -⟩ | ⟨-, q, T, hS⟩
  · omega
  · omega
  · omega
  · omega
  · omega
  · omega
  · rw [hS] at hd ht hl hent
    have hq : q = p := hd
    subst hq
    have ht1 : stk K q = T := ht.1
    have hk5 : K q = 5 := by
      rcases (hent (q, 2) (List.mem_cons_self ..)).2 with ⟨h, -⟩ | ⟨-, h, -⟩ | ⟨-, h, -⟩
      · exact absurd h (by show ¬ (2 : Nat) = 0; decide)
      · exact h
      · exact h
    rw [e0, hk, hS, stq_8, ht1]
    exact ⟨rfl, rfl, hl, hk5⟩
theorem cf_0 (q S c L j) : cf ((q, 0) :: S) (c :: L) j = if j = lps S then c.1 else cf S L j := rfl
theorem cf_1 (q S c L j) : cf ((q, 1) :: S) (c :: L) j = cf S L j := rfl
theorem cf_2 (q S c L j) : cf ((q, 2) :: S) (c :: L) j = cf S L j := rfl
theorem ef_0 (q S c L j) : ef ((q, 0) :: S) (c :: L) j = if j = lps S then c.2 else ef S L j := rfl
theorem ef_1 (q S c L j) : ef ((q, 1) :: S) (c :: L) j = ef S L j := rfl
theorem ef_2 (q S c L j) : ef ((q, 2) :: S) (c :: L) j = ef S L j := rfl
theorem sbe_0 (q S c L) : sbe ((q, 0) :: S) (c :: L) = sbe S L := rfl
theorem sbe_1 (q S c L) : sbe ((q, 1) :: S) (c :: L) = c.1 + sbe S L := rfl
theorem sbe_2 (q S c L) : sbe ((q, 2) :: S) (c :: L) = c.1 + sbe S L := rfl
theorem lps_0 (q S) : lps ((q, 0) :: S) = 1 + lps S := rfl
theorem lps_1 (q S) : lps ((q, 1) :: S) = lps S := Nat.zero_add _
theorem lps_2 (q S) : lps ((q, 2) :: S) = lps S := Nat.zero_add _
theorem cf_hi : ∀ {S : List (Nat × Nat)} {L : List En} {j : Nat}, (∀ q ∈ S, q.2 ≤ 2) → lps S ≤ j → cf S L j = 0
  | [], [], _, _, _ => rfl
  | [], _ :: _, _, _, _ => rfl
  | (q, 0) :: S, [], _, _, _ => rfl
  | (q, k + 1) :: S, [], _, _, _ => rfl
  | (q, 0) :: S, c :: L, j, hb, h => by
    rw [lps_0] at h
    rw [cf_0, if_neg (by omega)]
    exact cf_hi (fun a ha => hb a (List.mem_cons_of_mem _ ha)) (by omega)
  | (q, k + 1) :: S, c :: L, j, hb, h => by
    have hk : k + 1 ≤ 2 := hb (q, k + 1) (List.mem_cons_self ..)
    have hk' : k = 0 ∨ k = 1 := by omega
    rcases hk' with rfl | rfl
    · rw [lps_1] at h
      exact cf_hi (S := S) (L := L) (fun a ha => hb a (List.mem_cons_of_mem _ ha)) h
    · rw [lps_2] at h
      exact cf_hi (S := S) (L := L) (fun a ha => hb a (List.mem_cons_of_mem _ ha)) h
def cs (S : List (Nat × Nat)) (L : List En) : Nat := cf S L 0 + cf S L 1 + cf S L 2
theorem cs_0 {q S c L} (hb : ∀ q ∈ S, q.2 ≤ 2) (h : lps S < 3) : cs ((q, 0) :: S) (c :: L) = c.1 + cs S L := by
  unfold cs
  have h0 := cf_hi (L := L) (j := lps S) hb (Nat.le_refl _)
  rw [cf_0, cf_0, cf_0]
  have hl : lps S = 0 ∨ lps S = 1 ∨ lps S = 2 := by omega
  rcases hl with e | e | e <;> rw [e] at h0 ⊢ <;> simp only [Nat.reduceEqDiff, if_true, if_false] <;> omega
theorem cs_1 (q S c L) : cs ((q, 1) :: S) (c :: L) = cs S L := rfl
theorem cs_2 (q S c L) : cs ((q, 2) :: S) (c :: L) = cs S L := rfl
def LI : List (Nat × Nat) → List En → Prop
  | (_, 0) :: S, c :: L => 1 ≤ c.1 ∧ c.1 ≤ c.2 ∧ c.2 < 2147483648 ∧ LI S L
  | _ :: S, _ :: L => LI S L
  | _, _ => True
def FsI (Q : Pg) : List Fr → Prop
  | [] => True
  | (r, p, _, _, L) :: R => (r < 8 ∧ whl Q r = true ∧ p ≤ qn Q r ∧ L.length = (stk (qk Q r) p).length ∧ LI (stk (qk Q r) p) L) ∧ (match R with
    | [] => True
    | (r', q', _, _, _) :: _ => q' < qn Q r' ∧ qk Q r' q' = 4 ∧ qd Q r' q' = r) ∧ FsI Q R
def tot (Q : Pg) : List Fr → Nat
  | [] => 0
  | (r, p, _, _, L) :: R => cs (stk (qk Q r) p) L + tot Q R
def XB (Q : Pg) : List Fr → Prop
  | [] => True
  | (r, _, x0, x1, _) :: R => x0 + 1 ≤ 4 ^ (7 - r) * (21 + tot Q R) ∧ x1 + 1 ≤ 4 ^ (7 - r) * (21 + tot Q R) ∧ XB Q R
def phR (Q : Pg) : List Fr → Nat
  | [] => 0
  | (r, q, _, _, _) :: R => (qn Q r - (q + 1)) + 1 + phR Q R
def phi (Q : Pg) : List Fr → Nat
  | [] => 0
  | (r, p, _, _, _) :: R => (qn Q r - p) + 1 + phR Q R
def bsf (Q : Pg) : List Fr → Nat
  | [] => 0
  | (r, p, _, _, L) :: R => sbe (stk (qk Q r) p) L + bsf Q R
def EBs (B M : Nat) : List (Nat × Nat) → List En → Prop
  | (_, 0) :: S, _ :: L => EBs B M S L
  | (_, 1) :: S, _ :: L => EBs B M S L
  | _ :: S, c :: L => B + sbe S L + c.1 + c.2 ≤ M ∧ EBs B M S L
  | _, _ => True
def EBf (Q : Pg) (M : Nat) : List Fr → Prop
  | [] => True
  | (r, p, _, _, L) :: R => EBs (bsf Q R) M (stk (qk Q r) p) L ∧ EBf Q M R
theorem EBs_mono {B M M' : Nat} (h : M ≤ M') : ∀ {S L}, EBs B M S L → EBs B M' S L
  | [], _, _ => by unfold EBs; exact trivial
  | (q, 0) :: S, [], _ => by unfold EBs; exact trivial
  | (q, 1) :: S, [], _ => by unfold EBs; exact trivial
  | (q, k + 2) :: S, [], _ => by unfold EBs; exact trivial
  | (q, 0) :: S, c :: L, hh => by unfold EBs at hh ⊢; exact EBs_mono h hh
  | (q, 1) :: S, c :: L, hh => by unfold EBs at hh ⊢; exact EBs_mono h hh
  | (q, k + 2) :: S, c :: L, hh => by unfold EBs at hh ⊢; exact ⟨Nat.le_trans hh.1 h, EBs_mono h hh.2⟩
theorem EBf_mono {Q : Pg} {M M' : Nat} (h : M ≤ M') : ∀ {fs}, EBf Q M fs → EBf Q M' fs
  | [], _ => trivial
  | (_, _, _, _, _) :: _, hh => ⟨EBs_mono h hh.1, EBf_mono h hh.2⟩
def IA (Q : Pg) (t : Nat) (A : Rs) : Prop := FsI Q A.1 ∧ A.1 ≠ [] ∧ A.2.2.1 ≤ 20000 ∧ tot Q A.1 ≤ A.2.2.1 ∧ XB Q A.1 ∧ t + phi Q A.1 ≤ 25 + 25 * A.2.2.1 ∧ bsf Q A.1 + A.2.1 ≤ 99 * t ∧ EBf Q (99 * t) A.1
theorem exv_b {t : Nat → Nat} {x0 x1 X : Nat} {c : Nat → Nat} (ht : ∀ q, t q ≤ 2) (h0 : x0 + 1 ≤ X) (h1 : x1 + 1 ≤ X) : exv t x0 x1 c + 1 ≤ 4 * (X + (c 0 + c 1 + c 2)) := by
  unfold exv
  have a0 := ht 0
  have a1 : t 1 * x0 ≤ 2 * x0 := Nat.mul_le_mul_right _ (ht 1)
  have a2 : t 2 * x1 ≤ 2 * x1 := Nat.mul_le_mul_right _ (ht 2)
  have a3 : t 3 * c 0 ≤ 2 * c 0 := Nat.mul_le_mul_right _ (ht 3)
  have a4 : t 4 * c 1 ≤ 2 * c 1 := Nat.mul_le_mul_right _ (ht 4)
  have a5 : t 5 * c 2 ≤ 2 * c 2 := Nat.mul_le_mul_right _ (ht 5)
  omega
theorem pw4_b {a b r : Nat} (hr : r < 8) : 4 * (4 ^ (7 - r) * a + b) ≤ 4 ^ (8 - r) * (a + b) := by
  have e : 8 - r = (7 - r) + 1 := by omega
  have h1 : 1 ≤ 4 ^ (7 - r) := Nat.pow_pos (by decide)
  rw [e, Nat.pow_succ, Nat.mul_comm _ 4, Nat.mul_assoc, Nat.mul_add (4 ^ (7 - r))]
  have h2 : 1 * b ≤ 4 ^ (7 - r) * b := Nat.mul_le_mul_right _ h1
  rw [Nat.one_mul] at h2
  exact Nat.mul_le_mul_left 4 (by omega)
/-- the numbers of a run stay small -/
theorem exv_lt {Q : Pg} {r p x0 x1 k : Nat} {L : List En} {R : List Fr} {t : Nat → Nat} (ht : ∀ q, t q ≤ 2) (hr : r < 8) (hX : XB Q ((r, p, x0, x1, L) :: R)) (hk : tot Q ((r, p, x0, x1, L) :: R) ≤ k) (hk2 : k ≤ 20000) : exv t x0 x1 (cf (stk (qk Q r) p) L) + 1 ≤ 4 ^ (8 - r) * (21 + tot Q ((r, p, x0, x1, L) :: R)) ∧ exv t x0 x1 (cf (stk (qk Q r) p) L) < 2147483648 := by
  have h1 := exv_b (c := cf (stk (qk Q r) p) L) ht hX.1 hX.2.1
  have h2 := pw4_b (a := 21 + tot Q R) (b := cs (stk (qk Q r) p) L) hr
  have e1 : cf (stk (qk Q r) p) L 0 + cf (stk (qk Q r) p) L 1 + cf (stk (qk Q r) p) L 2 = cs (stk (qk Q r) p) L := rfl
  have e2 : tot Q ((r, p, x0, x1, L) :: R) = cs (stk (qk Q r) p) L + tot Q R := rfl
  rw [e1] at h1
  have h3 : exv t x0 x1 (cf (stk (qk Q r) p) L) + 1 ≤ 4 ^ (8 - r) * (21 + tot Q ((r, p, x0, x1, L) :: R)) := by
    rw [e2, show 21 + (cs (stk (qk Q r) p) L + tot Q R) = 21 + tot Q R + cs (stk (qk Q r) p) L by omega]
    exact Nat.le_trans h1 h2
  refine ⟨h3, ?_⟩
  have h4 : 4 ^ (8 - r) ≤ 4 ^ 8 := Nat.pow_le_pow_right (by decide) (by omega)
  have h5 : 4 ^ (8 - r) * (21 + tot Q ((r, p, x0, x1, L) :: R)) ≤ 4 ^ 8 * 20021 := Nat.mul_le_mul h4 (by omega)
  have h6 : (4 : Nat) ^ 8 * 20021 = 1312096256 := by decide
  omega
