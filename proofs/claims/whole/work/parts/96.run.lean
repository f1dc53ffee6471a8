/-! runs: what both sides do, op by op; places where what is open is closed -/
abbrev En : Type := Nat × Nat
/-- a frame: routine, place, both inputs, what stands of what is open (a loop: round and rounds; an either: steps ahead, steps of the first part) -/
abbrev Fr : Type := Nat × Nat × Nat × Nat × List En
abbrev Rs : Type := List Fr × Nat × Nat × Int32
def cf : List (Nat × Nat) → List En → Nat → Nat
  | (_, 0) :: S, c :: L, j => if j = lps S then c.1 else cf S L j
  | _ :: S, _ :: L, j => cf S L j
  | _, _, _ => 0
def ef : List (Nat × Nat) → List En → Nat → Nat
  | (_, 0) :: S, c :: L, j => if j = lps S then c.2 else ef S L j
  | _ :: S, _ :: L, j => ef S L j
  | _, _, _ => 0
def sbe : List (Nat × Nat) → List En → Nat
  | (_, 0) :: S, _ :: L => sbe S L
  | _ :: S, c :: L => c.1 + sbe S L
  | _, _ => 0
def exv (t : Nat → Nat) (x0 x1 : Nat) (c : Nat → Nat) : Nat := t 0 + t 1 * x0 + t 2 * x1 + t 3 * c 0 + t 4 * c 1 + t 5 * c 2
def clsf (K : Nat → Nat) (p w : Nat) : Nat → Nat → Nat
  | 0, e => e
  | d + 1, e => if K e = w ∧ hdp (stk K e) = p then e else clsf K p w d (e + 1)
def cls (K : Nat → Nat) (n p w : Nat) : Nat := clsf K p w (n - (p + 1)) (p + 1)
theorem clsf_ok {K : Nat → Nat} {p w E : Nat} (hE : K E = w ∧ hdp (stk K E) = p) : ∀ (d e : Nat), e ≤ E → E < e + d → (K (clsf K p w d e) = w ∧ hdp (stk K (clsf K p w d e)) = p) ∧ e ≤ clsf K p w d e ∧ clsf K p w d e ≤ E ∧ ∀ x, e ≤ x → x < clsf K p w d e → ¬ (K x = w ∧ hdp (stk K x) = p)
  | 0, e, h1, h2 => by omega
  | d + 1, e, h1, h2 => by
    rw [clsf]
    by_cases h : K e = w ∧ hdp (stk K e) = p
    · rw [if_pos h]
      exact ⟨h, Nat.le_refl _, h1, fun x hx hx2 => by omega⟩
    · rw [if_neg h]
      have hne : e ≠ E := fun e1 => h (by rw [e1]; exact hE)
      obtain ⟨i1, i2, i3, i4⟩ := clsf_ok hE d (e + 1) (by omega) (by omega)
      refine ⟨i1, by omega, i3, fun x hx hx2 => ?_⟩
      by_cases e1 : x = e
      · rw [e1]; exact h
      · exact i4 x (by omega) hx2
/-- an entry that is open goes on being so, till it is closed -/
theorem opn_e {K : Nat → Nat} {n p : Nat} (hW : WF K n) (h0 : stk K n = []) (hp : p < n) (hk : K p = 3 ∨ K p = 5) : ∃ E, p < E ∧ E < n ∧ ((K p = 3 → K E = 6) ∧ (K p = 5 → K E = 8)) ∧ hdp (stk K E) = p := by
  have key : ∀ d e : Nat, e + d = n → p < e → (∃ k T, stk K e = (p, k) :: T) ∨ (∃ q, q ∈ stk K e ∧ q.1 = p) → ∃ E, e ≤ E ∧ E < n ∧ (K E = 6 ∨ K E = 8) ∧ hdp (stk K E) = p := by
    intro d
    induction d with
    | zero =>
      intro e he hpe h
      have : e = n := by omega
      subst this
      rw [h0] at h
      rcases h with ⟨k, T, h⟩ | ⟨q, h, -⟩
      · cases h
      · cases h
    | succ d ih =>
      intro e he hpe h
      have hm : ∃ q, q ∈ stk K e ∧ q.1 = p := by
        rcases h with ⟨k, T, h⟩ | h
        · exact ⟨(p, k), by rw [h]; exact List.mem_cons_self .., rfl⟩
        · exact h
      obtain ⟨q, hq, hq1⟩ := hm
      by_cases hc : (K e = 6 ∨ K e = 8) ∧ hdp (stk K e) = p
      · exact ⟨e, Nat.le_refl _, by omega, hc.1, hc.2⟩
      · have hin : ∃ q, q ∈ stk K (e + 1) ∧ q.1 = p := by
          have e0 : stk K (e + 1) = stq (K e) e (stk K e) := rfl
          rw [e0]
          rcases stq_ok (p := e) (hW e (by omega)) with ⟨-, e1⟩ | ⟨-, e1⟩ | ⟨-, e1⟩ | ⟨a, T, hS, hk6, e1⟩ | ⟨a, T, hS, -, e1⟩ | ⟨a, T, hS, hk8, e1⟩ <;> rw [e1]
          · exact ⟨q, hq, hq1⟩
          · exact ⟨q, List.mem_cons_of_mem _ hq, hq1⟩
          · exact ⟨q, List.mem_cons_of_mem _ hq, hq1⟩
          · rw [hS] at hq
            rcases List.mem_cons.mp hq with rfl | h2
            · exact absurd ⟨Or.inl hk6, by rw [hS]; exact hq1⟩ hc
            · exact ⟨q, h2, hq1⟩
          · rw [hS] at hq
            rcases List.mem_cons.mp hq with rfl | h2
            · exact ⟨(a, 2), List.mem_cons_self .., hq1⟩
            · exact ⟨q, List.mem_cons_of_mem _ h2, hq1⟩
          · rw [hS] at hq
            rcases List.mem_cons.mp hq with rfl | h2
            · exact absurd ⟨Or.inr hk8, by rw [hS]; exact hq1⟩ hc
            · exact ⟨q, h2, hq1⟩
        obtain ⟨E, g1, g2, g3, g4⟩ := ih (e + 1) (by omega) (by omega) (Or.inr hin)
        exact ⟨E, by omega, g2, g3, g4⟩
  have h1 : ∃ k T, stk K (p + 1) = (p, k) :: T := by
    have e0 : stk K (p + 1) = stq (K p) p (stk K p) := rfl
    rw [e0]
    rcases hk with h | h <;> rw [h]
    · exact ⟨0, _, stq_3 _ _⟩
    · exact ⟨1, _, stq_5 _ _⟩
  obtain ⟨E, g1, g2, g3, g4⟩ := key (n - (p + 1)) (p + 1) (by omega) (by omega) (Or.inl h1)
  refine ⟨E, by omega, g2, ?_, g4⟩
  have hWE := WF_le hW (Nat.le_of_lt g2)
  have hent := (stk_inv hWE).2.1
  rcases hW E g2 with h | ⟨h, -⟩ | h | h | ⟨h6, q, T, hS⟩ | ⟨h, -⟩ | ⟨h8, q, T, hS⟩
  · omega
  · omega
  · omega
  · omega
  · rw [hS] at g4 hent
    have hq : q = p := g4
    have := (hent (q, 0) (List.mem_cons_self ..)).2
    rw [hq] at this
    rcases this with ⟨-, h⟩ | ⟨h, -⟩ | ⟨h, -⟩
    · have h' : K p = 3 := h
      exact ⟨fun _ => h6, fun h5 => by omega⟩
    · exact absurd h (by show ¬ (0 : Nat) = 1; decide)
    · exact absurd h (by show ¬ (0 : Nat) = 2; decide)
  · omega
  · rw [hS] at g4 hent
    have hq : q = p := g4
    have := (hent (q, 2) (List.mem_cons_self ..)).2
    rw [hq] at this
    rcases this with ⟨h, -⟩ | ⟨h, -⟩ | ⟨-, h, -⟩
    · exact absurd h (by show ¬ (2 : Nat) = 0; decide)
    · exact absurd h (by show ¬ (2 : Nat) = 1; decide)
    · have h' : K p = 5 := h
      exact ⟨fun h3 => by omega, fun _ => h8⟩
/-- an either that is closed has its OR -/
theorem opn_or {K : Nat → Nat} {n p : Nat} (hW : WF K n) (h0 : stk K n = []) (hp : p < n) (hk : K p = 5) : ∃ E, p < E ∧ E < n ∧ K E = 7 ∧ hdp (stk K E) = p := by
  obtain ⟨E, g1, g2, ⟨-, g3⟩, g4⟩ := opn_e hW h0 hp (Or.inr hk)
  have h8 := g3 hk
  have hent := (stk_inv (WF_le hW (Nat.le_of_lt g2))).2.1
  rcases hW E g2 with h | ⟨h, -⟩ | h | h | ⟨h, -⟩ | ⟨h, -⟩ | ⟨-, q, T, hS⟩
  · omega
  · omega
  · omega
  · omega
  · omega
  · omega
  · rw [hS] at g4 hent
    have hq : q = p := g4
    have := (hent (q, 2) (List.mem_cons_self ..)).2
    rcases this with ⟨h, -⟩ | ⟨h, -⟩ | ⟨-, -, x, hx, hx7, hxd⟩
    · exact absurd h (by show ¬ (2 : Nat) = 0; decide)
    · exact absurd h (by show ¬ (2 : Nat) = 1; decide)
    · have hxd' : hdp (stk K x) = q := hxd
      have := hdp_lt (WF_le hW (by omega : x + 1 ≤ n)) (Nat.lt_succ_self x) (by omega)
      exact ⟨x, by omega, by omega, hx7, by rw [hxd', hq]⟩
theorem cls_ok {K : Nat → Nat} {n p w : Nat} (h : ∃ E, p < E ∧ E < n ∧ K E = w ∧ hdp (stk K E) = p) : K (cls K n p w) = w ∧ hdp (stk K (cls K n p w)) = p ∧ p < cls K n p w ∧ cls K n p w < n ∧ ∀ x, p < x → x < cls K n p w → ¬ (K x = w ∧ hdp (stk K x) = p) := by
  obtain ⟨E, h1, h2, h3, h4⟩ := h
  obtain ⟨i1, i2, i3, i4⟩ := clsf_ok (E := E) ⟨h3, h4⟩ (n - (p + 1)) (p + 1) (by omega) (by omega)
  exact ⟨i1.1, i1.2, i2, Nat.lt_of_le_of_lt i3 h2, fun x hx hx2 => i4 x hx hx2⟩
/-- one step of a run: what it answers, or where it goes on -/
def lotN (z : Int32) : Int32 := z * 1103515245 + 12345
def lot2 (z : Int32) : Bool := decide (((z >>> (16 &&& 31)) &&& 1) = 1)
def mxw (w a b : Nat) : Nat := if w = 3 then (if b < a then a else b) else (if a < b then a else b)
def stA (Q : Pg) (w : Nat) : Rs → (Int32 × Int32) ⊕ Rs
  | ([], sp, _, z) => .inl (zi sp, z)
  | ((r, p, x0, x1, L) :: R, sp, k, z) =>
    if p = qn Q r then (match R with
      | [] => .inl (zi sp, z)
      | (r', q', y0, y1, L') :: R' => .inr ((r', q' + 1, y0, y1, L') :: R', sp, k, z))
    else if qk Q r p = 1 then .inr ((r, p + 1, x0, x1, L) :: R, sp + qw Q r p, k, z)
    else if qk Q r p = 3 then (if exv (qt Q r p) x0 x1 (cf (stk (qk Q r) p) L) = 0 then .inr ((r, cls (qk Q r) (qn Q r) p 6 + 1, x0, x1, L) :: R, sp, k, z) else if k = 20000 then .inl (-1000004, z) else .inr ((r, p + 1, x0, x1, (1, exv (qt Q r p) x0 x1 (cf (stk (qk Q r) p) L)) :: L) :: R, sp + 1, k + 1, z))
    else if qk Q r p = 4 then (if k = 20000 then .inl (-1000004, z) else .inr ((qd Q r p, 0, exv (qt Q r p) x0 x1 (cf (stk (qk Q r) p) L), exv (fun q => qt Q r p (6 + q)) x0 x1 (cf (stk (qk Q r) p) L), []) :: (r, p, x0, x1, L) :: R, sp + 1, k + 1, z))
    else if qk Q r p = 5 then (if k = 20000 then .inl (-1000004, z) else if 3 ≤ w then .inr ((r, p + 1, x0, x1, (sp + 1, 0) :: L) :: R, 0, k + 1, z) else if w = 2 then (bif lot2 (lotN z) then .inr ((r, cls (qk Q r) (qn Q r) p 7 + 1, x0, x1, (0, 0) :: L) :: R, sp + 1, k + 1, lotN z) else .inr ((r, p + 1, x0, x1, (0, 0) :: L) :: R, sp + 1, k + 1, lotN z)) else if w = 1 then .inr ((r, cls (qk Q r) (qn Q r) p 7 + 1, x0, x1, (0, 0) :: L) :: R, sp + 1, k + 1, z) else .inr ((r, p + 1, x0, x1, (0, 0) :: L) :: R, sp + 1, k + 1, z))
    else (match L with
      | [] => .inl (0, z)
      | c :: L' => if qk Q r p = 6 then (if c.1 < c.2 then (if k = 20000 then .inl (-1000004, z) else .inr ((r, hdp (stk (qk Q r) p) + 1, x0, x1, (c.1 + 1, c.2) :: L') :: R, sp + 1, k + 1, z)) else .inr ((r, p + 1, x0, x1, L') :: R, sp, k, z))
        else if qk Q r p = 7 then (if 3 ≤ w then .inr ((r, p + 1, x0, x1, (c.1, sp) :: L') :: R, 0, k, z) else .inr ((r, cls (qk Q r) (qn Q r) (hdp (stk (qk Q r) p)) 8 + 1, x0, x1, L') :: R, sp, k, z))
        else (if 3 ≤ w then .inr ((r, p + 1, x0, x1, L') :: R, c.1 + mxw w c.2 sp, k, z) else .inr ((r, p + 1, x0, x1, L') :: R, sp, k, z)))
