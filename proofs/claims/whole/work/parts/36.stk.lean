/-! stacks of what is not closed: what holds of them -/
theorem stq_ok {k p : Nat} {S : List (Nat × Nat)} (h : okc k S) : ((k = 1 ∨ k = 4) ∧ stq k p S = S) ∨ (k = 3 ∧ stq k p S = (p, 0) :: S) ∨ (k = 5 ∧ stq k p S = (p, 1) :: S) ∨ (∃ q T, S = (q, 0) :: T ∧ k = 6 ∧ stq k p S = T) ∨ (∃ q T, S = (q, 1) :: T ∧ k = 7 ∧ stq k p S = (q, 2) :: T) ∨ (∃ q T, S = (q, 2) :: T ∧ k = 8 ∧ stq k p S = T) := by
  rcases h with rfl | ⟨rfl, -⟩ | rfl | rfl | ⟨rfl, q, T, rfl⟩ | ⟨rfl, q, T, rfl⟩ | ⟨rfl, q, T, rfl⟩
  · exact Or.inl ⟨Or.inl rfl, rfl⟩
  · exact Or.inr (Or.inl ⟨rfl, rfl⟩)
  · exact Or.inl ⟨Or.inr rfl, rfl⟩
  · exact Or.inr (Or.inr (Or.inl ⟨rfl, rfl⟩))
  · exact Or.inr (Or.inr (Or.inr (Or.inl ⟨q, T, rfl, rfl, rfl⟩)))
  · exact Or.inr (Or.inr (Or.inr (Or.inr (Or.inl ⟨q, T, rfl, rfl, rfl⟩))))
  · exact Or.inr (Or.inr (Or.inr (Or.inr (Or.inr ⟨q, T, rfl, rfl, rfl⟩))))
def srt : List (Nat × Nat) → Prop
  | [] => True
  | q :: T => (∀ a ∈ T, a.1 < q.1) ∧ srt T
/-- an entry of the stack -/
def ent (K : Nat → Nat) (n : Nat) (q : Nat × Nat) : Prop := q.1 < n ∧ ((q.2 = 0 ∧ K q.1 = 3) ∨ (q.2 = 1 ∧ K q.1 = 5 ∧ ∀ p, p < n → K p = 7 → hdp (stk K p) ≠ q.1) ∨ (q.2 = 2 ∧ K q.1 = 5 ∧ ∃ p, p < n ∧ K p = 7 ∧ hdp (stk K p) = q.1))
theorem WF_le {K : Nat → Nat} {n m : Nat} (h : WF K n) (hm : m ≤ n) : WF K m := fun p hp => h p (by omega)
theorem stk_lt {K : Nat → Nat} : ∀ {n : Nat}, WF K n → ∀ q ∈ stk K n, q.1 < n
  | 0, _ => fun q h => by cases h
  | n + 1, hW => by
    have ih := stk_lt (WF_le hW (Nat.le_succ n))
    intro a ha
    have ha' : a ∈ stq (K n) n (stk K n) := ha
    rcases stq_ok (p := n) (hW n (Nat.lt_succ_self n)) with ⟨-, e⟩ | ⟨-, e⟩ | ⟨-, e⟩ | ⟨q, T, hS, -, e⟩ | ⟨q, T, hS, -, e⟩ | ⟨q, T, hS, -, e⟩ <;> rw [e] at ha'
    · exact Nat.lt_succ_of_lt (ih a ha')
    · rcases List.mem_cons.mp ha' with rfl | h
      · exact Nat.lt_succ_self _
      · exact Nat.lt_succ_of_lt (ih a h)
    · rcases List.mem_cons.mp ha' with rfl | h
      · exact Nat.lt_succ_self _
      · exact Nat.lt_succ_of_lt (ih a h)
    · exact Nat.lt_succ_of_lt (ih a (by rw [hS]; exact List.mem_cons_of_mem _ ha'))
    · rcases List.mem_cons.mp ha' with rfl | h
      · exact Nat.lt_succ_of_lt (ih (q, 1) (by rw [hS]; exact List.mem_cons_self ..))
      · exact Nat.lt_succ_of_lt (ih a (by rw [hS]; exact List.mem_cons_of_mem _ h))
    · exact Nat.lt_succ_of_lt (ih a (by rw [hS]; exact List.mem_cons_of_mem _ ha'))
/-- the opener of a closing op -/
theorem hdp_lt {K : Nat → Nat} {n p : Nat} (hW : WF K n) (hp : p < n) (h6 : 6 ≤ K p) : hdp (stk K p) < p := by
  have hl := stk_lt (WF_le hW (Nat.le_of_lt hp))
  rcases hW p hp with h | ⟨h, -⟩ | h | h | ⟨-, q, T, hS⟩ | ⟨-, q, T, hS⟩ | ⟨-, q, T, hS⟩
  · omega
  · omega
  · omega
  · omega
  all_goals
    rw [hS] at hl ⊢
    exact hl _ (List.mem_cons_self ..)
theorem stk_inv {K : Nat → Nat} : ∀ {n : Nat}, WF K n → srt (stk K n) ∧ (∀ q ∈ stk K n, ent K n q) ∧ (∀ p, p < n → K p = 6 ∨ K p = 8 → ∀ q ∈ stk K n, q.1 ≠ hdp (stk K p))
  | 0, _ => ⟨trivial, fun q h => (by cases h), fun p hp => by omega⟩
  | n + 1, hW => by
    have hWn := WF_le hW (Nat.le_succ n)
    obtain ⟨i1, i2, i3⟩ := stk_inv hWn
    have hh : ∀ p, p < n + 1 → 6 ≤ K p → hdp (stk K p) < p := fun p hp h6 => hdp_lt hW hp h6
    -- an older entry stays one, if the new op is no OR of its own
    have old : ∀ q, ent K n q → (K n = 7 → hdp (stk K n) ≠ q.1) → ent K (n + 1) q := by
      rintro q ⟨h1, h2⟩ h7
      refine ⟨Nat.lt_succ_of_lt h1, ?_⟩
      rcases h2 with h | ⟨h, h', h3⟩ | ⟨h, h', p, hp, h3⟩
      · exact Or.inl h
      · refine Or.inr (Or.inl ⟨h, h', fun p hp hk => ?_⟩)
        by_cases e : p = n
        · rw [e] at hk ⊢; exact h7 hk
        · exact h3 p (by omega) hk
      · exact Or.inr (Or.inr ⟨h, h', p, Nat.lt_succ_of_lt hp, h3⟩)
    have e0 : stk K (n + 1) = stq (K n) n (stk K n) := rfl
    rw [e0]
    rcases stq_ok (p := n) (hW n (Nat.lt_succ_self n)) with ⟨hk, e⟩ | ⟨hk, e⟩ | ⟨hk, e⟩ | ⟨q, T, hS, hk, e⟩ | ⟨q, T, hS, hk, e⟩ | ⟨q, T, hS, hk, e⟩ <;> rw [e]
    · refine ⟨i1, fun q hq => old q (i2 q hq) (fun h => by omega), fun p hp h6 q hq => ?_⟩
      by_cases e1 : p = n
      · rw [e1] at h6; omega
      · exact i3 p (by omega) h6 q hq
    · refine ⟨⟨fun a ha => stk_lt hWn a ha, i1⟩, fun q hq => ?_, fun p hp h6 q hq => ?_⟩
      · rcases List.mem_cons.mp hq with rfl | h
        · exact ⟨Nat.lt_succ_self _, Or.inl ⟨rfl, hk⟩⟩
        · exact old q (i2 q h) (fun h => by omega)
      · have hp' : p ≠ n := fun e1 => by rw [e1] at h6; omega
        rcases List.mem_cons.mp hq with rfl | h
        · have := hh p hp (by omega); show n ≠ _; omega
        · exact i3 p (by omega) h6 q h
    · refine ⟨⟨fun a ha => stk_lt hWn a ha, i1⟩, fun q hq => ?_, fun p hp h6 q hq => ?_⟩
      · rcases List.mem_cons.mp hq with rfl | h
        · refine ⟨Nat.lt_succ_self _, Or.inr (Or.inl ⟨rfl, hk, fun p hp h7 => ?_⟩)⟩
          have hp' : p ≠ n := fun e1 => by rw [e1] at h7; omega
          have := hh p hp (by omega); show _ ≠ n; omega
        · exact old q (i2 q h) (fun h => by omega)
      · have hp' : p ≠ n := fun e1 => by rw [e1] at h6; omega
        rcases List.mem_cons.mp hq with rfl | h
        · have := hh p hp (by omega); show n ≠ _; omega
        · exact i3 p (by omega) h6 q h
    · rw [hS] at i1 i2 i3
      refine ⟨i1.2, fun a ha => old a (i2 a (List.mem_cons_of_mem _ ha)) (fun h => by omega), fun p hp h6 a ha => ?_⟩
      by_cases e1 : p = n
      · rw [e1, hS]; have := i1.1 a ha; show a.1 ≠ q; exact Nat.ne_of_lt this
      · exact i3 p (by omega) h6 a (List.mem_cons_of_mem _ ha)
    · have hS' := hS
      rw [hS] at i1 i2 i3
      refine ⟨⟨i1.1, i1.2⟩, fun a ha => ?_, fun p hp h6 a ha => ?_⟩
      · rcases List.mem_cons.mp ha with rfl | h
        · obtain ⟨j1, j2⟩ := i2 (q, 1) (List.mem_cons_self ..)
          refine ⟨Nat.lt_succ_of_lt j1, Or.inr (Or.inr ⟨rfl, ?_, n, Nat.lt_succ_self _, hk, by rw [hS']; rfl⟩)⟩
          rcases j2 with h | ⟨-, h, -⟩ | ⟨-, h, -⟩
          · exact absurd h.1 (by show (1 : Nat) ≠ 0; decide)
          · exact h
          · exact h
        · refine old a (i2 a (List.mem_cons_of_mem _ h)) (fun _ => ?_)
          rw [hS']; have := i1.1 a h; show q ≠ a.1; exact (Nat.ne_of_lt this).symm
      · have hp' : p ≠ n := fun e1 => by rw [e1] at h6; omega
        rcases List.mem_cons.mp ha with rfl | h
        · exact i3 p (by omega) h6 (q, 1) (List.mem_cons_self ..)
        · exact i3 p (by omega) h6 a (List.mem_cons_of_mem _ h)
    · rw [hS] at i1 i2 i3
      refine ⟨i1.2, fun a ha => old a (i2 a (List.mem_cons_of_mem _ ha)) (fun h => by omega), fun p hp h6 a ha => ?_⟩
      by_cases e1 : p = n
      · rw [e1, hS]; have := i1.1 a ha; show a.1 ≠ q; exact Nat.ne_of_lt this
      · exact i3 p (by omega) h6 a (List.mem_cons_of_mem _ ha)
