/-! each kind of word is right: one step of the real machine -/
def ROs (H H' : Hp) : Prop := ∀ k, k < 4 → H'.1 k = H.1 k ∧ H'.2.2.1 k = H.2.2.1 k
theorem ROs.rf {H : Hp} : ROs H H := fun _ _ => ⟨rfl, rfl⟩
theorem ROs.tr {H H1 H2 : Hp} (a : ROs H H1) (b : ROs H1 H2) : ROs H H2 := fun k hk => ⟨(b k hk).1.trans (a k hk).1, (b k hk).2.trans (a k hk).2⟩
theorem GR.rf {H : Hp} : GR H H := ⟨Nat.le_refl _, Nat.le_refl _⟩
theorem GR.tr {H H1 H2 : Hp} (a : GR H H1) (b : GR H1 H2) : GR H H2 := ⟨Nat.le_trans a.1 b.1, Nat.le_trans a.2 b.2⟩
theorem ROK.ro {X : CX} {H H' : Hp} {U : State} {Hc : Heap} (h : ROK X H U Hc) (o : ROs H H') : ROK X H' U Hc := fun r hr => by
  obtain ⟨t, h1, h2, h3, h4⟩ := h r hr
  obtain ⟨e1, e2⟩ := o r (by omega)
  exact ⟨t, h1, h2, by rw [e1]; exact h3, by rw [e1, e2]; exact h4⟩
abbrev RM (m : Nat) (R : Room) (cells slots : Nat) : Prop := frs m ≤ R.frames ∧ los m ≤ R.locals ∧ cells ≤ R.cells ∧ slots ≤ R.slots
def STEP (X : CX) (l : Launch) (m pc n : Nat) (ls : ALs) (st : List AV) (H : Hp) (ls' : ALs) (st' : List AV) (H' : Hp) : Prop :=
  ∀ (p : Program) (e : Env) (R : Room) (s : State) (mid : MethodId) (args : Array Value) (below : List Frame) (meth : Method) (c : Code) (Hc : Heap) (locs : List Loc) (Q : State → Prop) (lsc : Array Slot) (cells slots : Nat),
    CT X m p s mid args meth c → HOK X H Hc → ROK X H s s.heap → ZOK X s s.heap → va_S (AX X) s.heap Hc locs → X.2.2.1 ≤ s.heap.size → lv_has lsc (mxl m) (lvl X 0 ls) → ls.length = mxl m →
    RM m R (cells + (H'.2.1.1 - H.2.1.1)) (slots + (H'.2.1.2 - H.2.1.2)) →
    (∀ (Hc' : Heap) (locs' : List Loc) (lsc' : Array Slot), HOK X H' Hc' → va_S (AX X) s.heap Hc' locs' → lv_has lsc' (mxl m) (lvl X 0 ls') → ls'.length = mxl m →
      W p l e R s mid args below meth c Hc' locs' (cells + (H'.2.1.1 - H.2.1.1)) (slots + (H'.2.1.2 - H.2.1.2)) Q (F0 mid n lsc' (st'.map (cvv X)))) →
    W p l e R s mid args below meth c Hc locs cells slots Q (F0 mid pc lsc (st.map (cvv X)))
theorem stp {X : CX} {l : Launch} {m pc n : Nat} {ls ls' : ALs} {st st' : List AV} {H H1 H' : Hp} {r : Option AV} {gs : GS} (hgs : OKs X l m gs) (h : gs n ls' st' H1 = some (r, H')) (g : GR H H1) (o : ROs H H1) (S : STEP X l m pc n ls st H ls' st' H1) :
    GR H H' ∧ (∀ k, k < 4 → H'.1 k = H.1 k ∧ H'.2.2.1 k = H.2.2.1 k) ∧ WS X l m pc ls st H r H' := by
  obtain ⟨g2, o2, w⟩ := hgs _ _ _ _ _ _ h
  refine ⟨g.tr g2, o.tr o2, ?_⟩
  intro p e R s mid args below meth c Hc locs Q lsc n0 s0 hC hH hR hZ hS hz hl hlen hrm hn0 hs0 hret
  obtain ⟨g21, g22⟩ := g2
  obtain ⟨g11, g12⟩ := g
  have e1 : H.2.1.1 - n0 + (H1.2.1.1 - H.2.1.1) = H1.2.1.1 - n0 := by omega
  have e2 : H.2.1.2 - s0 + (H1.2.1.2 - H.2.1.2) = H1.2.1.2 - s0 := by omega
  refine S p e R s mid args below meth c Hc locs Q lsc _ _ hC hH hR hZ hS hz hl hlen ⟨hrm.1, hrm.2.1, by omega, by omega⟩ fun Hc' locs' lsc' hH' hS' hl' hlen' => ?_
  rw [e1, e2]
  exact w p e R s mid args below meth c Hc' locs' Q lsc' n0 s0 hC hH' (hR.ro o) hZ hS' hz hl' hlen' hrm (by omega) (by omega) hret
theorem si_iP {X : CX} {l : Launch} {m pc n : Nat} {f} (hf : ∀ ls st H q, f ls st H = some q → GR H q.2.2 ∧ ROs H q.2.2 ∧ STEP X l m pc n ls st H q.1 q.2.1 q.2.2) : SI X l m pc (iP n f) := by
  intro gc gs hgc hgs ls st H r H' h
  unfold iP at h
  cases hq : f ls st H with
  | none => rw [hq] at h; cases h
  | some q =>
    rw [hq] at h
    obtain ⟨a, b, c⟩ := hf _ _ _ _ hq
    exact stp hgs h a b c
theorem si_iRI {X : CX} {l : Launch} {m pc n : Nat} {f} (hf : ∀ ls st H v st', f ls st H = some (some v, st') → STEP X l m pc n ls st H ls (.inl v :: st') H) : SI X l m pc (iRI n f) := by
  intro gc gs hgc hgs ls st H r H' h
  unfold iRI at h
  cases hq : f ls st H with
  | none => rw [hq] at h; cases h
  | some q =>
    rw [hq] at h
    obtain ⟨v, h1, h2⟩ := Option.bind_eq_some_iff.mp h
    obtain ⟨q1, q2⟩ := q
    cases h1
    exact stp hgs h2 GR.rf ROs.rf (hf _ _ _ _ _ hq)
theorem si_iRJ {X : CX} {l : Launch} {m pc n : Nat} {f} (hf : ∀ ls st H v st', f ls st H = some (some v, st') → STEP X l m pc n ls st H ls (.inr (.inl v) :: st') H) : SI X l m pc (iRJ n f) := by
  intro gc gs hgc hgs ls st H r H' h
  unfold iRJ at h
  cases hq : f ls st H with
  | none => rw [hq] at h; cases h
  | some q =>
    rw [hq] at h
    obtain ⟨v, h1, h2⟩ := Option.bind_eq_some_iff.mp h
    obtain ⟨q1, q2⟩ := q
    cases h1
    exact stp hgs h2 GR.rf ROs.rf (hf _ _ _ _ _ hq)
theorem si_iRR {X : CX} {l : Launch} {m pc n : Nat} {f} (hf : ∀ ls st H v st', f ls st H = some (some v, st') → STEP X l m pc n ls st H ls (.inr (.inr v) :: st') H) : SI X l m pc (iRR n f) := by
  intro gc gs hgc hgs ls st H r H' h
  unfold iRR at h
  cases hq : f ls st H with
  | none => rw [hq] at h; cases h
  | some q =>
    rw [hq] at h
    obtain ⟨v, h1, h2⟩ := Option.bind_eq_some_iff.mp h
    obtain ⟨q1, q2⟩ := q
    cases h1
    exact stp hgs h2 GR.rf ROs.rf (hf _ _ _ _ _ hq)
theorem si_iW {X : CX} {l : Launch} {m pc n : Nat} {f} (hf : ∀ ls st H H1 st', f ls st H = some (some H1, st') → GR H H1 ∧ ROs H H1 ∧ STEP X l m pc n ls st H ls st' H1) : SI X l m pc (iW n f) := by
  intro gc gs hgc hgs ls st H r H' h
  unfold iW at h
  cases hq : f ls st H with
  | none => rw [hq] at h; cases h
  | some q =>
    rw [hq] at h
    obtain ⟨v, h1, h2⟩ := Option.bind_eq_some_iff.mp h
    obtain ⟨q1, q2⟩ := q
    cases h1
    obtain ⟨a, b, c⟩ := hf _ _ _ _ _ hq
    exact stp hgs h2 a b c
theorem si_iB {X : CX} {l : Launch} {m pc n t : Nat} {f} (hf : ∀ ls st H b st', f st = some (b, st') → STEP X l m pc (if b then t else n) ls st H ls st' H) : SI X l m pc (iB n t f) := by
  intro gc gs hgc hgs ls st H r H' h
  unfold iB at h
  cases hq : f st with
  | none => rw [hq] at h; cases h
  | some q =>
    rw [hq] at h
    obtain ⟨b, st'⟩ := q
    have S := hf ls st H _ _ hq
    cases b
    · exact stp hgs (n := n) h GR.rf ROs.rf S
    · exact stp hgs (n := t) h GR.rf ROs.rf S
/-- a step that leaves the heap alone -/
theorem step_pure {X : CX} {l : Launch} {m pc n : Nat} {ls ls' : ALs} {st st' : List AV} {H : Hp} (hlen : ls'.length = ls.length)
    (h : ∀ (p : Program) (e : Env) (R : Room) (s : State) (mid : MethodId) (args : Array Value) (below : List Frame) (meth : Method) (c : Code) (Hc : Heap) (locs : List Loc) (Q : State → Prop) (lsc : Array Slot) (cells slots : Nat), CT X m p s mid args meth c → HOK X H Hc → ROK X H s s.heap → ZOK X s s.heap → va_S (AX X) s.heap Hc locs → lv_has lsc (mxl m) (lvl X 0 ls) → ls.length = mxl m → RM m R cells slots →
      (∀ lsc' : Array Slot, lv_has lsc' (mxl m) (lvl X 0 ls') → W p l e R s mid args below meth c Hc locs cells slots Q (F0 mid n lsc' (st'.map (cvv X)))) → W p l e R s mid args below meth c Hc locs cells slots Q (F0 mid pc lsc (st.map (cvv X)))) : STEP X l m pc n ls st H ls' st' H := by
  intro p e R s mid args below meth c Hc locs Q lsc cells slots hC hH hR hZ hS hz hl hn hrm k
  rw [Nat.sub_self, Nat.sub_self, Nat.add_zero, Nat.add_zero] at hrm k
  exact h p e R s mid args below meth c Hc locs Q lsc cells slots hC hH hR hZ hS hl hn hrm fun lsc' hl' => k Hc locs lsc' hH hS hl' (hlen.trans hn)
theorem lvl_mem {X : CX} : ∀ {ls : ALs} {i : Nat} {q : Nat × Value}, q ∈ lvl X i ls ↔ ∃ j v, ls[j]? = some (some v) ∧ q = (i + j, cvv X v)
  | [], i, q => by simp [lvl]
  | none :: ls, i, q => by
    unfold lvl
    rw [lvl_mem]
    constructor
    · rintro ⟨j, v, h1, h2⟩
      exact ⟨j + 1, v, by rw [List.getElem?_cons_succ]; exact h1, by rw [h2]; congr 1; omega⟩
    · rintro ⟨j, v, h1, h2⟩
      cases j with
      | zero => cases h1
      | succ j => exact ⟨j, v, by rw [List.getElem?_cons_succ] at h1; exact h1, by rw [h2]; congr 1; omega⟩
  | some w :: ls, i, q => by
    unfold lvl
    rw [List.mem_cons, lvl_mem]
    constructor
    · rintro (h | ⟨j, v, h1, h2⟩)
      · exact ⟨0, w, rfl, h⟩
      · exact ⟨j + 1, v, by rw [List.getElem?_cons_succ]; exact h1, by rw [h2]; congr 1; omega⟩
    · rintro ⟨j, v, h1, h2⟩
      cases j with
      | zero => cases h1; exact Or.inl h2
      | succ j => exact Or.inr ⟨j, v, by rw [List.getElem?_cons_succ] at h1; exact h1, by rw [h2]; congr 1; omega⟩
theorem lv_rd {X : CX} {lsc : Array Slot} {nL : Nat} {ls : ALs} {k : Nat} {v : AV} (h : lv_has lsc nL (lvl X 0 ls)) (hk : ls[k]? = some (some v)) : lsc[k]? = some (.val (cvv X v)) := by
  have := h.2.2 (k, cvv X v) (lvl_mem.mpr ⟨k, v, hk, by rw [Nat.zero_add]⟩)
  exact this
theorem lv_less {lsc : Array Slot} {nL : Nat} {a b : List (Nat × Value)} (h : lv_has lsc nL a) (hs : ∀ q ∈ b, q ∈ a) : lv_has lsc nL b := ⟨h.1, h.2.1, fun q hq => h.2.2 q (hs q hq)⟩
/-- a long that loses its second half is gone -/
def kil (ls : ALs) (k : Nat) : ALs := match k with
  | 0 => ls
  | j + 1 => match ls[j]? with
    | some (some (.inr (.inl _))) => ls.set j none
    | _ => ls
def lset1 (ls : ALs) (k : Nat) (v : AV) : ALs := (kil ls k).set k (some v)
def lset2 (ls : ALs) (k : Nat) (v : AV) : ALs := ((kil ls k).set k (some v)).set (k + 1) none
theorem kil_len (ls : ALs) (k : Nat) : (kil ls k).length = ls.length := by
  unfold kil
  split
  · rfl
  · split <;> simp
theorem kil_get {ls : ALs} {k j : Nat} {w : AV} (h : (kil ls k)[j]? = some (some w)) : ls[j]? = some (some w) ∧ ¬ (j + 1 = k ∧ ∃ x, w = .inr (.inl x)) := by
  unfold kil at h
  split at h
  · exact ⟨h, fun q => by omega⟩
  · rename_i i
    split at h
    · rename_i x hx
      by_cases e : j = i
      · subst e
        rw [List.getElem?_set_self (List.getElem?_eq_some_iff.mp hx).1] at h
        cases h
      · rw [List.getElem?_set_ne (Ne.symm e)] at h
        exact ⟨h, fun q => e (by omega)⟩
    · rename_i hno
      refine ⟨h, ?_⟩
      rintro ⟨q, x, rfl⟩
      have e : j = i := by omega
      subst e
      exact hno _ h
theorem cvv_cat2 {X : CX} {v : AV} : (cvv X v).category = 2 ↔ ∃ x, v = .inr (.inl x) := by
  rcases v with v | v | v
  · simp [cvv, Value.category]
  · simp [cvv, Value.category]
  · constructor
    · intro h
      have h : (va_rf (adr X v)).category = 2 := h
      cases ha : adr X v <;> rw [ha] at h <;> cases h
    · rintro ⟨x, h⟩
      cases h
theorem cvv_cat1 {X : CX} {v : AV} (h : ∀ x, v ≠ .inr (.inl x)) : (cvv X v).category = 1 := by
  rcases lv_cat (cvv X v) with q | q
  · exact q
  · obtain ⟨x, e⟩ := cvv_cat2.mp q
    exact absurd e (h x)
theorem lset1_len (ls : ALs) (k : Nat) (v : AV) : (lset1 ls k v).length = ls.length := by simp [lset1, kil_len]
theorem lset2_len (ls : ALs) (k : Nat) (v : AV) : (lset2 ls k v).length = ls.length := by simp [lset2, kil_len]
theorem lset1_has {X : CX} {lsc : Array Slot} {nL : Nat} {ls : ALs} {k : Nat} {v : AV} (h : lv_has lsc nL ((k, cvv X v) :: (lvl X 0 ls).filter (fun q => !(q.1 == k) && !(q.1 + 1 == k && q.2.category == 2)))) : lv_has lsc nL (lvl X 0 (lset1 ls k v)) := by
  refine lv_less h fun q hq => ?_
  obtain ⟨j, w, h1, rfl⟩ := lvl_mem.mp hq
  unfold lset1 at h1
  rw [Nat.zero_add]
  by_cases e : k = j
  · subst e
    rw [List.getElem?_set] at h1
    split at h1
    · split at h1
      · cases h1; exact List.mem_cons_self
      · cases h1
    · exact absurd rfl ‹¬ _›
  · rw [List.getElem?_set_ne e] at h1
    obtain ⟨h2, h3⟩ := kil_get h1
    refine List.mem_cons_of_mem _ (List.mem_filter.mpr ⟨lvl_mem.mpr ⟨j, w, h2, by rw [Nat.zero_add]⟩, ?_⟩)
    have a : (j == k) = false := by simp; omega
    rw [a]
    cases hb : (j + 1 == k) with
    | false => simp
    | true =>
      have hc : ¬ (cvv X w).category = 2 := fun q => h3 ⟨by simpa using hb, cvv_cat2.mp q⟩
      simp [hc]
theorem lset2_has {X : CX} {lsc : Array Slot} {nL : Nat} {ls : ALs} {k : Nat} {v : AV} (h : lv_has lsc nL ((k, cvv X v) :: (lvl X 0 ls).filter (fun q => !(q.1 == k) && (!(q.1 == k + 1) && !(q.1 + 1 == k && q.2.category == 2))))) : lv_has lsc nL (lvl X 0 (lset2 ls k v)) := by
  refine lv_less h fun q hq => ?_
  obtain ⟨j, w, h1, rfl⟩ := lvl_mem.mp hq
  unfold lset2 at h1
  rw [Nat.zero_add]
  by_cases e2 : k + 1 = j
  · subst e2
    rw [List.getElem?_set] at h1
    split at h1
    · split at h1 <;> cases h1
    · exact absurd rfl ‹¬ _›
  rw [List.getElem?_set_ne e2] at h1
  by_cases e : k = j
  · subst e
    rw [List.getElem?_set] at h1
    split at h1
    · split at h1
      · cases h1; exact List.mem_cons_self
      · cases h1
    · exact absurd rfl ‹¬ _›
  · rw [List.getElem?_set_ne e] at h1
    obtain ⟨h2, h3⟩ := kil_get h1
    refine List.mem_cons_of_mem _ (List.mem_filter.mpr ⟨lvl_mem.mpr ⟨j, w, h2, by rw [Nat.zero_add]⟩, ?_⟩)
    have a : (j == k) = false := by simp; omega
    have a2 : (j == k + 1) = false := by simp; omega
    rw [a, a2]
    cases hb : (j + 1 == k) with
    | false => simp
    | true =>
      have hc : ¬ (cvv X w).category = 2 := fun q => h3 ⟨by simpa using hb, cvv_cat2.mp q⟩
      simp [hc]
/-! constants, loads, stores -/
def fK (v : AV) : ALs → List AV → Hp → Option (ALs × List AV × Hp) := fun ls st H => some (ls, v :: st, H)
def fLd (k : Nat) : ALs → List AV → Hp → Option (ALs × List AV × Hp) := fun ls st H => match ls[k]? with
  | some (some v) => some (ls, v :: st, H)
  | _ => none
def fIst (k : Nat) : ALs → List AV → Hp → Option (ALs × List AV × Hp) := fun ls st H => match st with
  | .inl x :: st => bif Nat.blt k ls.length then some (lset1 ls k (.inl x), st, H) else none
  | _ => none
def fAst (k : Nat) : ALs → List AV → Hp → Option (ALs × List AV × Hp) := fun ls st H => match st with
  | .inr (.inr x) :: st => bif Nat.blt k ls.length then some (lset1 ls k (.inr (.inr x)), st, H) else none
  | _ => none
def fLst (k : Nat) : ALs → List AV → Hp → Option (ALs × List AV × Hp) := fun ls st H => match st with
  | .inr (.inl x) :: st => bif Nat.blt (k + 1) ls.length then some (lset2 ls k (.inr (.inl x)), st, H) else none
  | _ => none
def fInc (k : Nat) (n : Int32) : ALs → List AV → Hp → Option (ALs × List AV × Hp) := fun ls st H => match ls[k]? with
  | some (some (.inl x)) => some (lset1 ls k (.inl (x + n)), st, H)
  | _ => none
/-- loads by type -/
def fIld (k : Nat) : ALs → List AV → Hp → Option (ALs × List AV × Hp) := fun ls st H => match ls[k]? with
  | some (some (.inl v)) => some (ls, .inl v :: st, H)
  | _ => none
def fJld (k : Nat) : ALs → List AV → Hp → Option (ALs × List AV × Hp) := fun ls st H => match ls[k]? with
  | some (some (.inr (.inl v))) => some (ls, .inr (.inl v) :: st, H)
  | _ => none
def fAld (k : Nat) : ALs → List AV → Hp → Option (ALs × List AV × Hp) := fun ls st H => match ls[k]? with
  | some (some (.inr (.inr v))) => some (ls, .inr (.inr v) :: st, H)
  | _ => none

theorem s_iconst {X : CX} {l : Launch} {m pc : Nat} {n : Int} {v : Int32} (hd : decode (cod m) pc = .ok (.iconst n, 1)) (hv : Int32.ofInt n = v) : SI X l m pc (iP (pc + 1) (fK (.inl v))) := by
  refine si_iP fun ls st H q h => ?_
  cases h
  refine ⟨GR.rf, ROs.rf, step_pure rfl fun p e R s mid args below meth c Hc locs Q lsc cells slots hC hH hR hZ hS hl hn hrm k => ?_⟩
  exact lv_iconst hC.1 hC.2.1 hd hv (k lsc hl)
theorem s_bipush {X : CX} {l : Launch} {m pc : Nat} {n : Int} {v : Int32} (hd : decode (cod m) pc = .ok (.bipush n, 2)) (hv : (Int8.ofInt n).toInt32 = v) : SI X l m pc (iP (pc + 2) (fK (.inl v))) := by
  refine si_iP fun ls st H q h => ?_
  cases h
  refine ⟨GR.rf, ROs.rf, step_pure rfl fun p e R s mid args below meth c Hc locs Q lsc cells slots hC hH hR hZ hS hl hn hrm k => ?_⟩
  exact lv_bipush hC.1 hC.2.1 hd hv (k lsc hl)
theorem s_sipush {X : CX} {l : Launch} {m pc : Nat} {n : Int} {v : Int32} (hd : decode (cod m) pc = .ok (.sipush n, 3)) (hv : (Int16.ofInt n).toInt32 = v) : SI X l m pc (iP (pc + 3) (fK (.inl v))) := by
  refine si_iP fun ls st H q h => ?_
  cases h
  refine ⟨GR.rf, ROs.rf, step_pure rfl fun p e R s mid args below meth c Hc locs Q lsc cells slots hC hH hR hZ hS hl hn hrm k => ?_⟩
  exact lv_sipush hC.1 hC.2.1 hd hv (k lsc hl)
theorem s_lconst {X : CX} {l : Launch} {m pc : Nat} {n : Fin 2} {v : Int64} (hd : decode (cod m) pc = .ok (.lconst n, 1)) (hv : Int64.ofNat (n : Nat) = v) : SI X l m pc (iP (pc + 1) (fK (.inr (.inl v)))) := by
  refine si_iP fun ls st H q h => ?_
  cases h
  refine ⟨GR.rf, ROs.rf, step_pure rfl fun p e R s mid args below meth c Hc locs Q lsc cells slots hC hH hR hZ hS hl hn hrm k => ?_⟩
  exact lv_lconst hC.1 hC.2.1 hd hv (k lsc hl)
theorem s_null {X : CX} {l : Launch} {m pc : Nat}  (hd : decode (cod m) pc = .ok (.aconst_null, 1))  : SI X l m pc (iP (pc + 1) (fK (.inr (.inr 0)))) := by
  refine si_iP fun ls st H q h => ?_
  cases h
  refine ⟨GR.rf, ROs.rf, step_pure rfl fun p e R s mid args below meth c Hc locs Q lsc cells slots hC hH hR hZ hS hl hn hrm k => ?_⟩
  exact lv_null hC.1 hC.2.1 hd (k lsc hl)
theorem s_ldc {X : CX} {l : Launch} {m pc : Nat} {i : Nat} {v : Int32} (hd : decode (cod m) pc = .ok (.ldc i, 2)) (hw : Cond.constant (yn m).cls i v ∈ GT) : SI X l m pc (iP (pc + 2) (fK (.inl v))) := by
  refine si_iP fun ls st H q h => ?_
  cases h
  refine ⟨GR.rf, ROs.rf, step_pure rfl fun p e R s mid args below meth c Hc locs Q lsc cells slots hC hH hR hZ hS hl hn hrm k => ?_⟩
  exact lv_ldc hC.1 hC.2.1 hC.2.2.2.1 (hC.2.2.2.2.1 _ hw) hd (k lsc hl)
theorem s_ldcw {X : CX} {l : Launch} {m pc : Nat} {i : Nat} {v : Int32} (hd : decode (cod m) pc = .ok (.ldc_w i, 3)) (hw : Cond.constant (yn m).cls i v ∈ GT) : SI X l m pc (iP (pc + 3) (fK (.inl v))) := by
  refine si_iP fun ls st H q h => ?_
  cases h
  refine ⟨GR.rf, ROs.rf, step_pure rfl fun p e R s mid args below meth c Hc locs Q lsc cells slots hC hH hR hZ hS hl hn hrm k => ?_⟩
  exact lv_ldcw hC.1 hC.2.1 hC.2.2.2.1 (hC.2.2.2.2.1 _ hw) hd (k lsc hl)
theorem s_ldc2 {X : CX} {l : Launch} {m pc : Nat} {i : Nat} {v : Int64} (hd : decode (cod m) pc = .ok (.ldc2_w i, 3)) (hw : Cond.constantLong (yn m).cls i v ∈ GT) : SI X l m pc (iP (pc + 3) (fK (.inr (.inl v)))) := by
  refine si_iP fun ls st H q h => ?_
  cases h
  refine ⟨GR.rf, ROs.rf, step_pure rfl fun p e R s mid args below meth c Hc locs Q lsc cells slots hC hH hR hZ hS hl hn hrm k => ?_⟩
  exact lv_ldc2 hC.1 hC.2.1 hC.2.2.2.1 (hC.2.2.2.2.1 _ hw) hd (k lsc hl)
theorem s_iload_n {X : CX} {l : Launch} {m pc : Nat} {k : Fin 4} (hd : decode (cod m) pc = .ok (.iload_n k, 1)) : SI X l m pc (iP (pc + 1) (fIld (k : Nat))) := by
  refine si_iP fun ls st H q h => ?_
  unfold fIld at h
  split at h
  · rename_i v hv
    cases h
    refine ⟨GR.rf, ROs.rf, step_pure rfl fun p e R s mid args below meth c Hc locs Q lsc cells slots hC hH hR hZ hS hl hn hrm k0 => ?_⟩
    have hr := lv_rd hl hv
    exact lv_iload_n hC.1 hC.2.1 hd rfl hr (k0 lsc hl)
  · cases h
theorem s_iload {X : CX} {l : Launch} {m pc : Nat} {k : Nat} (hd : decode (cod m) pc = .ok (.iload k, 2)) : SI X l m pc (iP (pc + 2) (fIld k)) := by
  refine si_iP fun ls st H q h => ?_
  unfold fIld at h
  split at h
  · rename_i v hv
    cases h
    refine ⟨GR.rf, ROs.rf, step_pure rfl fun p e R s mid args below meth c Hc locs Q lsc cells slots hC hH hR hZ hS hl hn hrm k0 => ?_⟩
    have hr := lv_rd hl hv
    exact lv_iload hC.1 hC.2.1 hd hr (k0 lsc hl)
  · cases h
theorem s_lload_n {X : CX} {l : Launch} {m pc : Nat} {k : Fin 4} (hd : decode (cod m) pc = .ok (.lload_n k, 1)) : SI X l m pc (iP (pc + 1) (fJld (k : Nat))) := by
  refine si_iP fun ls st H q h => ?_
  unfold fJld at h
  split at h
  · rename_i v hv
    cases h
    refine ⟨GR.rf, ROs.rf, step_pure rfl fun p e R s mid args below meth c Hc locs Q lsc cells slots hC hH hR hZ hS hl hn hrm k0 => ?_⟩
    have hr := lv_rd hl hv
    exact lv_lload_n hC.1 hC.2.1 hd rfl hr (k0 lsc hl)
  · cases h
theorem s_lload {X : CX} {l : Launch} {m pc : Nat} {k : Nat} (hd : decode (cod m) pc = .ok (.lload k, 2)) : SI X l m pc (iP (pc + 2) (fJld k)) := by
  refine si_iP fun ls st H q h => ?_
  unfold fJld at h
  split at h
  · rename_i v hv
    cases h
    refine ⟨GR.rf, ROs.rf, step_pure rfl fun p e R s mid args below meth c Hc locs Q lsc cells slots hC hH hR hZ hS hl hn hrm k0 => ?_⟩
    have hr := lv_rd hl hv
    exact lv_lload hC.1 hC.2.1 hd hr (k0 lsc hl)
  · cases h
theorem s_aload_n {X : CX} {l : Launch} {m pc : Nat} {k : Fin 4} (hd : decode (cod m) pc = .ok (.aload_n k, 1)) : SI X l m pc (iP (pc + 1) (fAld (k : Nat))) := by
  refine si_iP fun ls st H q h => ?_
  unfold fAld at h
  split at h
  · rename_i v hv
    cases h
    refine ⟨GR.rf, ROs.rf, step_pure rfl fun p e R s mid args below meth c Hc locs Q lsc cells slots hC hH hR hZ hS hl hn hrm k0 => ?_⟩
    have hr := lv_rd hl hv
    have k1 := k0 lsc hl
    simp only [List.map_cons, cvv] at hr k1 ⊢
    cases ha : adr X v with
    | none => rw [ha] at hr k1; exact lv_aload_nN hC.1 hC.2.1 hd rfl hr k1
    | some a => rw [ha] at hr k1; exact lv_aload_n hC.1 hC.2.1 hd rfl hr k1
  · cases h
theorem s_aload {X : CX} {l : Launch} {m pc : Nat} {k : Nat} (hd : decode (cod m) pc = .ok (.aload k, 2)) : SI X l m pc (iP (pc + 2) (fAld k)) := by
  refine si_iP fun ls st H q h => ?_
  unfold fAld at h
  split at h
  · rename_i v hv
    cases h
    refine ⟨GR.rf, ROs.rf, step_pure rfl fun p e R s mid args below meth c Hc locs Q lsc cells slots hC hH hR hZ hS hl hn hrm k0 => ?_⟩
    have hr := lv_rd hl hv
    have k1 := k0 lsc hl
    simp only [List.map_cons, cvv] at hr k1 ⊢
    cases ha : adr X v with
    | none => rw [ha] at hr k1; exact lv_aloadN hC.1 hC.2.1 hd hr k1
    | some a => rw [ha] at hr k1; exact lv_aload hC.1 hC.2.1 hd hr k1
  · cases h
theorem s_istore_n {X : CX} {l : Launch} {m pc : Nat} {k : Fin 4} (hd : decode (cod m) pc = .ok (.istore_n k, 1)) : SI X l m pc (iP (pc + 1) (fIst (k : Nat))) := by
  refine si_iP fun ls st H q h => ?_
  unfold fIst at h
  split at h
  · rename_i x st'
    cases hb : Nat.blt (k : Nat) ls.length with
    | false => rw [hb] at h; cases h
    | true =>
      rw [hb] at h
      cases h
      have hb : (k : Nat) < ls.length := Nat.le_of_ble_eq_true hb
      refine ⟨GR.rf, ROs.rf, step_pure (lset1_len _ _ _) fun p e R s mid args below meth c Hc locs Q lsc cells slots hC hH hR hZ hS hl hn hrm k0 => ?_⟩
      exact lv_istore_n hC.1 hC.2.1 hd rfl hl (by omega) rfl (fun ls1 h1 => k0 ls1 (lset1_has h1))
  · cases h
theorem s_istore {X : CX} {l : Launch} {m pc : Nat} {k : Nat} (hd : decode (cod m) pc = .ok (.istore k, 2)) : SI X l m pc (iP (pc + 2) (fIst k)) := by
  refine si_iP fun ls st H q h => ?_
  unfold fIst at h
  split at h
  · rename_i x st'
    cases hb : Nat.blt k ls.length with
    | false => rw [hb] at h; cases h
    | true =>
      rw [hb] at h
      cases h
      have hb : k < ls.length := Nat.le_of_ble_eq_true hb
      refine ⟨GR.rf, ROs.rf, step_pure (lset1_len _ _ _) fun p e R s mid args below meth c Hc locs Q lsc cells slots hC hH hR hZ hS hl hn hrm k0 => ?_⟩
      exact lv_istore hC.1 hC.2.1 hd hl (by omega) rfl (fun ls1 h1 => k0 ls1 (lset1_has h1))
  · cases h
theorem s_lstore_n {X : CX} {l : Launch} {m pc : Nat} {k : Fin 4} (hd : decode (cod m) pc = .ok (.lstore_n k, 1)) : SI X l m pc (iP (pc + 1) (fLst (k : Nat))) := by
  refine si_iP fun ls st H q h => ?_
  unfold fLst at h
  split at h
  · rename_i x st'
    cases hb : Nat.blt ((k : Nat) + 1) ls.length with
    | false => rw [hb] at h; cases h
    | true =>
      rw [hb] at h
      cases h
      have hb : ((k : Nat) + 1) < ls.length := Nat.le_of_ble_eq_true hb
      refine ⟨GR.rf, ROs.rf, step_pure (lset2_len _ _ _) fun p e R s mid args below meth c Hc locs Q lsc cells slots hC hH hR hZ hS hl hn hrm k0 => ?_⟩
      exact lv_lstore_n hC.1 hC.2.1 hd rfl hl (by omega) rfl (fun ls1 h1 => k0 ls1 (lset2_has h1))
  · cases h
theorem s_lstore {X : CX} {l : Launch} {m pc : Nat} {k : Nat} (hd : decode (cod m) pc = .ok (.lstore k, 2)) : SI X l m pc (iP (pc + 2) (fLst k)) := by
  refine si_iP fun ls st H q h => ?_
  unfold fLst at h
  split at h
  · rename_i x st'
    cases hb : Nat.blt (k + 1) ls.length with
    | false => rw [hb] at h; cases h
    | true =>
      rw [hb] at h
      cases h
      have hb : (k + 1) < ls.length := Nat.le_of_ble_eq_true hb
      refine ⟨GR.rf, ROs.rf, step_pure (lset2_len _ _ _) fun p e R s mid args below meth c Hc locs Q lsc cells slots hC hH hR hZ hS hl hn hrm k0 => ?_⟩
      exact lv_lstore hC.1 hC.2.1 hd hl (by omega) rfl (fun ls1 h1 => k0 ls1 (lset2_has h1))
  · cases h
theorem s_astore_n {X : CX} {l : Launch} {m pc : Nat} {k : Fin 4} (hd : decode (cod m) pc = .ok (.astore_n k, 1)) : SI X l m pc (iP (pc + 1) (fAst (k : Nat))) := by
  refine si_iP fun ls st H q h => ?_
  unfold fAst at h
  split at h
  · rename_i x st'
    cases hb : Nat.blt (k : Nat) ls.length with
    | false => rw [hb] at h; cases h
    | true =>
      rw [hb] at h
      cases h
      have hb : (k : Nat) < ls.length := Nat.le_of_ble_eq_true hb
      refine ⟨GR.rf, ROs.rf, step_pure (lset1_len _ _ _) fun p e R s mid args below meth c Hc locs Q lsc cells slots hC hH hR hZ hS hl hn hrm k0 => ?_⟩
      simp only [List.map_cons, cvv]
      cases ha : adr X x with
      | none => exact lv_astore_nN hC.1 hC.2.1 hd rfl hl (by omega) rfl (fun ls1 h1 => k0 ls1 (lset1_has (by simp only [cvv, ha]; exact h1)))
      | some a => exact lv_astore_n hC.1 hC.2.1 hd rfl hl (by omega) rfl (fun ls1 h1 => k0 ls1 (lset1_has (by simp only [cvv, ha]; exact h1)))
  · cases h
theorem s_astore {X : CX} {l : Launch} {m pc : Nat} {k : Nat} (hd : decode (cod m) pc = .ok (.astore k, 2)) : SI X l m pc (iP (pc + 2) (fAst k)) := by
  refine si_iP fun ls st H q h => ?_
  unfold fAst at h
  split at h
  · rename_i x st'
    cases hb : Nat.blt k ls.length with
    | false => rw [hb] at h; cases h
    | true =>
      rw [hb] at h
      cases h
      have hb : k < ls.length := Nat.le_of_ble_eq_true hb
      refine ⟨GR.rf, ROs.rf, step_pure (lset1_len _ _ _) fun p e R s mid args below meth c Hc locs Q lsc cells slots hC hH hR hZ hS hl hn hrm k0 => ?_⟩
      simp only [List.map_cons, cvv]
      cases ha : adr X x with
      | none => exact lv_astoreN hC.1 hC.2.1 hd hl (by omega) rfl (fun ls1 h1 => k0 ls1 (lset1_has (by simp only [cvv, ha]; exact h1)))
      | some a => exact lv_astore hC.1 hC.2.1 hd hl (by omega) rfl (fun ls1 h1 => k0 ls1 (lset1_has (by simp only [cvv, ha]; exact h1)))
  · cases h
theorem s_iinc {X : CX} {l : Launch} {m pc : Nat} {k : Nat} {n : Int} {v : Int32} (hd : decode (cod m) pc = .ok (.iinc k n, 3)) (hv : Int32.ofInt n = v) : SI X l m pc (iP (pc + 3) (fInc k v)) := by
  refine si_iP fun ls st H q h => ?_
  unfold fInc at h
  split at h
  · rename_i x hx
    cases h
    refine ⟨GR.rf, ROs.rf, step_pure (lset1_len _ _ _) fun p e R s mid args below meth c Hc locs Q lsc cells slots hC hH hR hZ hS hl hn hrm k0 => ?_⟩
    have hb : k < ls.length := (List.getElem?_eq_some_iff.mp hx).1
    obtain ⟨j, hj⟩ := List.getElem?_of_mem (lvl_mem (X := X) (i := 0).mpr ⟨k, _, hx, rfl⟩)
    rw [Nat.zero_add] at hj
    exact lv_iinc hC.1 hC.2.1 hd hl hj (by rw [hv]) (by omega) rfl (fun ls1 h1 => k0 ls1 (lset1_has h1))
  · cases h
def f2I (op : Int32 → Int32 → Int32) : ALs → List AV → Hp → Option (ALs × List AV × Hp) := fun ls st H => match st with
  | .inl y :: .inl x :: st => some (ls, .inl (op x y) :: st, H)
  | _ => none
def f2J (op : Int64 → Int64 → Int64) : ALs → List AV → Hp → Option (ALs × List AV × Hp) := fun ls st H => match st with
  | .inr (.inl y) :: .inr (.inl x) :: st => some (ls, .inr (.inl (op x y)) :: st, H)
  | _ => none
def fLneg : ALs → List AV → Hp → Option (ALs × List AV × Hp) := fun ls st H => match st with
  | .inr (.inl x) :: st => some (ls, .inr (.inl (-x)) :: st, H)
  | _ => none
def fLabs : ALs → List AV → Hp → Option (ALs × List AV × Hp) := fun ls st H => match st with
  | .inr (.inl x) :: st => some (ls, .inr (.inl (if 0 < x then x else -x)) :: st, H)
  | _ => none
def fLcmp : ALs → List AV → Hp → Option (ALs × List AV × Hp) := fun ls st H => match st with
  | .inr (.inl y) :: .inr (.inl x) :: st => some (ls, .inl (lg_cmp x y) :: st, H)
  | _ => none
def fI2l : ALs → List AV → Hp → Option (ALs × List AV × Hp) := fun ls st H => match st with
  | .inl x :: st => some (ls, .inr (.inl x.toInt64) :: st, H)
  | _ => none
def fL2i : ALs → List AV → Hp → Option (ALs × List AV × Hp) := fun ls st H => match st with
  | .inr (.inl x) :: st => some (ls, .inl x.toInt32 :: st, H)
  | _ => none
def fDup : ALs → List AV → Hp → Option (ALs × List AV × Hp) := fun ls st H => match st with
  | .inl x :: st => some (ls, .inl x :: .inl x :: st, H)
  | .inr (.inr x) :: st => some (ls, .inr (.inr x) :: .inr (.inr x) :: st, H)
  | _ => none
def fDup2 : ALs → List AV → Hp → Option (ALs × List AV × Hp) := fun ls st H => match st with
  | .inr (.inl x) :: st => some (ls, .inr (.inl x) :: .inr (.inl x) :: st, H)
  | .inl x :: .inr (.inr y) :: st => some (ls, .inl x :: .inr (.inr y) :: .inl x :: .inr (.inr y) :: st, H)
  | .inl x :: .inl y :: st => some (ls, .inl x :: .inl y :: .inl x :: .inl y :: st, H)
  | _ => none
def fGo : ALs → List AV → Hp → Option (ALs × List AV × Hp) := fun ls st H => some (ls, st, H)
def q2I (op : Int32 → Int32 → Int32) : ALs → List AV → Hp → Option (Option Int32 × List AV) := fun _ st _ => match st with
  | .inl y :: .inl x :: st => some (if y = 0 then none else some (op x y), st)
  | _ => none
def q2J (op : Int64 → Int64 → Int64) : ALs → List AV → Hp → Option (Option Int64 × List AV) := fun _ st _ => match st with
  | .inr (.inl y) :: .inr (.inl x) :: st => some (if y = 0 then none else some (op x y), st)
  | _ => none
theorem s_iadd {X : CX} {l : Launch} {m pc : Nat} (hd : decode (cod m) pc = .ok (.iadd, 1)) : SI X l m pc (iP (pc + 1) (f2I (fun x y => x + y))) := by
  refine si_iP fun ls st H q h => ?_
  unfold f2I at h
  split at h
  · cases h
    refine ⟨GR.rf, ROs.rf, step_pure rfl fun p e R s mid args below meth c Hc locs Q lsc cells slots hC hH hR hZ hS hl hn hrm k0 => ?_⟩
    exact lv_iadd hC.1 hC.2.1 hd (k0 lsc hl)
  · cases h
theorem s_isub {X : CX} {l : Launch} {m pc : Nat} (hd : decode (cod m) pc = .ok (.isub, 1)) : SI X l m pc (iP (pc + 1) (f2I (fun x y => x - y))) := by
  refine si_iP fun ls st H q h => ?_
  unfold f2I at h
  split at h
  · cases h
    refine ⟨GR.rf, ROs.rf, step_pure rfl fun p e R s mid args below meth c Hc locs Q lsc cells slots hC hH hR hZ hS hl hn hrm k0 => ?_⟩
    exact lv_isub hC.1 hC.2.1 hd (k0 lsc hl)
  · cases h
theorem s_imul {X : CX} {l : Launch} {m pc : Nat} (hd : decode (cod m) pc = .ok (.imul, 1)) : SI X l m pc (iP (pc + 1) (f2I (fun x y => x * y))) := by
  refine si_iP fun ls st H q h => ?_
  unfold f2I at h
  split at h
  · cases h
    refine ⟨GR.rf, ROs.rf, step_pure rfl fun p e R s mid args below meth c Hc locs Q lsc cells slots hC hH hR hZ hS hl hn hrm k0 => ?_⟩
    exact lv_imul hC.1 hC.2.1 hd (k0 lsc hl)
  · cases h
theorem s_iand {X : CX} {l : Launch} {m pc : Nat} (hd : decode (cod m) pc = .ok (.iand, 1)) : SI X l m pc (iP (pc + 1) (f2I (fun x y => x &&& y))) := by
  refine si_iP fun ls st H q h => ?_
  unfold f2I at h
  split at h
  · cases h
    refine ⟨GR.rf, ROs.rf, step_pure rfl fun p e R s mid args below meth c Hc locs Q lsc cells slots hC hH hR hZ hS hl hn hrm k0 => ?_⟩
    exact lv_iand hC.1 hC.2.1 hd (k0 lsc hl)
  · cases h
theorem s_ior {X : CX} {l : Launch} {m pc : Nat} (hd : decode (cod m) pc = .ok (.ior, 1)) : SI X l m pc (iP (pc + 1) (f2I (fun x y => x ||| y))) := by
  refine si_iP fun ls st H q h => ?_
  unfold f2I at h
  split at h
  · cases h
    refine ⟨GR.rf, ROs.rf, step_pure rfl fun p e R s mid args below meth c Hc locs Q lsc cells slots hC hH hR hZ hS hl hn hrm k0 => ?_⟩
    exact lv_ior hC.1 hC.2.1 hd (k0 lsc hl)
  · cases h
theorem s_ishl {X : CX} {l : Launch} {m pc : Nat} (hd : decode (cod m) pc = .ok (.ishl, 1)) : SI X l m pc (iP (pc + 1) (f2I (fun x y => x <<< (y &&& 31)))) := by
  refine si_iP fun ls st H q h => ?_
  unfold f2I at h
  split at h
  · cases h
    refine ⟨GR.rf, ROs.rf, step_pure rfl fun p e R s mid args below meth c Hc locs Q lsc cells slots hC hH hR hZ hS hl hn hrm k0 => ?_⟩
    exact lv_ishl hC.1 hC.2.1 hd (k0 lsc hl)
  · cases h
theorem s_ishr {X : CX} {l : Launch} {m pc : Nat} (hd : decode (cod m) pc = .ok (.ishr, 1)) : SI X l m pc (iP (pc + 1) (f2I (fun x y => x >>> (y &&& 31)))) := by
  refine si_iP fun ls st H q h => ?_
  unfold f2I at h
  split at h
  · cases h
    refine ⟨GR.rf, ROs.rf, step_pure rfl fun p e R s mid args below meth c Hc locs Q lsc cells slots hC hH hR hZ hS hl hn hrm k0 => ?_⟩
    exact lv_ishr hC.1 hC.2.1 hd (k0 lsc hl)
  · cases h
theorem s_ladd {X : CX} {l : Launch} {m pc : Nat} (hd : decode (cod m) pc = .ok (.ladd, 1)) : SI X l m pc (iP (pc + 1) (f2J (fun x y => x + y))) := by
  refine si_iP fun ls st H q h => ?_
  unfold f2J at h
  split at h
  · cases h
    refine ⟨GR.rf, ROs.rf, step_pure rfl fun p e R s mid args below meth c Hc locs Q lsc cells slots hC hH hR hZ hS hl hn hrm k0 => ?_⟩
    exact lv_ladd hC.1 hC.2.1 hd (k0 lsc hl)
  · cases h
theorem s_lsub {X : CX} {l : Launch} {m pc : Nat} (hd : decode (cod m) pc = .ok (.lsub, 1)) : SI X l m pc (iP (pc + 1) (f2J (fun x y => x - y))) := by
  refine si_iP fun ls st H q h => ?_
  unfold f2J at h
  split at h
  · cases h
    refine ⟨GR.rf, ROs.rf, step_pure rfl fun p e R s mid args below meth c Hc locs Q lsc cells slots hC hH hR hZ hS hl hn hrm k0 => ?_⟩
    exact lv_lsub hC.1 hC.2.1 hd (k0 lsc hl)
  · cases h
theorem s_lmul {X : CX} {l : Launch} {m pc : Nat} (hd : decode (cod m) pc = .ok (.lmul, 1)) : SI X l m pc (iP (pc + 1) (f2J (fun x y => x * y))) := by
  refine si_iP fun ls st H q h => ?_
  unfold f2J at h
  split at h
  · cases h
    refine ⟨GR.rf, ROs.rf, step_pure rfl fun p e R s mid args below meth c Hc locs Q lsc cells slots hC hH hR hZ hS hl hn hrm k0 => ?_⟩
    exact lv_lmul hC.1 hC.2.1 hd (k0 lsc hl)
  · cases h
theorem s_lxor {X : CX} {l : Launch} {m pc : Nat} (hd : decode (cod m) pc = .ok (.lxor, 1)) : SI X l m pc (iP (pc + 1) (f2J (fun x y => x ^^^ y))) := by
  refine si_iP fun ls st H q h => ?_
  unfold f2J at h
  split at h
  · cases h
    refine ⟨GR.rf, ROs.rf, step_pure rfl fun p e R s mid args below meth c Hc locs Q lsc cells slots hC hH hR hZ hS hl hn hrm k0 => ?_⟩
    exact lv_lxor hC.1 hC.2.1 hd (k0 lsc hl)
  · cases h
theorem s_lneg {X : CX} {l : Launch} {m pc : Nat} (hd : decode (cod m) pc = .ok (.lneg, 1)) : SI X l m pc (iP (pc + 1) (fLneg)) := by
  refine si_iP fun ls st H q h => ?_
  unfold fLneg at h
  split at h
  · cases h
    refine ⟨GR.rf, ROs.rf, step_pure rfl fun p e R s mid args below meth c Hc locs Q lsc cells slots hC hH hR hZ hS hl hn hrm k0 => ?_⟩
    exact lv_lneg hC.1 hC.2.1 hd (k0 lsc hl)
  · cases h
theorem s_i2l {X : CX} {l : Launch} {m pc : Nat} (hd : decode (cod m) pc = .ok (.i2l, 1)) : SI X l m pc (iP (pc + 1) (fI2l)) := by
  refine si_iP fun ls st H q h => ?_
  unfold fI2l at h
  split at h
  · cases h
    refine ⟨GR.rf, ROs.rf, step_pure rfl fun p e R s mid args below meth c Hc locs Q lsc cells slots hC hH hR hZ hS hl hn hrm k0 => ?_⟩
    exact lv_i2l hC.1 hC.2.1 hd rfl (k0 lsc hl)
  · cases h
theorem s_l2i {X : CX} {l : Launch} {m pc : Nat} (hd : decode (cod m) pc = .ok (.l2i, 1)) : SI X l m pc (iP (pc + 1) (fL2i)) := by
  refine si_iP fun ls st H q h => ?_
  unfold fL2i at h
  split at h
  · cases h
    refine ⟨GR.rf, ROs.rf, step_pure rfl fun p e R s mid args below meth c Hc locs Q lsc cells slots hC hH hR hZ hS hl hn hrm k0 => ?_⟩
    exact lv_l2i hC.1 hC.2.1 hd rfl (k0 lsc hl)
  · cases h
theorem s_lcmp {X : CX} {l : Launch} {m pc : Nat} (hd : decode (cod m) pc = .ok (.lcmp, 1)) : SI X l m pc (iP (pc + 1) (fLcmp)) := by
  refine si_iP fun ls st H q h => ?_
  unfold fLcmp at h
  split at h
  · cases h
    refine ⟨GR.rf, ROs.rf, step_pure rfl fun p e R s mid args below meth c Hc locs Q lsc cells slots hC hH hR hZ hS hl hn hrm k0 => ?_⟩
    exact W.lcmp hC.1 hC.2.1 hd (k0 lsc hl)
  · cases h
theorem s_idiv {X : CX} {l : Launch} {m pc : Nat} (hd : decode (cod m) pc = .ok (.idiv, 1)) : SI X l m pc (iRI (pc + 1) (q2I (fun x y => x / y))) := by
  refine si_iRI fun ls st H v st' h => ?_
  unfold q2I at h
  split at h
  · rename_i y x st2
    by_cases hy : y = 0
    · rw [if_pos hy] at h; simp at h
    · rw [if_neg hy] at h
      cases h
      refine step_pure rfl fun p e R s mid args below meth c Hc locs Q lsc cells slots hC hH hR hZ hS hl hn hrm k0 => ?_
      exact lv_idiv hC.1 hC.2.1 hd hy (k0 lsc hl)
  · cases h
theorem s_irem {X : CX} {l : Launch} {m pc : Nat} (hd : decode (cod m) pc = .ok (.irem, 1)) : SI X l m pc (iRI (pc + 1) (q2I (fun x y => x - x / y * y))) := by
  refine si_iRI fun ls st H v st' h => ?_
  unfold q2I at h
  split at h
  · rename_i y x st2
    by_cases hy : y = 0
    · rw [if_pos hy] at h; simp at h
    · rw [if_neg hy] at h
      cases h
      refine step_pure rfl fun p e R s mid args below meth c Hc locs Q lsc cells slots hC hH hR hZ hS hl hn hrm k0 => ?_
      exact lv_irem hC.1 hC.2.1 hd hy (k0 lsc hl)
  · cases h
theorem s_ldiv {X : CX} {l : Launch} {m pc : Nat} (hd : decode (cod m) pc = .ok (.ldiv, 1)) : SI X l m pc (iRJ (pc + 1) (q2J (fun x y => x / y))) := by
  refine si_iRJ fun ls st H v st' h => ?_
  unfold q2J at h
  split at h
  · rename_i y x st2
    by_cases hy : y = 0
    · rw [if_pos hy] at h; simp at h
    · rw [if_neg hy] at h
      cases h
      refine step_pure rfl fun p e R s mid args below meth c Hc locs Q lsc cells slots hC hH hR hZ hS hl hn hrm k0 => ?_
      exact lv_ldiv hC.1 hC.2.1 hd hy (k0 lsc hl)
  · cases h
theorem s_lrem {X : CX} {l : Launch} {m pc : Nat} (hd : decode (cod m) pc = .ok (.lrem, 1)) : SI X l m pc (iRJ (pc + 1) (q2J (fun x y => x - x / y * y))) := by
  refine si_iRJ fun ls st H v st' h => ?_
  unfold q2J at h
  split at h
  · rename_i y x st2
    by_cases hy : y = 0
    · rw [if_pos hy] at h; simp at h
    · rw [if_neg hy] at h
      cases h
      refine step_pure rfl fun p e R s mid args below meth c Hc locs Q lsc cells slots hC hH hR hZ hS hl hn hrm k0 => ?_
      exact lv_lrem hC.1 hC.2.1 hd hy (k0 lsc hl)
  · cases h
theorem s_dup {X : CX} {l : Launch} {m pc : Nat} (hd : decode (cod m) pc = .ok (.dup, 1)) : SI X l m pc (iP (pc + 1) fDup) := by
  refine si_iP fun ls st H q h => ?_
  unfold fDup at h
  split at h
  · cases h
    refine ⟨GR.rf, ROs.rf, step_pure rfl fun p e R s mid args below meth c Hc locs Q lsc cells slots hC hH hR hZ hS hl hn hrm k0 => ?_⟩
    exact lv_dup hC.1 hC.2.1 hd rfl (k0 lsc hl)
  · rename_i x st2
    cases h
    refine ⟨GR.rf, ROs.rf, step_pure rfl fun p e R s mid args below meth c Hc locs Q lsc cells slots hC hH hR hZ hS hl hn hrm k0 => ?_⟩
    exact lv_dup hC.1 hC.2.1 hd (cvv_cat1 (v := .inr (.inr x)) (fun _ q => by cases q)) (k0 lsc hl)
  · cases h
theorem s_dup2 {X : CX} {l : Launch} {m pc : Nat} (hd : decode (cod m) pc = .ok (.dup2, 1)) : SI X l m pc (iP (pc + 1) fDup2) := by
  refine si_iP fun ls st H q h => ?_
  unfold fDup2 at h
  split at h
  · cases h
    refine ⟨GR.rf, ROs.rf, step_pure rfl fun p e R s mid args below meth c Hc locs Q lsc cells slots hC hH hR hZ hS hl hn hrm k0 => ?_⟩
    exact lv_dup2_2 hC.1 hC.2.1 hd rfl (k0 lsc hl)
  · rename_i x y st2
    cases h
    refine ⟨GR.rf, ROs.rf, step_pure rfl fun p e R s mid args below meth c Hc locs Q lsc cells slots hC hH hR hZ hS hl hn hrm k0 => ?_⟩
    exact lv_dup2_11 hC.1 hC.2.1 hd rfl (cvv_cat1 (v := .inr (.inr y)) (fun _ q => by cases q)) (k0 lsc hl)
  · cases h
    refine ⟨GR.rf, ROs.rf, step_pure rfl fun p e R s mid args below meth c Hc locs Q lsc cells slots hC hH hR hZ hS hl hn hrm k0 => ?_⟩
    exact lv_dup2_11 hC.1 hC.2.1 hd rfl rfl (k0 lsc hl)
  · cases h
theorem s_goto {X : CX} {l : Launch} {m pc : Nat} {off : Int} {t : Nat} (hd : decode (cod m) pc = .ok (.goto off, 3)) (ht : (pc : Int) + off = (t : Int)) : SI X l m pc (iP t fGo) := by
  refine si_iP fun ls st H q h => ?_
  cases h
  refine ⟨GR.rf, ROs.rf, step_pure rfl fun p e R s mid args below meth c Hc locs Q lsc cells slots hC hH hR hZ hS hl hn hrm k0 => ?_⟩
  exact lv_goto hC.1 hC.2.1 hd ht (k0 lsc hl)
def b1 (c : Int32 → Bool) : List AV → Option (Bool × List AV) := fun st => match st with
  | .inl x :: st => some (c x, st)
  | _ => none
def b2 (c : Int32 → Int32 → Bool) : List AV → Option (Bool × List AV) := fun st => match st with
  | .inl y :: .inl x :: st => some (c x y, st)
  | _ => none
def bN : List AV → Option (Bool × List AV) := fun st => match st with
  | .inr (.inr r) :: st => some (Nat.beq r 0, st)
  | _ => none
def bNN : List AV → Option (Bool × List AV) := fun st => match st with
  | .inr (.inr r) :: st => some (!(Nat.beq r 0), st)
  | _ => none
theorem s_ifeq {X : CX} {l : Launch} {m pc : Nat} {off : Int} {t : Nat} (hd : decode (cod m) pc = .ok (.ifCond .eq off, 3)) (ht : (pc : Int) + off = (t : Int)) : SI X l m pc (iB (pc + 3) t (b1 (fun x => decide (x = 0)))) := by
  refine si_iB fun ls st H b st' h => ?_
  unfold b1 at h
  split at h
  · cases h
    refine step_pure rfl fun p e R s mid args below meth c Hc locs Q lsc cells slots hC hH hR hZ hS hl hn hrm k0 => ?_
    have k1 := k0 lsc hl
    refine lv_if_eq hC.1 hC.2.1 hd ht (fun hq => ?_) (fun hq => ?_)
    · rw [if_pos (decide_eq_true hq)] at k1; exact k1
    · rw [if_neg (by rw [decide_eq_true_eq]; exact hq)] at k1; exact k1
  · cases h
theorem s_ifne {X : CX} {l : Launch} {m pc : Nat} {off : Int} {t : Nat} (hd : decode (cod m) pc = .ok (.ifCond .ne off, 3)) (ht : (pc : Int) + off = (t : Int)) : SI X l m pc (iB (pc + 3) t (b1 (fun x => decide (x ≠ 0)))) := by
  refine si_iB fun ls st H b st' h => ?_
  unfold b1 at h
  split at h
  · cases h
    refine step_pure rfl fun p e R s mid args below meth c Hc locs Q lsc cells slots hC hH hR hZ hS hl hn hrm k0 => ?_
    have k1 := k0 lsc hl
    refine lv_if_ne hC.1 hC.2.1 hd ht (fun hq => ?_) (fun hq => ?_)
    · rw [if_pos (decide_eq_true hq)] at k1; exact k1
    · rw [if_neg (by rw [decide_eq_true_eq]; exact fun z => z hq)] at k1; exact k1
  · cases h
theorem s_iflt {X : CX} {l : Launch} {m pc : Nat} {off : Int} {t : Nat} (hd : decode (cod m) pc = .ok (.ifCond .lt off, 3)) (ht : (pc : Int) + off = (t : Int)) : SI X l m pc (iB (pc + 3) t (b1 (fun x => decide (x < 0)))) := by
  refine si_iB fun ls st H b st' h => ?_
  unfold b1 at h
  split at h
  · cases h
    refine step_pure rfl fun p e R s mid args below meth c Hc locs Q lsc cells slots hC hH hR hZ hS hl hn hrm k0 => ?_
    have k1 := k0 lsc hl
    refine lv_if_lt hC.1 hC.2.1 hd ht (fun hq => ?_) (fun hq => ?_)
    · rw [if_pos (decide_eq_true hq)] at k1; exact k1
    · rw [if_neg (by rw [decide_eq_true_eq]; exact hq)] at k1; exact k1
  · cases h
theorem s_ifge {X : CX} {l : Launch} {m pc : Nat} {off : Int} {t : Nat} (hd : decode (cod m) pc = .ok (.ifCond .ge off, 3)) (ht : (pc : Int) + off = (t : Int)) : SI X l m pc (iB (pc + 3) t (b1 (fun x => decide (0 ≤ x)))) := by
  refine si_iB fun ls st H b st' h => ?_
  unfold b1 at h
  split at h
  · cases h
    refine step_pure rfl fun p e R s mid args below meth c Hc locs Q lsc cells slots hC hH hR hZ hS hl hn hrm k0 => ?_
    have k1 := k0 lsc hl
    refine lv_if_ge hC.1 hC.2.1 hd ht (fun hq => ?_) (fun hq => ?_)
    · rw [if_pos (decide_eq_true hq)] at k1; exact k1
    · rw [if_neg (by rw [decide_eq_true_eq]; exact hq)] at k1; exact k1
  · cases h
theorem s_ifgt {X : CX} {l : Launch} {m pc : Nat} {off : Int} {t : Nat} (hd : decode (cod m) pc = .ok (.ifCond .gt off, 3)) (ht : (pc : Int) + off = (t : Int)) : SI X l m pc (iB (pc + 3) t (b1 (fun x => decide (0 < x)))) := by
  refine si_iB fun ls st H b st' h => ?_
  unfold b1 at h
  split at h
  · cases h
    refine step_pure rfl fun p e R s mid args below meth c Hc locs Q lsc cells slots hC hH hR hZ hS hl hn hrm k0 => ?_
    have k1 := k0 lsc hl
    refine lv_if_gt hC.1 hC.2.1 hd ht (fun hq => ?_) (fun hq => ?_)
    · rw [if_pos (decide_eq_true hq)] at k1; exact k1
    · rw [if_neg (by rw [decide_eq_true_eq]; exact hq)] at k1; exact k1
  · cases h
theorem s_ifle {X : CX} {l : Launch} {m pc : Nat} {off : Int} {t : Nat} (hd : decode (cod m) pc = .ok (.ifCond .le off, 3)) (ht : (pc : Int) + off = (t : Int)) : SI X l m pc (iB (pc + 3) t (b1 (fun x => decide (x ≤ 0)))) := by
  refine si_iB fun ls st H b st' h => ?_
  unfold b1 at h
  split at h
  · cases h
    refine step_pure rfl fun p e R s mid args below meth c Hc locs Q lsc cells slots hC hH hR hZ hS hl hn hrm k0 => ?_
    have k1 := k0 lsc hl
    refine lv_if_le hC.1 hC.2.1 hd ht (fun hq => ?_) (fun hq => ?_)
    · rw [if_pos (decide_eq_true hq)] at k1; exact k1
    · rw [if_neg (by rw [decide_eq_true_eq]; exact hq)] at k1; exact k1
  · cases h
theorem s_icmpeq {X : CX} {l : Launch} {m pc : Nat} {off : Int} {t : Nat} (hd : decode (cod m) pc = .ok (.if_icmp .eq off, 3)) (ht : (pc : Int) + off = (t : Int)) : SI X l m pc (iB (pc + 3) t (b2 (fun x y => decide (x = y)))) := by
  refine si_iB fun ls st H b st' h => ?_
  unfold b2 at h
  split at h
  · cases h
    refine step_pure rfl fun p e R s mid args below meth c Hc locs Q lsc cells slots hC hH hR hZ hS hl hn hrm k0 => ?_
    have k1 := k0 lsc hl
    refine lv_icmp_eq hC.1 hC.2.1 hd ht (fun hq => ?_) (fun hq => ?_)
    · rw [if_pos (decide_eq_true hq)] at k1; exact k1
    · rw [if_neg (by rw [decide_eq_true_eq]; exact hq)] at k1; exact k1
  · cases h
theorem s_icmpne {X : CX} {l : Launch} {m pc : Nat} {off : Int} {t : Nat} (hd : decode (cod m) pc = .ok (.if_icmp .ne off, 3)) (ht : (pc : Int) + off = (t : Int)) : SI X l m pc (iB (pc + 3) t (b2 (fun x y => decide (x ≠ y)))) := by
  refine si_iB fun ls st H b st' h => ?_
  unfold b2 at h
  split at h
  · cases h
    refine step_pure rfl fun p e R s mid args below meth c Hc locs Q lsc cells slots hC hH hR hZ hS hl hn hrm k0 => ?_
    have k1 := k0 lsc hl
    refine lv_icmp_ne hC.1 hC.2.1 hd ht (fun hq => ?_) (fun hq => ?_)
    · rw [if_pos (decide_eq_true hq)] at k1; exact k1
    · rw [if_neg (by rw [decide_eq_true_eq]; exact fun z => z hq)] at k1; exact k1
  · cases h
theorem s_icmplt {X : CX} {l : Launch} {m pc : Nat} {off : Int} {t : Nat} (hd : decode (cod m) pc = .ok (.if_icmp .lt off, 3)) (ht : (pc : Int) + off = (t : Int)) : SI X l m pc (iB (pc + 3) t (b2 (fun x y => decide (x < y)))) := by
  refine si_iB fun ls st H b st' h => ?_
  unfold b2 at h
  split at h
  · cases h
    refine step_pure rfl fun p e R s mid args below meth c Hc locs Q lsc cells slots hC hH hR hZ hS hl hn hrm k0 => ?_
    have k1 := k0 lsc hl
    refine lv_icmp_lt hC.1 hC.2.1 hd ht (fun hq => ?_) (fun hq => ?_)
    · rw [if_pos (decide_eq_true hq)] at k1; exact k1
    · rw [if_neg (by rw [decide_eq_true_eq]; exact hq)] at k1; exact k1
  · cases h
theorem s_icmpge {X : CX} {l : Launch} {m pc : Nat} {off : Int} {t : Nat} (hd : decode (cod m) pc = .ok (.if_icmp .ge off, 3)) (ht : (pc : Int) + off = (t : Int)) : SI X l m pc (iB (pc + 3) t (b2 (fun x y => decide (y ≤ x)))) := by
  refine si_iB fun ls st H b st' h => ?_
  unfold b2 at h
  split at h
  · cases h
    refine step_pure rfl fun p e R s mid args below meth c Hc locs Q lsc cells slots hC hH hR hZ hS hl hn hrm k0 => ?_
    have k1 := k0 lsc hl
    refine lv_icmp_ge hC.1 hC.2.1 hd ht (fun hq => ?_) (fun hq => ?_)
    · rw [if_pos (decide_eq_true hq)] at k1; exact k1
    · rw [if_neg (by rw [decide_eq_true_eq]; exact hq)] at k1; exact k1
  · cases h
theorem s_icmpgt {X : CX} {l : Launch} {m pc : Nat} {off : Int} {t : Nat} (hd : decode (cod m) pc = .ok (.if_icmp .gt off, 3)) (ht : (pc : Int) + off = (t : Int)) : SI X l m pc (iB (pc + 3) t (b2 (fun x y => decide (y < x)))) := by
  refine si_iB fun ls st H b st' h => ?_
  unfold b2 at h
  split at h
  · cases h
    refine step_pure rfl fun p e R s mid args below meth c Hc locs Q lsc cells slots hC hH hR hZ hS hl hn hrm k0 => ?_
    have k1 := k0 lsc hl
    refine lv_icmp_gt hC.1 hC.2.1 hd ht (fun hq => ?_) (fun hq => ?_)
    · rw [if_pos (decide_eq_true hq)] at k1; exact k1
    · rw [if_neg (by rw [decide_eq_true_eq]; exact hq)] at k1; exact k1
  · cases h
theorem s_icmple {X : CX} {l : Launch} {m pc : Nat} {off : Int} {t : Nat} (hd : decode (cod m) pc = .ok (.if_icmp .le off, 3)) (ht : (pc : Int) + off = (t : Int)) : SI X l m pc (iB (pc + 3) t (b2 (fun x y => decide (x ≤ y)))) := by
  refine si_iB fun ls st H b st' h => ?_
  unfold b2 at h
  split at h
  · cases h
    refine step_pure rfl fun p e R s mid args below meth c Hc locs Q lsc cells slots hC hH hR hZ hS hl hn hrm k0 => ?_
    have k1 := k0 lsc hl
    refine lv_icmp_le hC.1 hC.2.1 hd ht (fun hq => ?_) (fun hq => ?_)
    · rw [if_pos (decide_eq_true hq)] at k1; exact k1
    · rw [if_neg (by rw [decide_eq_true_eq]; exact hq)] at k1; exact k1
  · cases h
theorem adr_0 {X : CX} {r : Nat} : adr X r = none ↔ r = 0 := by
  unfold adr
  split <;> simp
theorem s_ifnull {X : CX} {l : Launch} {m pc : Nat} {off : Int} {t : Nat} (hd : decode (cod m) pc = .ok (.ifnull off, 3)) (ht : (pc : Int) + off = (t : Int)) : SI X l m pc (iB (pc + 3) t bN) := by
  refine si_iB fun ls st H b st' h => ?_
  unfold bN at h
  split at h
  · rename_i r st2
    cases h
    refine step_pure rfl fun p e R s mid args below meth c Hc locs Q lsc cells slots hC hH hR hZ hS hl hn hrm k0 => ?_
    have k1 := k0 lsc hl
    simp only [List.map_cons, cvv]
    cases ha : adr X r with
    | none =>
      have e := adr_0.mp ha
      subst e
      exact lv_ifnullN hC.1 hC.2.1 hd ht k1
    | some a =>
      have e : r ≠ 0 := fun q => by rw [adr_0.mpr q] at ha; cases ha
      rw [if_neg (by intro q; exact e (Nat.eq_of_beq_eq_true q))] at k1
      exact lv_ifnull hC.1 hC.2.1 hd k1
  · cases h
theorem s_ifnonnull {X : CX} {l : Launch} {m pc : Nat} {off : Int} {t : Nat} (hd : decode (cod m) pc = .ok (.ifnonnull off, 3)) (ht : (pc : Int) + off = (t : Int)) : SI X l m pc (iB (pc + 3) t bNN) := by
  refine si_iB fun ls st H b st' h => ?_
  unfold bNN at h
  split at h
  · rename_i r st2
    cases h
    refine step_pure rfl fun p e R s mid args below meth c Hc locs Q lsc cells slots hC hH hR hZ hS hl hn hrm k0 => ?_
    have k1 := k0 lsc hl
    simp only [List.map_cons, cvv]
    cases ha : adr X r with
    | none =>
      have e := adr_0.mp ha
      subst e
      exact lv_ifnonnullN hC.1 hC.2.1 hd k1
    | some a =>
      have e : r ≠ 0 := fun q => by rw [adr_0.mpr q] at ha; cases ha
      have e2 : Nat.beq r 0 = false := by cases hb : Nat.beq r 0 with | false => rfl | true => exact absurd (Nat.eq_of_beq_eq_true hb) e
      rw [e2] at k1
      exact lv_ifnonnull hC.1 hC.2.1 hd ht k1
  · cases h
theorem swG_at {x : Int32} {d : Nat} {g : Nat → RT} {r : Option AV × Hp} : ∀ (ts : List Nat) (lo : Int), -2147483648 ≤ lo → lo + ts.length ≤ 2147483648 → swG x d g lo ts = some r → (∃ j t : Nat, ts[j]? = some t ∧ x.toInt = lo + j ∧ g t = some r) ∨ ((x.toInt < lo ∨ lo + ts.length ≤ x.toInt) ∧ g d = some r)
  | [], lo, _, _, h => Or.inr ⟨by simp; omega, h⟩
  | t :: ts, lo, h0, h1, h => by
    unfold swG at h
    have hlo : (Int32.ofInt lo).toInt = lo := by
      simp only [List.length_cons, Int.natCast_add, Int.natCast_one] at h1
      exact Int32.toInt_ofInt_of_le (by omega) (by omega)
    by_cases hx : x = Int32.ofInt lo
    · rw [decide_eq_true hx] at h
      exact Or.inl ⟨0, t, rfl, by rw [hx, hlo]; simp, h⟩
    · rw [decide_eq_false hx] at h
      have hne : x.toInt ≠ lo := fun q => hx (Int32.toInt_inj.mp (by rw [q, hlo]))
      simp only [List.length_cons, Int.natCast_add, Int.natCast_one] at h1
      rcases swG_at ts (lo + 1) (by omega) (by omega) h with ⟨j, t', a, b, c⟩ | ⟨a, c⟩
      · exact Or.inl ⟨j + 1, t', by rw [List.getElem?_cons_succ]; exact a, by rw [b]; simp only [Int.natCast_add, Int.natCast_one]; omega, c⟩
      · exact Or.inr ⟨by simp only [List.length_cons, Int.natCast_add, Int.natCast_one]; omega, c⟩
theorem s_table {X : CX} {l : Launch} {m pc d len : Nat} {dflt lo hi : Int} {offs : Array Int} {ts : List Nat} (hd : decode (cod m) pc = .ok (.tableswitch dflt lo hi offs, len)) (h0 : -2147483648 ≤ lo) (h1 : lo + ts.length ≤ 2147483648) (hh : hi = lo + ts.length - 1) (hdf : (pc : Int) + dflt = (d : Int)) (hts : ∀ (j t : Nat), ts[j]? = some t → ∃ off, offs[j]? = some off ∧ (pc : Int) + off = (t : Int)) : SI X l m pc (iSw d lo ts) := by
  intro gc gs hgc hgs ls st H r H' h
  unfold iSw at h
  split at h
  · rename_i x st2
    rcases swG_at ts lo h0 h1 h with ⟨j, t, a, b, c⟩ | ⟨a, c⟩
    · obtain ⟨off, o1, o2⟩ := hts j t a
      have hj : j < ts.length := (List.getElem?_eq_some_iff.mp a).1
      refine stp hgs c GR.rf ROs.rf (step_pure rfl fun p e R s mid args below meth c Hc locs Q lsc cells slots hC hH hR hZ hS hl hn hrm k0 => ?_)
      exact lv_tableIn hC.1 hC.2.1 hd (by omega) (by omega) (by rw [b, show lo + (j : Int) - lo = (j : Int) by omega]; exact o1) o2 (k0 lsc hl)
    · refine stp hgs c GR.rf ROs.rf (step_pure rfl fun p e R s mid args below meth c Hc locs Q lsc cells slots hC hH hR hZ hS hl hn hrm k0 => ?_)
      exact lv_tableOut hC.1 hC.2.1 hd (by omega) hdf (k0 lsc hl)
  · cases h
/-! returns -/
def rI : List AV → Option (Option AV) := fun st => match st with
  | [.inl v] => some (some (.inl v))
  | _ => none
def rZ : List AV → Option (Option AV) := fun st => match st with
  | [.inl v] => bif decide (v = 0) || decide (v = 1) then some (some (.inl v)) else none
  | _ => none
def rJ : List AV → Option (Option AV) := fun st => match st with
  | [.inr (.inl v)] => some (some (.inr (.inl v)))
  | _ => none
def rA : List AV → Option (Option AV) := fun st => match st with
  | [.inr (.inr v)] => some (some (.inr (.inr v)))
  | _ => none
def rV : List AV → Option (Option AV) := fun st => match st with
  | [] => some none
  | _ => none
theorem s_ret {X : CX} {l : Launch} {m pc : Nat} {f : List AV → Option (Option AV)} (hd : decode (cod m) pc = .ok (rin m, 1)) (hf : ∀ st r, f st = some r → st = r.toList) (hb : rty m = some .boolean → ∀ st r, f st = some r → r = some (.inl 0) ∨ r = some (.inl 1)) : SI X l m pc (iRet f) := by
  intro gc gs hgc hgs ls st H r H' h
  unfold iRet at h
  cases hq : f st with
  | none => rw [hq] at h; cases h
  | some q =>
    rw [hq] at h
    cases h
    refine ⟨GR.rf, ROs.rf, ?_⟩
    intro p e R s mid args below meth c Hc locs Q lsc n0 s0 hC hH hR hZ hS hz hl hlen hrm hn0 hs0 hret
    rw [hf _ _ hq]
    exact hret pc lsc Hc locs hd hH hS (fun z => hb z _ _ hq)
theorem rI_ok : ∀ st r, rI st = some r → st = r.toList := by
  intro st r h
  unfold rI at h
  split at h <;> cases h
  rfl
theorem rZ_ok : ∀ st r, rZ st = some r → st = r.toList := by
  intro st r h
  unfold rZ at h
  split at h
  · rename_i v
    cases hb : (decide (v = 0) || decide (v = 1)) <;> rw [hb] at h <;> cases h
    rfl
  · cases h
theorem rZ_b : ∀ st r, rZ st = some r → r = some (.inl 0) ∨ r = some (.inl 1) := by
  intro st r h
  unfold rZ at h
  split at h
  · rename_i v
    cases hb : (decide (v = 0) || decide (v = 1)) <;> rw [hb] at h <;> cases h
    simp only [Bool.or_eq_true, decide_eq_true_eq] at hb
    rcases hb with rfl | rfl
    · exact Or.inl rfl
    · exact Or.inr rfl
  · cases h
theorem rJ_ok : ∀ st r, rJ st = some r → st = r.toList := by
  intro st r h
  unfold rJ at h
  split at h <;> cases h
  rfl
theorem rA_ok : ∀ st r, rA st = some r → st = r.toList := by
  intro st r h
  unfold rA at h
  split at h <;> cases h
  rfl
theorem rV_ok : ∀ st r, rV st = some r → st = r.toList := by
  intro st r h
  unfold rV at h
  split at h <;> cases h
  rfl
