/-! The abstract machine beside the real one: addresses, values, cells, the world's words -/
abbrev CX : Type := va_G × (Nat → ClassId) × Nat × Nat × Nat × Nat
abbrev cxz (X : CX) : Nat := X.2.2.1
def adr (X : CX) (r : Nat) : Option Nat := match r with
  | 0 => none
  | 1 => some X.2.2.2.1
  | 2 => some X.2.2.2.2.1
  | 3 => some X.2.2.2.2.2
  | k + 4 => some (X.2.2.1 + k)
def cvv (X : CX) : AV → Value
  | .inl i => .int i
  | .inr (.inl l) => .long l
  | .inr (.inr r) => va_rf (adr X r)
def fval (X : CX) (H : Hp) (r f : Nat) : Value := if ftc f = 1 then .long (H.2.2.2.1 r f) else if ftc f = 2 then va_rf (adr X (H.2.2.2.2 r f)) else .int (H.2.2.1 r f)
def cellE (X : CX) (H : Hp) (r : Nat) : va_E :=
  if (H.1 r).1 < 20 then .inr ((H.1 r).1 - 1, (fl ((H.1 r).1 - 1)).map (fval X H r))
  else if (H.1 r).1 = 20 then .inl (X.2.1 0, (H.1 r).2, .inl (H.2.2.1 r))
  else if (H.1 r).1 = 21 then .inl (X.2.1 1, (H.1 r).2, .inr (.inl (H.2.2.2.1 r)))
  else if (H.1 r).1 = 22 then .inl (X.2.1 2, (H.1 r).2, .inl (H.2.2.1 r))
  else if (H.1 r).1 < 27 then .inl (X.2.1 ((H.1 r).1 - 20), (H.1 r).2, .inr (.inr (.inr (.inr (fun j => adr X (H.2.2.2.2 r j))))))
  else .inr (99, [])
def HOK (X : CX) (H : Hp) (Hc : Heap) : Prop := 4 ≤ H.2.1.1 ∧ Hc.size = X.2.2.1 + (H.2.1.1 - 4) ∧ (∀ k, k + 4 < H.2.1.1 → va_at X.1 vwCl (X.2.2.1 + k, cellE X H (k + 4)) Hc) ∧ ∀ r, (H.1 r).1 ≠ 0 → r < H.2.1.1 ∧ (r < 4 → r ≠ 0 ∧ (H.1 r).1 = 30)
def atyL : List FieldType := [.int, .long, .boolean, .object "StepsAhead$Op", .object "StepsAhead$Routine", .array .int, .array .long]
def atys (X : CX) : List (ClassId × FieldType) := [(X.2.1 0, .int), (X.2.1 1, .long), (X.2.1 2, .boolean), (X.2.1 3, .object "StepsAhead$Op"), (X.2.1 4, .object "StepsAhead$Routine"), (X.2.1 5, .array .int), (X.2.1 6, .array .long)]
abbrev AX (X : CX) : Nat → Prop := fun q => X.2.2.1 ≤ q
/-- arrays that are read alone: the script, two statics -/
def ROK (X : CX) (H : Hp) (U : State) (Hc : Heap) : Prop := ∀ r, (r = 1 ∨ r = 2 ∨ r = 3) → ∃ t, adr X r = some t ∧ t < X.2.2.1 ∧ (H.1 r).1 = 30 ∧ va_T .int t (H.1 r).2 (fun j => .int (H.2.2.1 r j)) (AX X) U Hc
def ZOK (X : CX) (U : State) (Hc : Heap) : Prop := va_Z "StepsAhead$Products" "UP_TO" "[I" (.ref X.2.2.2.2.1) (AX X) U Hc ∧ va_Z "StepsAhead$Reckoner" "SUMS" "[I" (.ref X.2.2.2.2.2) (AX X) U Hc
/-- words beside GT: links in the nest, casts that go, array classes -/
def EXW : List Cond := [.methodLinkNest "StepsAhead" 28 ⟨"StepsAhead$Trace", "<init>", "()V"⟩ "StepsAhead", .methodLinkNest "StepsAhead" 35 ⟨"StepsAhead$Reckoner", "<init>", "()V"⟩ "StepsAhead", .methodLinkNest "StepsAhead" 42 ⟨"StepsAhead$Runner", "<init>", "()V"⟩ "StepsAhead",
  .castable "[I" "java/lang/Cloneable", .castable "StepsAhead$Call" "StepsAhead$Counted", .castable "StepsAhead$Loop" "StepsAhead$Counted", .castable "StepsAhead$Work" "StepsAhead$Op", .castable "StepsAhead$Loop" "StepsAhead$Op", .castable "StepsAhead$Call" "StepsAhead$Op", .castable "StepsAhead$Either" "StepsAhead$Op"]
def va_AOA (ty : FieldType) (U : State) : Prop := (Cond.arrayOver (.array ty)).before #[] U = true
theorem va_AOA.use {ty : FieldType} {A : Array Value} {U : State} (h : va_AOA ty U) : (Cond.arrayOver (.array ty)).before A U = true := h
theorem va_AOA.of {ty : FieldType} {A : Array Value} {U : State} (h : (Cond.arrayOver (.array ty)).before A U = true) : va_AOA ty U := h
theorem va_AOA.spec {ty : FieldType} {s : State} (h : va_AOA ty s) :
    ∃ comp c k, s.vm.findClass (FieldType.array ty).toString = some comp ∧ (s.vm.classes.findIdx? fun x => match x.kind with | .array component _ => component == comp | _ => false) = some c ∧ s.vm.classes[c]? = some k ∧ k.kind = .array comp (.array ty) ∧
      s.vm.findClass ("[" ++ (FieldType.array ty).toString) = some c := by
  unfold va_AOA Cond.before at h
  simp only [Cond.holds, Cond.value, beq_iff_eq] at h
  cases hc : s.vm.findClass (FieldType.array ty).toString with
  | none => simp [hc] at h
  | some comp =>
    simp only [hc, Option.bind_some, Option.bind_eq_some_iff, Option.map_eq_some_iff] at h
    obtain ⟨c, hi, k, hk, hb⟩ := h
    obtain ⟨hlt, hp, -⟩ := Array.findIdx?_eq_some_iff_getElem.mp hi
    have hkk : s.vm.classes[c] = k := (Array.getElem?_eq_some_iff.mp hk).2
    rw [hkk] at hp
    cases hkind : k.kind with
    | array component ty =>
      rw [hkind] at hb hp
      simp at hb hp
      exact ⟨comp, c, k, rfl, hi, hk, by rw [hkind, hp, hb.1], hb.2⟩
    | _ => rw [hkind] at hb; simp at hb
theorem va_AOA.moved {ty : FieldType} {u U : State} (hvm : u.vm.Alike U.vm) (h : va_AOA ty u) : va_AOA ty U := by
  obtain ⟨comp, c, k, h1, h2, h3, h4, h5⟩ := h.spec
  obtain ⟨k', hk', he⟩ := hvm.2.2 _ _ h3
  have hi : (U.vm.classes.findIdx? fun (x : Class) => match x.kind with | .array component _ => component == comp | _ => false) = some c := by
    have a := va_idx_bare U.vm comp
    have b := va_idx_bare u.vm comp
    have e : U.vm.bare = u.vm.bare := by first | exact hvm.bare_eq | exact hvm.bare_eq.symm
    rw [e] at a
    exact a.symm.trans (b.trans h2)
  have hkind : k'.kind = .array comp (.array ty) := by rw [he]; exact h4
  have f1 : U.vm.findClass (FieldType.array ty).toString = some comp := by rw [hvm.findClass]; exact h1
  have f2 : U.vm.findClass ("[" ++ (FieldType.array ty).toString) = some c := by rw [hvm.findClass]; exact h5
  unfold va_AOA Cond.before Cond.holds
  simp only [Cond.value]
  rw [f1, Option.bind_some]
  refine (congrArg (fun o : Option Nat => (o.bind (fun c => (U.vm.classes[c]?).map fun (k : Class) => match k.kind with | .array _ t => decide (t = FieldType.array ty) && decide (U.vm.findClass ("[" ++ (FieldType.array ty).toString) = some c) | _ => false) == some true)) hi).trans ?_
  simp [hk', hkind, f2]
/-- pairs of classes whose instanceof fails: (object's class, asked) -/
def NCW : List (String × String) := ["StepsAhead$Call", "StepsAhead$Either", "StepsAhead$Loop", "StepsAhead$Op", "StepsAhead$Work"].flatMap fun a => (["StepsAhead$Call", "StepsAhead$Either", "StepsAhead$Loop", "StepsAhead$Work"].filter (fun b => !(a == b))).map fun b => (a, b)
def KOK (X : CX) (U : State) : Prop := va_K X.1 vwCl (atys X) U ∧ (∀ w ∈ EXW, va_Nw w U) ∧ (∀ q ∈ NCW, va_Nc q.1 q.2 U) ∧ (va_Nc "StepsAhead$Either" "StepsAhead$Counted" U ∧ va_Nc "StepsAhead$Op" "StepsAhead$Counted" U ∧ va_Nc "StepsAhead$Work" "StepsAhead$Counted" U) ∧ (va_AO "StepsAhead$Op" U ∧ va_AO "StepsAhead$Routine" U ∧ va_AOA .int U ∧ va_AOA .long U)
/-- all that stands of a method at its entry -/
def CT (X : CX) (m : Nat) (p : Program) (s : State) (mid : MethodId) (args : Array Value) (meth : Method) (c : Code) : Prop :=
  p.tables.exec = Jvm.exec ∧ c.code = cod m ∧ c.maxLocals = mxl m ∧ s.vm.findClass (yn m).cls = some mid.cls ∧ (∀ w ∈ GT, w.before args s = true) ∧ meth.name = (yn m).name ∧ KOK X s
/-- the locals, listed -/
def lvl (X : CX) : Nat → ALs → List (Nat × Value)
  | _, [] => []
  | i, none :: ls => lvl X (i + 1) ls
  | i, some v :: ls => (i, cvv X v) :: lvl X (i + 1) ls
def rin (m : Nat) : Instr := match rty m with
  | none => .return_
  | some .long => .lreturn
  | some (.object _) => .areturn
  | some (.array _) => .areturn
  | _ => .ireturn
def GR (H H' : Hp) : Prop := H.2.1.1 ≤ H'.2.1.1 ∧ H.2.1.2 ≤ H'.2.1.2
def WS (X : CX) (l : Launch) (m pc : Nat) (ls : ALs) (st : List AV) (H : Hp) (r : Option AV) (H' : Hp) : Prop :=
  ∀ (p : Program) (e : Env) (R : Room) (s : State) (mid : MethodId) (args : Array Value) (below : List Frame) (meth : Method) (c : Code) (Hc : Heap) (locs : List Loc) (Q : State → Prop) (lsc : Array Slot) (n0 s0 : Nat),
    CT X m p s mid args meth c → HOK X H Hc → ROK X H s s.heap → ZOK X s s.heap → va_S (AX X) s.heap Hc locs → X.2.2.1 ≤ s.heap.size → lv_has lsc (mxl m) (lvl X 0 ls) → ls.length = mxl m →
    (frs m ≤ R.frames ∧ los m ≤ R.locals ∧ H'.2.1.1 - n0 ≤ R.cells ∧ H'.2.1.2 - s0 ≤ R.slots) → n0 ≤ H.2.1.1 → s0 ≤ H.2.1.2 →
    (∀ (pc' : Nat) (lsc' : Array Slot) (Hc' : Heap) (locs' : List Loc), decode (cod m) pc' = .ok (rin m, 1) → HOK X H' Hc' → va_S (AX X) s.heap Hc' locs' → (rty m = some .boolean → r = some (.inl 0) ∨ r = some (.inl 1)) →
      W p l e R s mid args below meth c Hc' locs' (H'.2.1.1 - n0) (H'.2.1.2 - s0) Q (F0 mid pc' lsc' (r.toList.map (cvv X)))) →
    W p l e R s mid args below meth c Hc locs (H.2.1.1 - n0) (H.2.1.2 - s0) Q (F0 mid pc lsc (st.map (cvv X)))
def OKc (X : CX) (l : Launch) (gc : AG) : Prop := ∀ m pc ls st H r H', gc m pc ls st H = some (r, H') → GR H H' ∧ (∀ k, k < 4 → H'.1 k = H.1 k ∧ H'.2.2.1 k = H.2.2.1 k) ∧ WS X l m pc ls st H r H'
def OKs (X : CX) (l : Launch) (m : Nat) (gs : GS) : Prop := ∀ pc ls st H r H', gs pc ls st H = some (r, H') → GR H H' ∧ (∀ k, k < 4 → H'.1 k = H.1 k ∧ H'.2.2.1 k = H.2.2.1 k) ∧ WS X l m pc ls st H r H'
/-- a word of method m at pc is right -/
def SI (X : CX) (l : Launch) (m pc : Nat) (i : AS) : Prop := ∀ (gc : AG) (gs : GS), OKc X l gc → OKs X l m gs → ∀ ls st H r H', i gc gs ls st H = some (r, H') → GR H H' ∧ (∀ k, k < 4 → H'.1 k = H.1 k ∧ H'.2.2.1 k = H.2.2.1 k) ∧ WS X l m pc ls st H r H'
theorem si_lkp {X : CX} {l : Launch} {m : Nat} : ∀ {T : List (Nat × AS)}, (∀ q ∈ T, SI X l m q.1 q.2) → ∀ pc, SI X l m pc (lkp T pc)
  | [], _, _ => fun _ _ _ _ _ _ _ _ _ h => by cases h
  | q :: T, h, pc => by
    unfold lkp
    cases hb : Nat.beq q.1 pc
    · exact si_lkp (fun x hx => h x (List.mem_cons_of_mem _ hx)) pc
    · have e : q.1 = pc := Nat.eq_of_beq_eq_true hb
      rw [← e]
      exact h q List.mem_cons_self
theorem arun_ok {X : CX} {l : Launch} {P : Nat → List (Nat × AS)} (hP : ∀ m, ∀ q ∈ P m, SI X l m q.1 q.2) : ∀ n, OKc X l (arun P n)
  | 0 => fun _ _ _ _ _ _ _ h => by cases h
  | n + 1 => fun m pc ls st H r H' h => si_lkp (hP m) pc (arun P n) (arun P n m) (arun_ok hP n) (fun pc ls st H r H' h => arun_ok hP n m pc ls st H r H' h) ls st H r H' h
theorem evl_ok {X : CX} {l : Launch} {P : Nat → List (Nat × AS)} (hG : ∀ m, ∀ q ∈ P m, GoodS q.2) (hP : ∀ m, ∀ q ∈ P m, SI X l m q.1 q.2) : OKc X l (evl P) := fun m pc ls st H r H' h => by
  obtain ⟨n, hn⟩ := (evl_some hG).mp h
  exact arun_ok hP n m pc ls st H r H' hn
/-! cells -/
theorem HOK.at_ {X : CX} {H : Hp} {Hc : Heap} (h : HOK X H Hc) {r : Nat} (h0 : (H.1 r).1 ≠ 0) (h1 : (H.1 r).1 ≠ 30) : ∃ k, r = k + 4 ∧ k + 4 < H.2.1.1 ∧ va_at X.1 vwCl (X.2.2.1 + k, cellE X H (k + 4)) Hc := by
  obtain ⟨a, b⟩ := h.2.2.2 r h0
  have hr : ¬ r < 4 := fun q => h1 (b q).2
  refine ⟨r - 4, by omega, by omega, ?_⟩
  have := h.2.2.1 (r - 4) (by omega)
  exact this
theorem cellE_ne_I {X : CX} {H : Hp} {r j : Nat} {v : Int32} {q : Nat} (h : q ≠ r) : cellE X (hsI H r j v) q = cellE X H q := by
  have e : fval X (hsI H r j v) q = fval X H q := funext fun f => by simp only [fval, up2, if_neg h]
  unfold cellE
  rw [e]
  simp only [up2, if_neg h]
theorem cellE_ne_L {X : CX} {H : Hp} {r j : Nat} {v : Int64} {q : Nat} (h : q ≠ r) : cellE X (hsL H r j v) q = cellE X H q := by
  have e : fval X (hsL H r j v) q = fval X H q := funext fun f => by simp only [fval, up2, if_neg h]
  unfold cellE
  rw [e]
  simp only [up2, if_neg h]
theorem cellE_ne_R {X : CX} {H : Hp} {r j : Nat} {v : Nat} {q : Nat} (h : q ≠ r) : cellE X (hsR H r j v) q = cellE X H q := by
  have e : fval X (hsR H r j v) q = fval X H q := funext fun f => by simp only [fval, up2, if_neg h]
  unfold cellE
  rw [e]
  simp only [up2, if_neg h]
/-- one cell is another -/
theorem HOK.upd {X : CX} {H H' : Hp} {Hc Hc' : Heap} (h : HOK X H Hc) (h1 : H'.1 = H.1) (h2 : H'.2.1 = H.2.1) {k : Nat} (hne : ∀ q, q ≠ k + 4 → cellE X H' q = cellE X H q) (hz : Hc'.size = Hc.size) (ho : ∀ q, q ≠ X.2.2.1 + k → Hc'[q]? = Hc[q]?)
    (hat : va_at X.1 vwCl (X.2.2.1 + k, cellE X H' (k + 4)) Hc') : HOK X H' Hc' := by
  refine ⟨by rw [h2]; exact h.1, by rw [h2, hz]; exact h.2.1, fun j hj => ?_, by rw [h1, h2]; exact h.2.2.2⟩
  rw [h2] at hj
  by_cases e : j = k
  · subst e; exact hat
  · rw [hne _ (by omega)]
    exact (h.2.2.1 j hj).kept (ho _ (by show X.2.2.1 + j ≠ X.2.2.1 + k; omega))
/-- one cell more -/
theorem cellE_new {X : CX} {H : Hp} {kd len q : Nat} (h : q ≠ H.2.1.1) : cellE X (hnw H kd len) q = cellE X H q := by
  have e : fval X (hnw H kd len) q = fval X H q := funext fun f => by simp only [fval, up1, if_neg h]
  unfold cellE
  rw [e]
  simp only [up1, if_neg h]
theorem HOK.new {X : CX} {H : Hp} {Hc Hc' : Heap} (h : HOK X H Hc) {kd len : Nat} (hz : Hc'.size = Hc.size + 1) (ho : ∀ q, q < Hc.size → Hc'[q]? = Hc[q]?) (hat : va_at X.1 vwCl (Hc.size, cellE X (hnw H kd len) H.2.1.1) Hc') : HOK X (hnw H kd len) Hc' := by
  obtain ⟨h1, h2, h3, h4⟩ := h
  refine ⟨by show 4 ≤ H.2.1.1 + 1; omega, by show Hc'.size = X.2.2.1 + (H.2.1.1 + 1 - 4); omega, fun j hj => ?_, fun r hr => ?_⟩
  · have hj : j + 4 < H.2.1.1 + 1 := hj
    by_cases e : j + 4 = H.2.1.1
    · rw [e, show X.2.2.1 + j = Hc.size by omega]; exact hat
    · rw [cellE_new e]
      exact (h3 j (by omega)).kept (ho _ (by show X.2.2.1 + j < Hc.size; omega))
  · have hr : (up1 H.1 H.2.1.1 (kd, len) r).1 ≠ 0 := hr
    show r < H.2.1.1 + 1 ∧ (r < 4 → r ≠ 0 ∧ (up1 H.1 H.2.1.1 (kd, len) r).1 = 30)
    unfold up1 at hr ⊢
    by_cases e : r = H.2.1.1
    · exact ⟨by omega, fun q => by omega⟩
    · rw [if_neg e] at hr ⊢
      exact ⟨by have := (h4 r hr).1; omega, (h4 r hr).2⟩
theorem KOK.moved {X : CX} {u U : State} (hW : u.WarmedH U.vm) (h : KOK X u) : KOK X U := by
  obtain ⟨h1, h2, h3, ⟨h4, h5, h6⟩, h7, h8, h9, h10⟩ := h
  refine ⟨h1.moved hW.alike, fun w hw => ?_, fun q hq => (h3 q hq).moved hW.alike, ⟨h4.moved hW.alike, h5.moved hW.alike, h6.moved hW.alike⟩, h7.moved hW.alike, h8.moved hW.alike, ?_, ?_⟩
  · have hz := h2 w hw
    simp only [EXW, List.mem_cons, List.not_mem_nil, or_false] at hw
    rcases hw with rfl | rfl | rfl | rfl | rfl | rfl | rfl | rfl | rfl | rfl
    · exact va_Nw.warmM hW hz
    · exact va_Nw.warmM hW hz
    · exact va_Nw.warmM hW hz
    all_goals exact va_Nw.warmC hW hz
  · exact h9.moved hW.alike
  · exact h10.moved hW.alike
