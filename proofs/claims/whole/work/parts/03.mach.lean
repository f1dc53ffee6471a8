/-! The abstract machine: values, a heap by kinds and three memories, one word a kind of instruction, the run by fuel and its limit 'ev'. -/
abbrev AV : Type := Int32 ⊕ Int64 ⊕ Nat
abbrev ALs : Type := List (Option AV)
/-- shapes (kind, length) by reference; next reference and slots; ints, longs, references -/
abbrev Hp : Type := (Nat → Nat × Nat) × (Nat × Nat) × (Nat → Nat → Int32) × (Nat → Nat → Int64) × (Nat → Nat → Nat)
abbrev RT : Type := Option (Option AV × Hp)
abbrev AG : Type := Nat → Nat → ALs → List AV → Hp → RT
abbrev GS : Type := Nat → ALs → List AV → Hp → RT
abbrev AS : Type := AG → GS → ALs → List AV → Hp → RT
abbrev hsh (H : Hp) : Nat → Nat × Nat := H.1
abbrev hn (H : Hp) : Nat := H.2.1.1
abbrev hsl (H : Hp) : Nat := H.2.1.2
abbrev hmi (H : Hp) : Nat → Nat → Int32 := H.2.2.1
abbrev hml (H : Hp) : Nat → Nat → Int64 := H.2.2.2.1
abbrev hmr (H : Hp) : Nat → Nat → Nat := H.2.2.2.2
/-- a function with one place changed; a memory with one place changed -/
def up1 {α : Type} (f : Nat → α) (k : Nat) (v : α) : Nat → α := fun j => if j = k then v else f j
def up2 {α : Type} (f : Nat → Nat → α) (r k : Nat) (v : α) : Nat → Nat → α := fun a => if a = r then up1 (f r) k v else f a
abbrev hsI (H : Hp) (r k : Nat) (v : Int32) : Hp := (H.1, H.2.1, up2 H.2.2.1 r k v, H.2.2.2.1, H.2.2.2.2)
abbrev hsL (H : Hp) (r k : Nat) (v : Int64) : Hp := (H.1, H.2.1, H.2.2.1, up2 H.2.2.2.1 r k v, H.2.2.2.2)
abbrev hsR (H : Hp) (r k : Nat) (v : Nat) : Hp := (H.1, H.2.1, H.2.2.1, H.2.2.2.1, up2 H.2.2.2.2 r k v)
/-- a new cell of a kind and a length: all zero -/
abbrev hnw (H : Hp) (kd len : Nat) : Hp := (up1 H.1 H.2.1.1 (kd, len), (H.2.1.1 + 1, H.2.1.2 + len), up1 H.2.2.1 H.2.1.1 (fun _ => 0), up1 H.2.2.2.1 H.2.1.1 (fun _ => 0), up1 H.2.2.2.2 H.2.1.1 (fun _ => 0))
/-- within an array -/
def inb (i : Int32) (n : Nat) : Bool := !(decide (i < 0) || Nat.ble n i.toNatClampNeg)
/-- the next word of a method's table -/
def lkp : List (Nat × AS) → Nat → AS
  | [], _ => fun _ _ _ _ _ => none
  | q :: T, pc => bif Nat.beq q.1 pc then q.2 else lkp T pc
def arun (P : Nat → List (Nat × AS)) : Nat → AG
  | 0 => fun _ _ _ _ _ => none
  | n + 1 => fun m pc => lkp (P m) pc (arun P n) (arun P n m)
/-- one word follows another: the kinds of words -/
def iP (n : Nat) (f : ALs → List AV → Hp → Option (ALs × List AV × Hp)) : AS := fun _ gs ls st H => match f ls st H with
  | some q => gs n q.1 q.2.1 q.2.2
  | none => none
def iRI (n : Nat) (f : ALs → List AV → Hp → Option (Option Int32 × List AV)) : AS := fun _ gs ls st H => match f ls st H with
  | some q => q.1.bind fun v => gs n ls (.inl v :: q.2) H
  | none => none
def iRJ (n : Nat) (f : ALs → List AV → Hp → Option (Option Int64 × List AV)) : AS := fun _ gs ls st H => match f ls st H with
  | some q => q.1.bind fun v => gs n ls (.inr (.inl v) :: q.2) H
  | none => none
def iRR (n : Nat) (f : ALs → List AV → Hp → Option (Option Nat × List AV)) : AS := fun _ gs ls st H => match f ls st H with
  | some q => q.1.bind fun v => gs n ls (.inr (.inr v) :: q.2) H
  | none => none
def iW (n : Nat) (f : ALs → List AV → Hp → Option (Option Hp × List AV)) : AS := fun _ gs ls st H => match f ls st H with
  | some q => q.1.bind fun v => gs n ls q.2 v
  | none => none
/-- a branch: to t, if so -/
def iB (n t : Nat) (f : List AV → Option (Bool × List AV)) : AS := fun _ gs ls st H => match f st with
  | some q => bif q.1 then gs t ls q.2 H else gs n ls q.2 H
  | none => none
def swG (x : Int32) (d : Nat) (g : Nat → RT) : Int → List Nat → RT
  | _, [] => g d
  | lo, t :: ts => bif decide (x = Int32.ofInt lo) then g t else swG x d g (lo + 1) ts
def iSw (d : Nat) (lo : Int) (ts : List Nat) : AS := fun _ gs ls st H => match st with
  | .inl x :: st => swG x d (fun n => gs n ls st H) lo ts
  | _ => none
def iRet (f : List AV → Option (Option AV)) : AS := fun _ _ _ st H => match f st with
  | some r => some (r, H)
  | none => none
/-- what a call gives: 0 nothing, 1 an int, 2 a long, 3 a reference -/
def asI : Option AV → Option Int32
  | some (.inl v) => some v
  | _ => none
def asJ : Option AV → Option Int64
  | some (.inr (.inl v)) => some v
  | _ => none
def asR : Option AV → Option Nat
  | some (.inr (.inr v)) => some v
  | _ => none
def asV : Option AV → Option Unit
  | none => some ()
  | _ => none
def thn (rk n : Nat) (gs : GS) (ls : ALs) (st : List AV) (q : Option AV × Hp) : RT := match rk with
  | 0 => (asV q.1).bind fun _ => gs n ls st q.2
  | 1 => (asI q.1).bind fun v => gs n ls (.inl v :: st) q.2
  | 2 => (asJ q.1).bind fun v => gs n ls (.inr (.inl v) :: st) q.2
  | _ => (asR q.1).bind fun v => gs n ls (.inr (.inr v) :: st) q.2
/-- k values off the stack: the first pushed first -/
def popA : Nat → List AV → List AV → Option (List AV × List AV)
  | 0, st, as => some (as, st)
  | k + 1, v :: st, as => popA k st (v :: as)
  | _ + 1, [], _ => none
def flA : List AV → ALs
  | [] => []
  | .inr (.inl v) :: as => some (.inr (.inl v)) :: none :: flA as
  | .inl v :: as => some (.inl v) :: flA as
  | .inr (.inr v) :: as => some (.inr (.inr v)) :: flA as
def padA : Nat → ALs → ALs
  | 0, _ => []
  | n + 1, [] => none :: padA n []
  | n + 1, a :: l => a :: padA n l
/-- how many words a stack takes -/
def catS : List AV → Nat
  | [] => 0
  | .inr (.inl _) :: st => catS st + 2
  | .inl _ :: st => catS st + 1
  | .inr (.inr _) :: st => catS st + 1
/-- a call of method m2 with na values (its receiver among them), mx places for its own -/
def iC (n m2 mx na rk : Nat) : AS := fun gc gs ls st H => match popA na st [] with
  | some q => bif Nat.ble (catS q.2) 8 && Nat.ble (flA q.1).length mx then (gc m2 0 (padA mx (flA q.1)) [] H).bind fun u => thn rk n gs ls q.2 u else none
  | none => none
/-- the same, but the receiver is looked at: its kind chooses the method -/
def slk : List (Nat × Nat × Nat) → Nat → Option (Nat × Nat)
  | [], _ => none
  | q :: t, kd => if kd = q.1 then some q.2 else slk t kd
def iCV (n na rk : Nat) (tb : List (Nat × Nat × Nat)) : AS := fun gc gs ls st H => match popA na st [] with
  | some (.inr (.inr r) :: as, st2) => bif Nat.ble (catS st2) 8 && tb.all (fun q => Nat.ble (flA (.inr (.inr r) :: as)).length q.2.2) then (slk tb (H.1 r).1).bind fun w => (gc w.1 0 (padA w.2 (flA (.inr (.inr r) :: as))) [] H).bind fun u => thn rk n gs ls st2 u else none
  | _ => none
/-- the same with one kind alone -/
def iCK (n kd m2 mx na rk : Nat) : AS := fun gc gs ls st H => match popA na st [] with
  | some (.inr (.inr r) :: as, st2) => bif (Nat.ble (catS st2) 8 && Nat.ble (flA (.inr (.inr r) :: as)).length mx) && Nat.beq (H.1 r).1 kd then (gc m2 0 (padA mx (flA (.inr (.inr r) :: as))) [] H).bind fun u => thn rk n gs ls st2 u else none
  | _ => none
/-! growing: more is answered where more is answered inside; and nothing but what some fuel answers -/
def MonoS (i : AS) : Prop := ∀ (gc gc' : AG) (gs gs' : GS), (∀ m pc ls st H r, gc m pc ls st H = some r → gc' m pc ls st H = some r) → (∀ pc ls st H r, gs pc ls st H = some r → gs' pc ls st H = some r) → ∀ ls st H r, i gc gs ls st H = some r → i gc' gs' ls st H = some r
def ContS (i : AS) : Prop := ∀ (gc : Nat → AG) (gs : Nat → GS) (Gc : AG) (Gs : GS), (∀ n k m pc ls st H r, gc n m pc ls st H = some r → gc (n + k) m pc ls st H = some r) → (∀ n k pc ls st H r, gs n pc ls st H = some r → gs (n + k) pc ls st H = some r) →
  (∀ m pc ls st H r, Gc m pc ls st H = some r → ∃ n, gc n m pc ls st H = some r) → (∀ pc ls st H r, Gs pc ls st H = some r → ∃ n, gs n pc ls st H = some r) → ∀ ls st H r, i Gc Gs ls st H = some r → ∃ n, i (gc n) (gs n) ls st H = some r
def GoodS (i : AS) : Prop := MonoS i ∧ ContS i
theorem good_iP (n f) : GoodS (iP n f) := by
  refine ⟨fun gc gc' gs gs' hc hs ls st H r h => ?_, fun gc gs Gc Gs hc hs hC hS ls st H r h => ?_⟩ <;> unfold iP at h ⊢ <;> cases hf : f ls st H with
  | none => rw [hf] at h; cases h
  | some q => rw [hf] at h; first | exact hs _ _ _ _ _ h | exact hS _ _ _ _ _ h
theorem good_iRI (n f) : GoodS (iRI n f) := by
  refine ⟨fun gc gc' gs gs' hc hs ls st H r h => ?_, fun gc gs Gc Gs hc hs hC hS ls st H r h => ?_⟩ <;> unfold iRI at h ⊢ <;> cases hf : f ls st H with
  | none => rw [hf] at h; cases h
  | some q =>
    rw [hf] at h
    obtain ⟨v, h1, h2⟩ := Option.bind_eq_some_iff.mp h
    first
    | exact Option.bind_eq_some_iff.mpr ⟨v, h1, hs _ _ _ _ _ h2⟩
    | (obtain ⟨k, hk⟩ := hS _ _ _ _ _ h2; exact ⟨k, Option.bind_eq_some_iff.mpr ⟨v, h1, hk⟩⟩)
theorem good_iRJ (n f) : GoodS (iRJ n f) := by
  refine ⟨fun gc gc' gs gs' hc hs ls st H r h => ?_, fun gc gs Gc Gs hc hs hC hS ls st H r h => ?_⟩ <;> unfold iRJ at h ⊢ <;> cases hf : f ls st H with
  | none => rw [hf] at h; cases h
  | some q =>
    rw [hf] at h
    obtain ⟨v, h1, h2⟩ := Option.bind_eq_some_iff.mp h
    first
    | exact Option.bind_eq_some_iff.mpr ⟨v, h1, hs _ _ _ _ _ h2⟩
    | (obtain ⟨k, hk⟩ := hS _ _ _ _ _ h2; exact ⟨k, Option.bind_eq_some_iff.mpr ⟨v, h1, hk⟩⟩)
theorem good_iRR (n f) : GoodS (iRR n f) := by
  refine ⟨fun gc gc' gs gs' hc hs ls st H r h => ?_, fun gc gs Gc Gs hc hs hC hS ls st H r h => ?_⟩ <;> unfold iRR at h ⊢ <;> cases hf : f ls st H with
  | none => rw [hf] at h; cases h
  | some q =>
    rw [hf] at h
    obtain ⟨v, h1, h2⟩ := Option.bind_eq_some_iff.mp h
    first
    | exact Option.bind_eq_some_iff.mpr ⟨v, h1, hs _ _ _ _ _ h2⟩
    | (obtain ⟨k, hk⟩ := hS _ _ _ _ _ h2; exact ⟨k, Option.bind_eq_some_iff.mpr ⟨v, h1, hk⟩⟩)
theorem good_iW (n f) : GoodS (iW n f) := by
  refine ⟨fun gc gc' gs gs' hc hs ls st H r h => ?_, fun gc gs Gc Gs hc hs hC hS ls st H r h => ?_⟩ <;> unfold iW at h ⊢ <;> cases hf : f ls st H with
  | none => rw [hf] at h; cases h
  | some q =>
    rw [hf] at h
    obtain ⟨v, h1, h2⟩ := Option.bind_eq_some_iff.mp h
    first
    | exact Option.bind_eq_some_iff.mpr ⟨v, h1, hs _ _ _ _ _ h2⟩
    | (obtain ⟨k, hk⟩ := hS _ _ _ _ _ h2; exact ⟨k, Option.bind_eq_some_iff.mpr ⟨v, h1, hk⟩⟩)
theorem good_iB (n t f) : GoodS (iB n t f) := by
  refine ⟨fun gc gc' gs gs' hc hs ls st H r h => ?_, fun gc gs Gc Gs hc hs hC hS ls st H r h => ?_⟩ <;> unfold iB at h ⊢ <;> cases hf : f st with
  | none => rw [hf] at h; cases h
  | some q =>
    rw [hf] at h
    obtain ⟨b, st2⟩ := q
    cases b <;> first | exact hs _ _ _ _ _ h | exact hS _ _ _ _ _ h
theorem swG_mono {x : Int32} {d : Nat} {g g' : Nat → RT} {r : Option AV × Hp} (hg : ∀ n, g n = some r → g' n = some r) : ∀ (ts : List Nat) (lo : Int), swG x d g lo ts = some r → swG x d g' lo ts = some r
  | [], _, h => hg _ h
  | t :: ts, lo, h => by
    unfold swG at h ⊢
    cases hb : decide (x = Int32.ofInt lo) <;> rw [hb] at h
    · exact swG_mono hg ts _ h
    · exact hg _ h
theorem swG_ex {x : Int32} {d : Nat} {g : Nat → RT} {r : Option AV × Hp} : ∀ (ts : List Nat) (lo : Int), swG x d g lo ts = some r → ∃ n, g n = some r ∧ ∀ g' : Nat → RT, g' n = some r → swG x d g' lo ts = some r
  | [], _, h => ⟨d, h, fun _ h => h⟩
  | t :: ts, lo, h => by
    unfold swG at h
    cases hb : decide (x = Int32.ofInt lo) <;> rw [hb] at h
    · obtain ⟨n, h1, h2⟩ := swG_ex ts _ h
      exact ⟨n, h1, fun g' h3 => by unfold swG; rw [hb]; exact h2 g' h3⟩
    · exact ⟨t, h, fun g' h3 => by unfold swG; rw [hb]; exact h3⟩
theorem good_iSw (d lo ts) : GoodS (iSw d lo ts) := by
  refine ⟨fun gc gc' gs gs' hc hs ls st H r h => ?_, fun gc gs Gc Gs hc hs hC hS ls st H r h => ?_⟩ <;> unfold iSw at h ⊢ <;> split at h
  · exact swG_mono (fun n h => hs _ _ _ _ _ h) ts lo h
  · cases h
  · obtain ⟨n, h1, h2⟩ := swG_ex ts lo h
    obtain ⟨k, hk⟩ := hS _ _ _ _ _ h1
    exact ⟨k, h2 _ hk⟩
  · cases h
theorem good_iRet (f) : GoodS (iRet f) := ⟨fun _ _ _ _ _ _ _ _ _ _ h => h, fun _ _ _ _ _ _ _ _ _ _ _ _ h => ⟨0, h⟩⟩
theorem thn_mono {rk n : Nat} {gs gs' : GS} {ls : ALs} {st : List AV} {q : Option AV × Hp} {r : Option AV × Hp} (hs : ∀ pc ls st H, gs pc ls st H = some r → gs' pc ls st H = some r) (h : thn rk n gs ls st q = some r) : thn rk n gs' ls st q = some r := by
  unfold thn at h ⊢
  split at h <;> (obtain ⟨v, h1, h2⟩ := Option.bind_eq_some_iff.mp h; exact Option.bind_eq_some_iff.mpr ⟨v, h1, hs _ _ _ _ h2⟩)
theorem thn_ex {rk n : Nat} {gs : GS} {ls : ALs} {st : List AV} {q : Option AV × Hp} {r : Option AV × Hp} (h : thn rk n gs ls st q = some r) : ∃ pc ls2 st2 H2, gs pc ls2 st2 H2 = some r ∧ ∀ gs' : GS, gs' pc ls2 st2 H2 = some r → thn rk n gs' ls st q = some r := by
  unfold thn at h ⊢
  split at h <;> (obtain ⟨v, h1, h2⟩ := Option.bind_eq_some_iff.mp h; exact ⟨_, _, _, _, h2, fun gs' h3 => Option.bind_eq_some_iff.mpr ⟨v, h1, h3⟩⟩)
theorem call_mono {gc gc' : AG} {gs gs' : GS} (hc : ∀ m pc ls st H r, gc m pc ls st H = some r → gc' m pc ls st H = some r) (hs : ∀ pc ls st H r, gs pc ls st H = some r → gs' pc ls st H = some r) {m2 rk n : Nat} {l2 : ALs} {ls : ALs} {st : List AV} {H : Hp} {r : Option AV × Hp}
    (h : ((gc m2 0 l2 [] H).bind fun u => thn rk n gs ls st u) = some r) : ((gc' m2 0 l2 [] H).bind fun u => thn rk n gs' ls st u) = some r := by
  obtain ⟨v, h1, h2⟩ := Option.bind_eq_some_iff.mp h
  exact Option.bind_eq_some_iff.mpr ⟨v, hc _ _ _ _ _ _ h1, thn_mono (fun _ _ _ _ h => hs _ _ _ _ _ h) h2⟩
theorem call_cont {gc : Nat → AG} {gs : Nat → GS} {Gc : AG} {Gs : GS} (hc : ∀ n k m pc ls st H r, gc n m pc ls st H = some r → gc (n + k) m pc ls st H = some r) (hs : ∀ n k pc ls st H r, gs n pc ls st H = some r → gs (n + k) pc ls st H = some r)
    (hC : ∀ m pc ls st H r, Gc m pc ls st H = some r → ∃ n, gc n m pc ls st H = some r) (hS : ∀ pc ls st H r, Gs pc ls st H = some r → ∃ n, gs n pc ls st H = some r) {m2 rk n : Nat} {l2 : ALs} {ls : ALs} {st : List AV} {H : Hp} {r : Option AV × Hp}
    (h : ((Gc m2 0 l2 [] H).bind fun u => thn rk n Gs ls st u) = some r) : ∃ k, ((gc k m2 0 l2 [] H).bind fun u => thn rk n (gs k) ls st u) = some r := by
  obtain ⟨v, h1, h2⟩ := Option.bind_eq_some_iff.mp h
  obtain ⟨k1, e1⟩ := hC _ _ _ _ _ _ h1
  obtain ⟨pc, ls2, st2, H2, h3, h4⟩ := thn_ex h2
  obtain ⟨k2, e2⟩ := hS _ _ _ _ _ h3
  refine ⟨k1 + k2, Option.bind_eq_some_iff.mpr ⟨v, hc _ _ _ _ _ _ _ _ e1, h4 _ ?_⟩⟩
  rw [Nat.add_comm]
  exact hs _ _ _ _ _ _ _ e2
theorem good_iC (n m2 mx na rk) : GoodS (iC n m2 mx na rk) := by
  refine ⟨fun gc gc' gs gs' hc hs ls st H r h => ?_, fun gc gs Gc Gs hc hs hC hS ls st H r h => ?_⟩ <;> unfold iC at h ⊢ <;> cases hf : popA na st [] with
  | none => rw [hf] at h; cases h
  | some q =>
    rw [hf] at h
    cases hb : (Nat.ble (catS q.2) 8 && Nat.ble (flA q.1).length mx) with
    | false => simp only [hb] at h; cases h
    | true => simp only [hb] at h ⊢; first | exact call_mono hc hs h | exact call_cont hc hs hC hS h
theorem good_iCV (n na rk tb) : GoodS (iCV n na rk tb) := by
  refine ⟨fun gc gc' gs gs' hc hs ls st H r h => ?_, fun gc gs Gc Gs hc hs hC hS ls st H r h => ?_⟩ <;> unfold iCV at h ⊢ <;> split at h <;> first | (cases h; done) | skip
  · rename_i r0 as st2 hq
    cases hb : (Nat.ble (catS st2) 8 && tb.all (fun q => Nat.ble (flA (.inr (.inr r0) :: as)).length q.2.2)) with
    | false => simp only [hb] at h; cases h
    | true =>
      simp only [hb, cond_true] at h ⊢
      obtain ⟨v, h1, h2⟩ := Option.bind_eq_some_iff.mp h
      exact Option.bind_eq_some_iff.mpr ⟨v, h1, call_mono hc hs h2⟩
  · rename_i r0 as st2 hq
    cases hb : (Nat.ble (catS st2) 8 && tb.all (fun q => Nat.ble (flA (.inr (.inr r0) :: as)).length q.2.2)) with
    | false => simp only [hb] at h; cases h
    | true =>
      simp only [hb, cond_true] at h ⊢
      obtain ⟨v, h1, h2⟩ := Option.bind_eq_some_iff.mp h
      obtain ⟨k, hk⟩ := call_cont hc hs hC hS h2
      exact ⟨k, Option.bind_eq_some_iff.mpr ⟨v, h1, hk⟩⟩
theorem good_iCK (n kd m2 mx na rk) : GoodS (iCK n kd m2 mx na rk) := by
  refine ⟨fun gc gc' gs gs' hc hs ls st H r h => ?_, fun gc gs Gc Gs hc hs hC hS ls st H r h => ?_⟩ <;> unfold iCK at h ⊢ <;> split at h <;> first | (cases h; done) | skip
  · rename_i r0 as st2 hq
    cases hb : ((Nat.ble (catS st2) 8 && Nat.ble (flA (.inr (.inr r0) :: as)).length mx) && Nat.beq (H.1 r0).1 kd) <;> rw [hb] at h
    · cases h
    · exact call_mono hc hs h
  · rename_i r0 as st2 hq
    cases hb : ((Nat.ble (catS st2) 8 && Nat.ble (flA (.inr (.inr r0) :: as)).length mx) && Nat.beq (H.1 r0).1 kd) <;> rw [hb] at h
    · cases h
    · obtain ⟨k, hk⟩ := call_cont hc hs hC hS h
      exact ⟨k, hk⟩
/-! the limit -/
theorem good_lkp : ∀ {T : List (Nat × AS)}, (∀ q ∈ T, GoodS q.2) → ∀ pc, GoodS (lkp T pc)
  | [], _, _ => ⟨fun _ _ _ _ _ _ _ _ _ _ h => h, fun _ _ _ _ _ _ _ _ _ _ _ _ h => ⟨0, h⟩⟩
  | q :: T, h, pc => by
    unfold lkp
    cases Nat.beq q.1 pc
    · exact good_lkp (fun x hx => h x (List.mem_cons_of_mem _ hx)) pc
    · exact h q List.mem_cons_self
theorem arun_mono {P : Nat → List (Nat × AS)} (hP : ∀ m, ∀ q ∈ P m, GoodS q.2) : ∀ n m pc ls st H r, arun P n m pc ls st H = some r → arun P (n + 1) m pc ls st H = some r
  | 0, _, _, _, _, _, _, h => by cases h
  | n + 1, m, pc, ls, st, H, r, h => (good_lkp (hP m) pc).1 _ _ _ _ (fun m pc ls st H r h => arun_mono hP n m pc ls st H r h) (fun pc ls st H r h => arun_mono hP n m pc ls st H r h) _ _ _ _ h
theorem arun_le {P : Nat → List (Nat × AS)} (hP : ∀ m, ∀ q ∈ P m, GoodS q.2) (n : Nat) : ∀ k m pc ls st H r, arun P n m pc ls st H = some r → arun P (n + k) m pc ls st H = some r
  | 0, _, _, _, _, _, _, h => h
  | k + 1, m, pc, ls, st, H, r, h => arun_mono hP _ _ _ _ _ _ _ (arun_le hP n k m pc ls st H r h)

noncomputable def evl (P : Nat → List (Nat × AS)) : AG := fun m pc ls st H => @dite _ (∃ r, ∃ n, arun P n m pc ls st H = some r) (Classical.propDecidable _) (fun h => some (Classical.choose h)) (fun _ => none)
theorem evl_some {P : Nat → List (Nat × AS)} (hP : ∀ m, ∀ q ∈ P m, GoodS q.2) {m pc ls st H r} : evl P m pc ls st H = some r ↔ ∃ n, arun P n m pc ls st H = some r := by
  unfold evl
  constructor
  · intro h
    split at h
    · rename_i hx
      cases h
      exact Classical.choose_spec hx
    · cases h
  · rintro ⟨n, hn⟩
    have hx : ∃ r, ∃ n, arun P n m pc ls st H = some r := ⟨r, n, hn⟩
    rw [dif_pos hx]
    obtain ⟨k, hk⟩ := Classical.choose_spec hx
    have a := arun_le hP n k _ _ _ _ _ _ hn
    have b := arun_le hP k n _ _ _ _ _ _ hk
    rw [Nat.add_comm] at b
    exact b.symm.trans a
theorem evl_eq {P : Nat → List (Nat × AS)} (hP : ∀ m, ∀ q ∈ P m, GoodS q.2) (m pc : Nat) (ls : ALs) (st : List AV) (H : Hp) : evl P m pc ls st H = lkp (P m) pc (evl P) (evl P m) ls st H := by
  apply Option.ext
  intro r
  rw [evl_some hP]
  constructor
  · rintro ⟨n, hn⟩
    cases n with
    | zero => cases hn
    | succ n => exact (good_lkp (hP m) pc).1 _ _ _ _ (fun _ _ _ _ _ _ h => (evl_some hP).mpr ⟨n, h⟩) (fun _ _ _ _ _ h => (evl_some hP).mpr ⟨n, h⟩) _ _ _ _ hn
  · intro h
    obtain ⟨n, hn⟩ := (good_lkp (hP m) pc).2 (arun P) (fun n => arun P n m) (evl P) (evl P m) (fun n k m pc ls st H r h => arun_le hP n k _ _ _ _ _ _ h) (fun n k pc ls st H r h => arun_le hP n k _ _ _ _ _ _ h) (fun _ _ _ _ _ _ h => (evl_some hP).mp h) (fun _ _ _ _ _ h => (evl_some hP).mp h) _ _ _ _ h
    exact ⟨n + 1, hn⟩
/-- a stretch of words, up to places of rest -/
def bk (T : List (Nat × AS)) (stops : List Nat) (gc : AG) (gs : GS) : Nat → GS
  | 0 => gs
  | k + 1 => fun pc ls st H => bif stops.any (Nat.beq pc) then gs pc ls st H else lkp T pc gc (bk T stops gc gs k) ls st H
theorem bk_eq {P : Nat → List (Nat × AS)} (hP : ∀ m, ∀ q ∈ P m, GoodS q.2) (m : Nat) (stops : List Nat) : ∀ k, bk (P m) stops (evl P) (evl P m) k = evl P m
  | 0 => rfl
  | k + 1 => by
    funext pc ls st H
    unfold bk
    rw [bk_eq hP m stops k, ← evl_eq hP]
    cases stops.any (Nat.beq pc) <;> rfl
theorem evl_bk {P : Nat → List (Nat × AS)} (hP : ∀ m, ∀ q ∈ P m, GoodS q.2) (m : Nat) (stops : List Nat) (k pc : Nat) (ls : ALs) (st : List AV) (H : Hp) : evl P m pc ls st H = lkp (P m) pc (evl P) (bk (P m) stops (evl P) (evl P m) k) ls st H := by
  rw [bk_eq hP, ← evl_eq hP]
