/-- a run that follows the words -/
def FIX (G : AG) : Prop := ∀ m pc ls st H, G m pc ls st H = lkp (PT m) pc G (G m) ls st H
theorem ev_fix : FIX ev := fun m pc ls st H => evl_eq PT_good m pc ls st H
theorem e1 {G : AG} (hG : FIX G) {m pc : Nat} {T : List (Nat × AS)} {w : AS} (hT : PT m = T) (h : lkp T pc = w) (ls : ALs) (st : List AV) (H : Hp) : G m pc ls st H = w G (G m) ls st H := by rw [hG, hT, h]
theorem bdc {α β : Type} {q : Option α} {f g : α → Option β} (h : ∀ v, f v = g v) : q.bind f = q.bind g := congrArg _ (funext h)
theorem bfc {α : Type} {c : Bool} {a a' b b' : α} (h1 : a = a') (h2 : b = b') : (bif c then a else b) = bif c then a' else b' := by rw [h1, h2]
def retZ (v : Int32) (H : Hp) : RT := match rZ [.inl v] with
  | some r => some (r, H)
  | none => none
