/-! words of the heap: fields -/
def hgI (H : Hp) (r f : Nat) : Option Int32 := bif hasF (H.1 r).1 f then some (H.2.2.1 r f) else none
def hgJ (H : Hp) (r f : Nat) : Option Int64 := bif hasF (H.1 r).1 f then some (H.2.2.2.1 r f) else none
def hgR (H : Hp) (r f : Nat) : Option Nat := bif hasF (H.1 r).1 f then some (H.2.2.2.2 r f) else none
def hpI (H : Hp) (r f : Nat) (v : Int32) : Option Hp := bif Nat.ble 4 r && hasF (H.1 r).1 f then some (hsI H r f v) else none
def hpZ (H : Hp) (r f : Nat) (v : Int32) : Option Hp := bif Nat.ble 4 r && (hasF (H.1 r).1 f && (decide (v = 0) || decide (v = 1))) then some (hsI H r f v) else none
def hpJ (H : Hp) (r f : Nat) (v : Int64) : Option Hp := bif hasF (H.1 r).1 f then some (hsL H r f v) else none
def hpR (H : Hp) (r f : Nat) (v : Nat) : Option Hp := bif hasF (H.1 r).1 f then some (hsR H r f v) else none
def gtI (f : Nat) : ALs → List AV → Hp → Option (Option Int32 × List AV) := fun _ st H => match st with
  | .inr (.inr r) :: st => some (hgI H r f, st)
  | _ => none
def gtJ (f : Nat) : ALs → List AV → Hp → Option (Option Int64 × List AV) := fun _ st H => match st with
  | .inr (.inr r) :: st => some (hgJ H r f, st)
  | _ => none
def gtR (f : Nat) : ALs → List AV → Hp → Option (Option Nat × List AV) := fun _ st H => match st with
  | .inr (.inr r) :: st => some (hgR H r f, st)
  | _ => none
def ptI (f : Nat) : ALs → List AV → Hp → Option (Option Hp × List AV) := fun _ st H => match st with
  | .inl v :: .inr (.inr r) :: st => some (hpI H r f v, st)
  | _ => none
def ptZ (f : Nat) : ALs → List AV → Hp → Option (Option Hp × List AV) := fun _ st H => match st with
  | .inl v :: .inr (.inr r) :: st => some (hpZ H r f v, st)
  | _ => none
def ptJ (f : Nat) : ALs → List AV → Hp → Option (Option Hp × List AV) := fun _ st H => match st with
  | .inr (.inl v) :: .inr (.inr r) :: st => some (hpJ H r f v, st)
  | _ => none
def ptR (f : Nat) : ALs → List AV → Hp → Option (Option Hp × List AV) := fun _ st H => match st with
  | .inr (.inr v) :: .inr (.inr r) :: st => some (hpR H r f v, st)
  | _ => none
theorem fl_out {ci : Nat} (h : 12 ≤ ci) : fl ci = [] := by
  unfold fl
  rw [List.getD_eq_getElem?_getD, List.getElem?_eq_none h]
  rfl
theorem adr_4 (X : CX) (k : Nat) : adr X (k + 4) = some (X.2.2.1 + k) := rfl
theorem cellE_obj {X : CX} {H : Hp} {r ci : Nat} (h : (H.1 r).1 = ci + 1) (hc : ci < 12) : cellE X H r = .inr (ci, (fl ci).map (fval X H r)) := by
  unfold cellE
  rw [h, if_pos (by omega), Nat.add_sub_cancel]
def OBJ (X : CX) (H : Hp) (r f : Nat) (Hc : Heap) (k ci j : Nat) (C : String) (T : u_T) (N : Nat) (ty : Nat → FieldType) : Prop :=
  r = k + 4 ∧ (H.1 r).1 = ci + 1 ∧ ci < 12 ∧ vwCl[ci]? = some (C, T, N) ∧ (∀ w ∈ u_ws C T N, w ∈ GT) ∧ (∀ k, k < N → parseFieldDescriptor (T k).2.2.1 = some (ty k)) ∧ (∀ a, a < N → ∀ b, b < N → a ≠ b → (T a).2.1 ≠ (T b).2.1) ∧ (fl ci).length = N ∧ (fl ci).Nodup ∧ j < N ∧ (fl ci)[j]? = some f ∧ T j = FN f ∧ tyok f (ty j) ∧
  va_at X.1 vwCl (X.2.2.1 + k, .inr (ci, (fl ci).map (fval X H r))) Hc
theorem obj_at {X : CX} {H : Hp} {r f : Nat} {Hc : Heap} (hH : HOK X H Hc) (hf : hasF (H.1 r).1 f = true) : ∃ k ci j C T N ty, OBJ X H r f Hc k ci j C T N ty := by
  unfold hasF at hf
  split at hf
  · cases hf
  · rename_i ci hk
    obtain ⟨f', hm, hb⟩ := List.any_eq_true.mp hf
    have e := Nat.eq_of_beq_eq_true hb
    subst e
    have hc : ci < 12 := Nat.lt_of_not_le fun q => by rw [fl_out q] at hm; cases hm
    obtain ⟨C, T, N, ty, h1, h2, h3, h4, h5, h6, h7⟩ := clf ci hc
    obtain ⟨j, hj⟩ := List.getElem?_of_mem hm
    have hjN : j < N := by rw [← h5]; exact (List.getElem?_eq_some_iff.mp hj).1
    obtain ⟨f', g1, g2, g3⟩ := h7 j hjN
    have e : f' = f := Option.some.inj (g1.symm.trans hj)
    subst e
    obtain ⟨k, a1, a2, a3⟩ := hH.at_ (r := r) (by omega) (by omega)
    refine ⟨k, ci, j, C, T, N, ty, a1, hk, hc, h1, h2, h3, h4, h5, h6, hjN, hj, g2, g3, ?_⟩
    rw [← cellE_obj hk hc, a1]
    exact a3
theorem va_P1 {D : va_G} {q : Nat × va_E} {H : Heap} (h : va_at D vwCl q H) : va_P D vwCl [q] H := by
  intro k x hk
  cases k with
  | zero => cases hk; exact h
  | succ k => cases hk
theorem s_same {args : Array Value} {s : State} (hts : ∀ w ∈ GT, w.before args s = true) {ref : String} {f : Nat} (hs : ref = (FN f).1 ∨ Cond.sameField ref (FN f).1 (FN f).2.1 (FN f).2.2.1 ∈ GT) (x : ClassId × Class × Nat × Field) (h : s.fieldFound? (FN f).1 (FN f).2.1 (FN f).2.2.1 = some x) : s.fieldFound? ref (FN f).2.1 (FN f).2.2.1 = some x := by
  rcases hs with rfl | hs
  · exact h
  · exact u_same (hts _ hs) x h
/-- a field is read -/
theorem get_ok {X : CX} {l : Launch} {m pc f idx : Nat} {ref : String} (hd : decode (cod m) pc = .ok (.getfield idx, 3)) (hl : Cond.fieldLink (yn m).cls idx ref (FN f).2.1 (FN f).2.2.1 ∈ GT) (hs : ref = (FN f).1 ∨ Cond.sameField ref (FN f).1 (FN f).2.1 (FN f).2.2.1 ∈ GT)
    {ls : ALs} {st : List AV} {H : Hp} {r : Nat} (hf : hasF (H.1 r).1 f = true) {v : AV} (hv : fval X H r f = cvv X v) : STEP X l m pc (pc + 3) ls (.inr (.inr r) :: st) H ls (v :: st) H := by
  refine step_pure rfl fun p e R s mid args below meth c Hc locs Q lsc cells slots hC hH hR hZ hS hl' hn hrm k0 => ?_
  obtain ⟨k, ci, j, C, T, N, ty, rfl, hk, hc, h1, h2, h3, h4, h5, h6, hjN, hj, hT, hty, hat⟩ := obj_at hH hf
  have k1 := k0 lsc hl'
  rw [List.map_cons, ← hv] at k1
  refine va_get (D := X.1) (own := (yn m).cls) (ref := ref) (ci := ci) hC.1 hC.2.1 hC.2.2.2.2.1 h2 hC.2.2.2.1 hC.2.2.2.2.2.2.1 (va_P1 hat) 0 rfl h1 j hjN (by rw [hT]; exact hC.2.2.2.2.1 _ hl) (by rw [hT]; exact s_same hC.2.2.2.2.1 hs) (v := fval X H (k + 4) f) ?_ hd k1
  rw [List.getElem?_map, hj]
  rfl
theorem s_getI {X : CX} {l : Launch} {m pc f idx : Nat} {ref : String} (hd : decode (cod m) pc = .ok (.getfield idx, 3)) (hl : Cond.fieldLink (yn m).cls idx ref (FN f).2.1 (FN f).2.2.1 ∈ GT) (hs : ref = (FN f).1 ∨ Cond.sameField ref (FN f).1 (FN f).2.1 (FN f).2.2.1 ∈ GT) (ht : ftc f = 0 ∨ ftc f = 3) : SI X l m pc (iRI (pc + 3) (gtI f)) := by
  refine si_iRI fun ls st H v st' h => ?_
  unfold gtI at h
  split at h
  · rename_i r st2
    unfold hgI at h
    cases hb : hasF (H.1 r).1 f with
    | false => rw [hb] at h; simp at h
    | true =>
      rw [hb] at h
      cases h
      exact get_ok hd hl hs hb (by unfold fval; rw [if_neg (by omega), if_neg (by omega)]; rfl)
  · cases h
theorem s_getJ {X : CX} {l : Launch} {m pc f idx : Nat} {ref : String} (hd : decode (cod m) pc = .ok (.getfield idx, 3)) (hl : Cond.fieldLink (yn m).cls idx ref (FN f).2.1 (FN f).2.2.1 ∈ GT) (hs : ref = (FN f).1 ∨ Cond.sameField ref (FN f).1 (FN f).2.1 (FN f).2.2.1 ∈ GT) (ht : ftc f = 1) : SI X l m pc (iRJ (pc + 3) (gtJ f)) := by
  refine si_iRJ fun ls st H v st' h => ?_
  unfold gtJ at h
  split at h
  · rename_i r st2
    unfold hgJ at h
    cases hb : hasF (H.1 r).1 f with
    | false => rw [hb] at h; simp at h
    | true =>
      rw [hb] at h
      cases h
      exact get_ok hd hl hs hb (by unfold fval; rw [if_pos ht]; rfl)
  · cases h
theorem s_getR {X : CX} {l : Launch} {m pc f idx : Nat} {ref : String} (hd : decode (cod m) pc = .ok (.getfield idx, 3)) (hl : Cond.fieldLink (yn m).cls idx ref (FN f).2.1 (FN f).2.2.1 ∈ GT) (hs : ref = (FN f).1 ∨ Cond.sameField ref (FN f).1 (FN f).2.1 (FN f).2.2.1 ∈ GT) (ht : ftc f = 2) : SI X l m pc (iRR (pc + 3) (gtR f)) := by
  refine si_iRR fun ls st H v st' h => ?_
  unfold gtR at h
  split at h
  · rename_i r st2
    unfold hgR at h
    cases hb : hasF (H.1 r).1 f with
    | false => rw [hb] at h; simp at h
    | true =>
      rw [hb] at h
      cases h
      exact get_ok hd hl hs hb (by unfold fval; rw [if_neg (by omega), if_pos ht]; rfl)
  · cases h
theorem ROs.w {H H' : Hp} {r : Nat} (hr : 4 ≤ r) (h1 : H'.1 = H.1) (h2 : ∀ q, q ≠ r → H'.2.2.1 q = H.2.2.1 q) : ROs H H' := fun k hk => ⟨by rw [h1], h2 k (by omega)⟩
/-- a field is written -/
theorem put_ok {X : CX} {l : Launch} {m pc f idx : Nat} {ref : String} (hd : decode (cod m) pc = .ok (.putfield idx, 3)) (hl : Cond.fieldLink (yn m).cls idx ref (FN f).2.1 (FN f).2.2.1 ∈ GT) (hs : ref = (FN f).1 ∨ Cond.sameField ref (FN f).1 (FN f).2.1 (FN f).2.2.1 ∈ GT)
    (hfin : (FN f).2.2.2 = false ∨ ((FN f).2.2.2 = true ∧ (yn m).name = "<init>" ∧ (FN f).1 = (yn m).cls))
    {ls : ALs} {st : List AV} {H H1 : Hp} {r : Nat} (hf : hasF (H.1 r).1 f = true) {v : AV} (hnf : ∀ ty, tyok f ty → narrow ty (cvv X v) = cvv X v ∧ fits ty (cvv X v) = true)
    (hA : H1.1 = H.1) (hB : H1.2.1 = H.2.1) (hne : ∀ q, q ≠ r → cellE X H1 q = cellE X H q) (hfv : ∀ g, fval X H1 r g = if g = f then cvv X v else fval X H r g) : STEP X l m pc (pc + 3) ls (v :: .inr (.inr r) :: st) H ls st H1 := by
  intro p e R s mid args below meth c Hc locs Q lsc cells slots hC hH hR hZ hS hz hl' hn hrm k0
  rw [hB, Nat.sub_self, Nat.sub_self, Nat.add_zero, Nat.add_zero] at k0
  obtain ⟨k, ci, j, C, T, N, ty, rfl, hk, hc, h1, h2, h3, h4, h5, h6, hjN, hj, hT, hty, hat⟩ := obj_at hH hf
  obtain ⟨hx, hb, hml, hown, hts, hnm, hK, -⟩ := hC
  obtain ⟨hn1, hn2⟩ := hnf _ hty
  have hap := va_apart (own := (yn m).cls) (D := X.1) (cl := vwCl) (ci := ci) hts h2 ty h3 h4 hK h1
  obtain ⟨r9, g1, cell, q1, q2, q3, q4⟩ := hat
  have hr : r9 = (C, T, N) := Option.some.inj (g1.symm.trans h1)
  subst hr
  obtain ⟨hSl, hfc, kC, hkC, hkind⟩ := hK.1 ci _ h1
  obtain ⟨cf, kf, fi, fd, hi, hsl⟩ := hSl j hjN
  have hlays := u_lays hts h2 hjN
  have hst := (u_facts hfc hkC hlays hi).1
  have hi2 : s.fieldFound? ref (T j).2.1 (T j).2.2.1 = some (cf, kf, fi, fd) := by
    have hi' : s.fieldFound? (T j).1 (T j).2.1 (T j).2.2.1 = some (cf, kf, fi, fd) := hi
    rw [hT] at hi' ⊢
    exact s_same hts hs _ hi'
  have hlink : (Cond.fieldLink (yn m).cls idx ref (T j).2.1 (T j).2.2.1).before args s = true := by rw [hT]; exact hts _ hl
  have hcell : Hc[X.2.2.1 + k]? = some cell := q1
  have fin : ∀ H' : Heap, H'[X.2.2.1 + k]? = some (cell.setSlot fd.slot (cvv X v)) → H'.size = Hc.size → (∀ q, q ≠ X.2.2.1 + k → H'[q]? = Hc[q]?) → W p l e R s mid args below meth c H' (locs ++ [⟨X.2.2.1 + k, fd.slot⟩]) cells slots Q (F0 mid (pc + 3) lsc (st.map (cvv X))) := by
    intro H' e1 e2 e3
    rw [hsl] at e1 ⊢
    refine k0 H' _ lsc ?_ (hS.put e2 e3 (Nat.le_add_right _ _)) hl' hn
    refine hH.upd hA hB (k := k) (fun q hq => hne q hq) e2 e3 ?_
    rw [cellE_obj (by rw [hA]; exact hk) hc]
    refine ⟨_, h1, t_OB.to (V := updV (vp_V ((fl ci).map (fval X H (k + 4)))) j (cvv X v)) ⟨_, e1, q2, q3, t_set q4 hap hjN (cvv X v)⟩ (fun i hi9 => ?_)⟩
    have hi9 : i < (fl ci).length := by rw [h5]; exact hi9
    have ei : (fl ci)[i]? = some (fl ci)[i] := List.getElem?_eq_getElem hi9
    simp only [updV, vp_V, List.getD_eq_getElem?_getD, List.getElem?_map, ei, Option.map_some, Option.getD_some, hfv]
    by_cases e9 : i = j
    · subst e9
      have : (fl ci)[i] = f := Option.some.inj (ei.symm.trans hj)
      rw [if_pos rfl, if_pos this]
    · have : (fl ci)[i] ≠ f := fun q => by
        have hj9 := (List.getElem?_eq_some_iff.mp hj)
        exact e9 ((List.getElem_inj h6).mp (q.trans hj9.2.symm))
      rw [if_neg e9, if_neg this]
  have hst9 : (v :: Sum.inr (Sum.inr (k + 4)) :: st).map (cvv X) = cvv X v :: .ref (X.2.2.1 + k) :: st.map (cvv X) := rfl
  rw [hst9]
  rcases hfin with hfin | ⟨hfin, hi1, hi3⟩
  · have hlay := hts _ (h2 _ (u_in_lay hjN))
    unfold u_lay at hlay
    rw [hT, if_neg (by rw [hfin]; decide), ← hT] at hlay
    have h6' := u_store hfc hkC hkind hlay hi (h3 j hjN) hn1 hn2
    exact W.putK hx hb (f := fd) ⟨hown, hlink, ⟨_, _, _, hi2⟩, hst⟩ (by rw [q2]; exact h6') hcell q3 (by rw [hsl]; exact k2_hasslot (q4 j hjN)) rfl rfl hd fin
  · have hlay := hts _ (h2 _ (u_in_lay hjN))
    unfold u_lay at hlay
    rw [hT, if_pos hfin, ← hT] at hlay
    have hcf : mid.cls = cf := by
      obtain ⟨_, _, c', _, _, _, -, -, hf', -, -, -, hown2, -⟩ := Cond.laysFinal_spec hlay
      have e1 : c' = cf := by have := hi.symm.trans hf'; simp at this; exact this.1.symm
      rw [hT, hi3] at hown2
      rw [← e1]; exact Option.some.inj (hown.symm.trans hown2)
    have h6' := u_fits hfc hkC hkind (Or.inr hlay) hi (h3 j hjN) hn1 hn2
    exact W.putFinK hx hb hown hlink hi2 hst hcf (hnm.trans hi1) (by rw [q2]; exact h6') hcell q3 (by rw [hsl]; exact k2_hasslot (q4 j hjN)) rfl rfl hd fin
theorem hasF_4 {X : CX} {H : Hp} {Hc : Heap} (hH : HOK X H Hc) {r f : Nat} (hf : hasF (H.1 r).1 f = true) : 4 ≤ r := by
  obtain ⟨k, _, _, _, _, _, _, e, _⟩ := obj_at hH hf
  omega
theorem tyok_0 {f : Nat} {ty : FieldType} (h : tyok f ty) (h0 : ftc f = 0) : ty = .int := by
  rcases h with ⟨a, b⟩ | ⟨a, b⟩ | ⟨a, b⟩ | ⟨a, b⟩ <;> first | exact b | omega
theorem tyok_1 {f : Nat} {ty : FieldType} (h : tyok f ty) (h0 : ftc f = 1) : ty = .long := by
  rcases h with ⟨a, b⟩ | ⟨a, b⟩ | ⟨a, b⟩ | ⟨a, b⟩ <;> first | exact b | omega
theorem tyok_3 {f : Nat} {ty : FieldType} (h : tyok f ty) (h0 : ftc f = 3) : ty = .boolean := by
  rcases h with ⟨a, b⟩ | ⟨a, b⟩ | ⟨a, b⟩ | ⟨a, b⟩ <;> first | exact b | omega
theorem tyok_2 {f : Nat} {ty : FieldType} (h : tyok f ty) (h0 : ftc f = 2) : (∃ n, ty = .object n) ∨ ∃ u, ty = .array u := by
  rcases h with ⟨a, b⟩ | ⟨a, b⟩ | ⟨a, b⟩ | ⟨a, b⟩ <;> first | exact b | omega
theorem rf_nf {X : CX} {v : Nat} {ty : FieldType} (h : (∃ n, ty = .object n) ∨ ∃ u, ty = .array u) : narrow ty (cvv X (.inr (.inr v))) = cvv X (.inr (.inr v)) ∧ fits ty (cvv X (.inr (.inr v))) = true := by
  show narrow ty (va_rf (adr X v)) = va_rf (adr X v) ∧ fits ty (va_rf (adr X v)) = true
  rcases h with ⟨n, rfl⟩ | ⟨n, rfl⟩ <;> cases adr X v <;> exact ⟨rfl, rfl⟩

theorem fval_I {X : CX} {H : Hp} {r f g : Nat} {v : Int32} (h : ftc f = 0 ∨ ftc f = 3) : fval X (hsI H r f v) r g = if g = f then .int v else fval X H r g := by
  unfold fval
  by_cases e : g = f
  · subst e
    rw [if_neg (by omega), if_neg (by omega), if_pos rfl]
    simp [up2, up1]
  · rw [if_neg e]
    simp [up2, up1, e]
theorem fval_J {X : CX} {H : Hp} {r f g : Nat} {v : Int64} (h : ftc f = 1) : fval X (hsL H r f v) r g = if g = f then .long v else fval X H r g := by
  unfold fval
  by_cases e : g = f
  · subst e
    rw [if_pos h, if_pos rfl]
    simp [up2, up1]
  · rw [if_neg e]
    simp [up2, up1, e]
theorem fval_R {X : CX} {H : Hp} {r f g : Nat} {v : Nat} (h : ftc f = 2) : fval X (hsR H r f v) r g = if g = f then va_rf (adr X v) else fval X H r g := by
  unfold fval
  by_cases e : g = f
  · subst e
    rw [if_neg (by omega), if_pos h, if_pos rfl]
    simp [up2, up1]
  · rw [if_neg e]
    simp [up2, up1, e]
theorem ros_I {H : Hp} {r f : Nat} {v : Int32} (hr : 4 ≤ r) : ROs H (hsI H r f v) := fun k hk => ⟨rfl, by show up2 H.2.2.1 r f v k = _; simp [up2, show k ≠ r by omega]⟩
theorem ros_J {H : Hp} {r f : Nat} {v : Int64} : ROs H (hsL H r f v) := fun k hk => ⟨rfl, rfl⟩
theorem ros_R {H : Hp} {r f : Nat} {v : Nat} : ROs H (hsR H r f v) := fun k hk => ⟨rfl, rfl⟩
abbrev FINOK (m f : Nat) : Prop := (FN f).2.2.2 = false ∨ ((FN f).2.2.2 = true ∧ (yn m).name = "<init>" ∧ (FN f).1 = (yn m).cls)
theorem s_putI {X : CX} {l : Launch} {m pc f idx : Nat} {ref : String} (hd : decode (cod m) pc = .ok (.putfield idx, 3)) (hl : Cond.fieldLink (yn m).cls idx ref (FN f).2.1 (FN f).2.2.1 ∈ GT) (hs : ref = (FN f).1 ∨ Cond.sameField ref (FN f).1 (FN f).2.1 (FN f).2.2.1 ∈ GT) (hfin : FINOK m f) (ht : ftc f = 0) : SI X l m pc (iW (pc + 3) (ptI f)) := by
  refine si_iW fun ls st H H1 st' h => ?_
  unfold ptI at h
  split at h
  · rename_i v r st2
    unfold hpI at h
    cases hb : (Nat.ble 4 r && hasF (H.1 r).1 f) with
    | false => rw [hb] at h; simp at h
    | true =>
      rw [hb] at h
      cases h
      rw [Bool.and_eq_true] at hb
      have h4 : 4 ≤ r := Nat.le_of_ble_eq_true hb.1
      exact ⟨GR.rf, ros_I h4, put_ok hd hl hs hfin hb.2 (v := .inl v) (fun ty hty => by rw [tyok_0 hty ht]; exact ⟨rfl, rfl⟩) rfl rfl (fun q hq => cellE_ne_I hq) (fun g => fval_I (Or.inl ht))⟩
  · cases h
theorem s_putZ {X : CX} {l : Launch} {m pc f idx : Nat} {ref : String} (hd : decode (cod m) pc = .ok (.putfield idx, 3)) (hl : Cond.fieldLink (yn m).cls idx ref (FN f).2.1 (FN f).2.2.1 ∈ GT) (hs : ref = (FN f).1 ∨ Cond.sameField ref (FN f).1 (FN f).2.1 (FN f).2.2.1 ∈ GT) (hfin : FINOK m f) (ht : ftc f = 3) : SI X l m pc (iW (pc + 3) (ptZ f)) := by
  refine si_iW fun ls st H H1 st' h => ?_
  unfold ptZ at h
  split at h
  · rename_i v r st2
    unfold hpZ at h
    cases hb : (Nat.ble 4 r && (hasF (H.1 r).1 f && (decide (v = 0) || decide (v = 1)))) with
    | false => rw [hb] at h; simp at h
    | true =>
      rw [hb] at h
      cases h
      simp only [Bool.and_eq_true, Bool.or_eq_true, decide_eq_true_eq] at hb
      have h4 : 4 ≤ r := Nat.le_of_ble_eq_true hb.1
      refine ⟨GR.rf, ros_I h4, put_ok hd hl hs hfin hb.2.1 (v := .inl v) (fun ty hty => ?_) rfl rfl (fun q hq => cellE_ne_I hq) (fun g => fval_I (Or.inr ht))⟩
      rw [tyok_3 hty ht]
      rcases hb.2.2 with rfl | rfl
      · exact ⟨rfl, rfl⟩
      · exact ⟨rfl, rfl⟩
  · cases h
theorem s_putJ {X : CX} {l : Launch} {m pc f idx : Nat} {ref : String} (hd : decode (cod m) pc = .ok (.putfield idx, 3)) (hl : Cond.fieldLink (yn m).cls idx ref (FN f).2.1 (FN f).2.2.1 ∈ GT) (hs : ref = (FN f).1 ∨ Cond.sameField ref (FN f).1 (FN f).2.1 (FN f).2.2.1 ∈ GT) (hfin : FINOK m f) (ht : ftc f = 1) : SI X l m pc (iW (pc + 3) (ptJ f)) := by
  refine si_iW fun ls st H H1 st' h => ?_
  unfold ptJ at h
  split at h
  · rename_i v r st2
    unfold hpJ at h
    cases hb : hasF (H.1 r).1 f with
    | false => rw [hb] at h; simp at h
    | true =>
      rw [hb] at h
      cases h
      exact ⟨GR.rf, ros_J, put_ok hd hl hs hfin hb (v := .inr (.inl v)) (fun ty hty => by rw [tyok_1 hty ht]; exact ⟨rfl, rfl⟩) rfl rfl (fun q hq => cellE_ne_L hq) (fun g => fval_J ht)⟩
  · cases h
theorem s_putR {X : CX} {l : Launch} {m pc f idx : Nat} {ref : String} (hd : decode (cod m) pc = .ok (.putfield idx, 3)) (hl : Cond.fieldLink (yn m).cls idx ref (FN f).2.1 (FN f).2.2.1 ∈ GT) (hs : ref = (FN f).1 ∨ Cond.sameField ref (FN f).1 (FN f).2.1 (FN f).2.2.1 ∈ GT) (hfin : FINOK m f) (ht : ftc f = 2) : SI X l m pc (iW (pc + 3) (ptR f)) := by
  refine si_iW fun ls st H H1 st' h => ?_
  unfold ptR at h
  split at h
  · rename_i v r st2
    unfold hpR at h
    cases hb : hasF (H.1 r).1 f with
    | false => rw [hb] at h; simp at h
    | true =>
      rw [hb] at h
      cases h
      exact ⟨GR.rf, ros_R, put_ok hd hl hs hfin hb (v := .inr (.inr v)) (fun ty hty => rf_nf (tyok_2 hty ht)) rfl rfl (fun q hq => cellE_ne_R hq) (fun g => fval_R ht)⟩
  · cases h
