/-! casts, Math, Object's constructor, clone, arrays of arrays -/
theorem catS_eq (X : CX) : ∀ st : List AV, ((st.map (cvv X)).map fun v => v.category).sum = catS st
  | [] => rfl
  | .inl v :: st => by simp only [List.map_cons, List.sum_cons, catS_eq X st, catS]; simp [cvv, Value.category]; omega
  | .inr (.inl v) :: st => by simp only [List.map_cons, List.sum_cons, catS_eq X st, catS]; simp [cvv, Value.category]; omega
  | .inr (.inr v) :: st => by
    have h : (cvv X (.inr (.inr v))).category = 1 := cvv_cat1 (fun _ q => by cases q)
    simp only [List.map_cons, List.sum_cons, catS_eq X st, catS, h]
    omega
def qCast (ks : List Nat) : ALs → List AV → Hp → Option (Option Nat × List AV) := fun _ st H => match st with
  | .inr (.inr r) :: st => some (bif Nat.beq r 0 || ks.any (Nat.beq (H.1 r).1) then some r else none, st)
  | _ => none
def qInst (ys ns : List Nat) : ALs → List AV → Hp → Option (Option Int32 × List AV) := fun _ st H => match st with
  | .inr (.inr r) :: st => some (bif Nat.beq r 0 then some 0 else bif ys.any (Nat.beq (H.1 r).1) then some 1 else bif ns.any (Nat.beq (H.1 r).1) then some 0 else none, st)
  | _ => none
/-- a kind that is an object of class C -/
def KDC (kd : Nat) (C : String) : Prop := ∃ ci T N, kd = ci + 1 ∧ ci < 12 ∧ vwCl[ci]? = some (C, T, N)
theorem any_mem {ks : List Nat} {k : Nat} (h : ks.any (Nat.beq k) = true) : k ∈ ks := by
  obtain ⟨x, hx, hb⟩ := List.any_eq_true.mp h
  rw [beq_eq hb]
  exact hx
theorem kdc_cell {X : CX} {H : Hp} {Hc : Heap} {U : State} (hH : HOK X H Hc) (hK : va_K X.1 vwCl (atys X) U) {r : Nat} {C : String} (hk : KDC (H.1 r).1 C) : ∃ k, r = k + 4 ∧ (∃ cell, Hc[X.2.2.1 + k]? = some cell ∧ cell.vm.isStatics = false ∧ U.vm.findClass C = some cell.cls) ∧ ∃ cC, ClassAt U C cC := by
  obtain ⟨ci, T, N, h1, h2, h3⟩ := hk
  obtain ⟨k, cell, e, g1, g2, g3, g4⟩ := obj_cell hH hK h1 h2 h3
  exact ⟨k, e, ⟨cell, g1, by rw [g2]; rfl, by rw [g3]; exact g4.1⟩, _, g4⟩
theorem s_cast {X : CX} {l : Launch} {m pc idx : Nat} {nm : String} {ks : List Nat} (hd : decode (cod m) pc = .ok (.checkcast idx, 3)) (hl0 : Cond.classLink (yn m).cls idx nm ∈ GT) (hk : ∀ kd ∈ ks, ∃ C, KDC kd C ∧ (C = nm ∨ Cond.castable C nm ∈ EXW)) : SI X l m pc (iRR (pc + 3) (qCast ks)) := by
  refine si_iRR fun ls st H v st' h => ?_
  unfold qCast at h
  split at h
  · rename_i r st2
    cases hb : (Nat.beq r 0 || ks.any (Nat.beq (H.1 r).1)) with
    | false => rw [hb] at h; simp at h
    | true =>
      rw [hb] at h
      cases h
      rw [Bool.or_eq_true] at hb
      refine step_pure rfl fun p e R s mid args below meth c Hc locs Q lsc cells slots hC hH hR hZ hS hl hn hrm k0 => ?_
      have k1 := k0 lsc hl
      by_cases h0 : v = 0
      · subst h0
        exact lv_castN hC.1 hC.2.1 hd k1
      · have hb : ks.any (Nat.beq (H.1 v).1) = true := by
          rcases hb with hb | hb
          · exact absurd (beq_eq hb) h0
          · exact hb
        obtain ⟨C, hC1, hC2⟩ := hk _ (any_mem hb)
        obtain ⟨k, rfl, hcell, cC, hca⟩ := kdc_cell hH hC.2.2.2.2.2.2.1 hC1
        rcases hC2 with rfl | hC2
        · exact va_castS hC.1 hC.2.1 hC.2.2.2.1 (hC.2.2.2.2.1 _ hl0) hca hcell hd k1
        · exact va_castY hC.1 hC.2.1 hC.2.2.2.1 (hC.2.2.2.2.1 _ hl0) (hC.2.2.2.2.2.2.2.1 _ hC2) hcell hd k1
  · cases h
theorem s_castI {X : CX} {l : Launch} {m pc idx : Nat} (hd : decode (cod m) pc = .ok (.checkcast idx, 3)) (hl0 : Cond.classLink (yn m).cls idx "[I" ∈ GT) : SI X l m pc (iRR (pc + 3) (qCast [20])) := by
  refine si_iRR fun ls st H v st' h => ?_
  unfold qCast at h
  split at h
  · rename_i r st2
    cases hb : (Nat.beq r 0 || [20].any (Nat.beq (H.1 r).1)) with
    | false => rw [hb] at h; simp at h
    | true =>
      rw [hb] at h
      cases h
      rw [Bool.or_eq_true] at hb
      refine step_pure rfl fun p e R s mid args below meth c Hc locs Q lsc cells slots hC hH hR hZ hS hl hn hrm k0 => ?_
      have k1 := k0 lsc hl
      by_cases h0 : v = 0
      · subst h0
        exact lv_castN hC.1 hC.2.1 hd k1
      · have hb : (H.1 v).1 = 20 := by
          rcases hb with hb | hb
          · exact absurd (beq_eq hb) h0
          · simpa using any_mem hb
        obtain ⟨k, rfl, hat⟩ := arr_at hH (r := v) (by omega) (by omega)
        rw [cellE_i hb] at hat
        exact va_castA hC.1 hC.2.1 hC.2.2.2.1 (hC.2.2.2.2.1 _ hl0) (va_P1 hat) 0 rfl (hC.2.2.2.2.2.2.1.2 0 _ rfl).2 hd k1
  · cases h
def NCok (C nm : String) : Prop := (C, nm) ∈ NCW ∨ (nm = "StepsAhead$Counted" ∧ (C = "StepsAhead$Either" ∨ C = "StepsAhead$Op" ∨ C = "StepsAhead$Work"))
theorem s_inst {X : CX} {l : Launch} {m pc idx : Nat} {nm : String} {ys ns : List Nat} (hd : decode (cod m) pc = .ok (.instanceof idx, 3)) (hl0 : Cond.classLink (yn m).cls idx nm ∈ GT) (hy : ∀ kd ∈ ys, ∃ C, KDC kd C ∧ (C = nm ∨ Cond.castable C nm ∈ EXW)) (hno : ∀ kd ∈ ns, ∃ C, KDC kd C ∧ NCok C nm) : SI X l m pc (iRI (pc + 3) (qInst ys ns)) := by
  refine si_iRI fun ls st H v st' h => ?_
  unfold qInst at h
  split at h
  · rename_i r st2
    refine step_pure rfl fun p e R s mid args below meth c Hc locs Q lsc cells slots hC hH hR hZ hS hl hn hrm k0 => ?_
    have k1 := k0 lsc hl
    have hKK := hC.2.2.2.2.2.2
    by_cases h0 : r = 0
    · subst h0
      cases h
      exact lv_instN hC.1 hC.2.1 hd k1
    · have e0 : Nat.beq r 0 = false := by cases hb : Nat.beq r 0 with | false => rfl | true => exact absurd (beq_eq hb) h0
      rw [e0] at h
      cases hb : ys.any (Nat.beq (H.1 r).1) with
      | true =>
        rw [hb] at h
        cases h
        obtain ⟨C, hC1, hC2⟩ := hy _ (any_mem hb)
        obtain ⟨k, rfl, hcell, cC, hca⟩ := kdc_cell hH hKK.1 hC1
        rcases hC2 with rfl | hC2
        · exact va_instS hC.1 hC.2.1 hC.2.2.2.1 (hC.2.2.2.2.1 _ hl0) hca hcell hd k1
        · exact va_instY hC.1 hC.2.1 hC.2.2.2.1 (hC.2.2.2.2.1 _ hl0) (hKK.2.1 _ hC2) hcell hd k1
      | false =>
        rw [hb] at h
        cases hb2 : ns.any (Nat.beq (H.1 r).1) with
        | false => rw [hb2] at h; simp at h
        | true =>
          rw [hb2] at h
          cases h
          obtain ⟨C, hC1, hC2⟩ := hno _ (any_mem hb2)
          obtain ⟨k, rfl, hcell, cC, hca⟩ := kdc_cell hH hKK.1 hC1
          have hnc : va_Nc C nm s := by
            rcases hC2 with hC2 | ⟨rfl, rfl | rfl | rfl⟩
            · exact hKK.2.2.1 _ hC2
            · exact hKK.2.2.2.1.1
            · exact hKK.2.2.2.1.2.1
            · exact hKK.2.2.2.1.2.2
          exact va_instNo hC.1 hC.2.1 hC.2.2.2.1 (hC.2.2.2.2.1 _ hl0) hnc hcell hd k1
  · cases h
def fM2 (op : Int32 → Int32 → Int32) : ALs → List AV → Hp → Option (ALs × List AV × Hp) := fun ls st H => match st with
  | .inl y :: .inl x :: st => bif Nat.ble (catS st) 8 then some (ls, .inl (op x y) :: st, H) else none
  | _ => none
def fMJ2 (op : Int64 → Int64 → Int64) : ALs → List AV → Hp → Option (ALs × List AV × Hp) := fun ls st H => match st with
  | .inr (.inl y) :: .inr (.inl x) :: st => bif Nat.ble (catS st) 8 then some (ls, .inr (.inl (op x y)) :: st, H) else none
  | _ => none
def fMJ1 (op : Int64 → Int64) : ALs → List AV → Hp → Option (ALs × List AV × Hp) := fun ls st H => match st with
  | .inr (.inl x) :: st => bif Nat.ble (catS st) 8 then some (ls, .inr (.inl (op x)) :: st, H) else none
  | _ => none
theorem s_mmax {X : CX} {l : Launch} {m pc idx : Nat} (hd : decode (cod m) pc = .ok (.invokestatic idx, 3)) (h1 : Cond.methodLink (yn m).cls idx Lib.Math.max.name ∈ GT) (h2 : Cond.static Lib.Math.max.name ∈ GT) (h3 : Cond.initialized "java/lang/Math" ∈ GT) (h4 : Cond.code Lib.Math.max.name Lib.Math.max.code 2 (some .int) ∈ GT) (hfr : 1 ≤ frs m ∧ 40 ≤ los m) : SI X l m pc (iP (pc + 3) (fM2 (fun x y => if x < y then y else x))) := by
  refine si_iP fun ls st H q h => ?_
  unfold fM2 at h
  split at h
  · rename_i y x st2
    cases hb : Nat.ble (catS st2) 8 with
    | false => rw [hb] at h; cases h
    | true =>
      rw [hb] at h
      cases h
      have hb := Nat.le_of_ble_eq_true hb
      refine ⟨GR.rf, ROs.rf, step_pure rfl fun p e R s mid args below meth c Hc locs Q lsc cells slots hC hH hR hZ hS hl hn hrm k0 => ?_⟩
      have hts := hC.2.2.2.2.1
      exact va_mmax hC.1 hC.2.1 (hC.2.2.1.trans hl.1.symm) hC.2.2.2.1 (hts _ h1) (hts _ h2) (hts _ h3) (hts _ h4) (by have := hrm.1; omega) (by rw [catS_eq]; have := hrm.2.1; omega) hrm.2.2.1 hrm.2.2.2 hd (k0 lsc hl)
  · cases h
theorem s_mmin {X : CX} {l : Launch} {m pc idx : Nat} (hd : decode (cod m) pc = .ok (.invokestatic idx, 3)) (h1 : Cond.methodLink (yn m).cls idx Lib.Math.min.name ∈ GT) (h2 : Cond.static Lib.Math.min.name ∈ GT) (h3 : Cond.initialized "java/lang/Math" ∈ GT) (h4 : Cond.code Lib.Math.min.name Lib.Math.min.code 2 (some .int) ∈ GT) (hfr : 1 ≤ frs m ∧ 40 ≤ los m) : SI X l m pc (iP (pc + 3) (fM2 (fun x y => if y < x then y else x))) := by
  refine si_iP fun ls st H q h => ?_
  unfold fM2 at h
  split at h
  · rename_i y x st2
    cases hb : Nat.ble (catS st2) 8 with
    | false => rw [hb] at h; cases h
    | true =>
      rw [hb] at h
      cases h
      have hb := Nat.le_of_ble_eq_true hb
      refine ⟨GR.rf, ROs.rf, step_pure rfl fun p e R s mid args below meth c Hc locs Q lsc cells slots hC hH hR hZ hS hl hn hrm k0 => ?_⟩
      have hts := hC.2.2.2.2.1
      exact va_mmin hC.1 hC.2.1 (hC.2.2.1.trans hl.1.symm) hC.2.2.2.1 (hts _ h1) (hts _ h2) (hts _ h3) (hts _ h4) (by have := hrm.1; omega) (by rw [catS_eq]; have := hrm.2.1; omega) hrm.2.2.1 hrm.2.2.2 hd (k0 lsc hl)
  · cases h
theorem s_lmax {X : CX} {l : Launch} {m pc idx : Nat} (hd : decode (cod m) pc = .ok (.invokestatic idx, 3)) (h1 : Cond.methodLink (yn m).cls idx Lib.MathLoose.max_long.x ∈ GT) (h2 : Cond.static Lib.MathLoose.max_long.x ∈ GT) (h3 : Cond.initialized "java/lang/Math" ∈ GT) (h4 : Cond.code Lib.MathLoose.max_long.x Lib.MathLoose.max_long.code 4 (some .long) ∈ GT) (hfr : 1 ≤ frs m ∧ 40 ≤ los m) : SI X l m pc (iP (pc + 3) (fMJ2 (fun x y => if y < x then x else y))) := by
  refine si_iP fun ls st H q h => ?_
  unfold fMJ2 at h
  split at h
  · rename_i y x st2
    cases hb : Nat.ble (catS st2) 8 with
    | false => rw [hb] at h; cases h
    | true =>
      rw [hb] at h
      cases h
      have hb := Nat.le_of_ble_eq_true hb
      refine ⟨GR.rf, ROs.rf, step_pure rfl fun p e R s mid args below meth c Hc locs Q lsc cells slots hC hH hR hZ hS hl hn hrm k0 => ?_⟩
      have hts := hC.2.2.2.2.1
      exact va_mmax_long hC.1 hC.2.1 (hC.2.2.1.trans hl.1.symm) hC.2.2.2.1 (hts _ h1) (hts _ h2) (hts _ h3) (hts _ h4) (by have := hrm.1; omega) (by rw [catS_eq]; have := hrm.2.1; omega) hrm.2.2.1 hrm.2.2.2 hd (k0 lsc hl)
  · cases h
theorem s_lmin {X : CX} {l : Launch} {m pc idx : Nat} (hd : decode (cod m) pc = .ok (.invokestatic idx, 3)) (h1 : Cond.methodLink (yn m).cls idx Lib.MathLoose.min_long.x ∈ GT) (h2 : Cond.static Lib.MathLoose.min_long.x ∈ GT) (h3 : Cond.initialized "java/lang/Math" ∈ GT) (h4 : Cond.code Lib.MathLoose.min_long.x Lib.MathLoose.min_long.code 4 (some .long) ∈ GT) (hfr : 1 ≤ frs m ∧ 40 ≤ los m) : SI X l m pc (iP (pc + 3) (fMJ2 (fun x y => if y < x then y else x))) := by
  refine si_iP fun ls st H q h => ?_
  unfold fMJ2 at h
  split at h
  · rename_i y x st2
    cases hb : Nat.ble (catS st2) 8 with
    | false => rw [hb] at h; cases h
    | true =>
      rw [hb] at h
      cases h
      have hb := Nat.le_of_ble_eq_true hb
      refine ⟨GR.rf, ROs.rf, step_pure rfl fun p e R s mid args below meth c Hc locs Q lsc cells slots hC hH hR hZ hS hl hn hrm k0 => ?_⟩
      have hts := hC.2.2.2.2.1
      exact va_mmin_long hC.1 hC.2.1 (hC.2.2.1.trans hl.1.symm) hC.2.2.2.1 (hts _ h1) (hts _ h2) (hts _ h3) (hts _ h4) (by have := hrm.1; omega) (by rw [catS_eq]; have := hrm.2.1; omega) hrm.2.2.1 hrm.2.2.2 hd (k0 lsc hl)
  · cases h
theorem s_labs {X : CX} {l : Launch} {m pc idx : Nat} (hd : decode (cod m) pc = .ok (.invokestatic idx, 3)) (h1 : Cond.methodLink (yn m).cls idx Lib.MathLoose.abs_long.x ∈ GT) (h2 : Cond.static Lib.MathLoose.abs_long.x ∈ GT) (h3 : Cond.initialized "java/lang/Math" ∈ GT) (h4 : Cond.code Lib.MathLoose.abs_long.x Lib.MathLoose.abs_long.code 2 (some .long) ∈ GT) (hfr : 1 ≤ frs m ∧ 40 ≤ los m) : SI X l m pc (iP (pc + 3) (fMJ1 (fun x => if 0 < x then x else -x))) := by
  refine si_iP fun ls st H q h => ?_
  unfold fMJ1 at h
  split at h
  · rename_i x st2
    cases hb : Nat.ble (catS st2) 8 with
    | false => rw [hb] at h; cases h
    | true =>
      rw [hb] at h
      cases h
      have hb := Nat.le_of_ble_eq_true hb
      refine ⟨GR.rf, ROs.rf, step_pure rfl fun p e R s mid args below meth c Hc locs Q lsc cells slots hC hH hR hZ hS hl hn hrm k0 => ?_⟩
      have hts := hC.2.2.2.2.1
      exact va_mabs_long hC.1 hC.2.1 (hC.2.2.1.trans hl.1.symm) hC.2.2.2.1 (hts _ h1) (hts _ h2) (hts _ h3) (hts _ h4) (by have := hrm.1; omega) (by rw [catS_eq]; have := hrm.2.1; omega) hrm.2.2.1 hrm.2.2.2 hd (k0 lsc hl)
  · cases h
def wObj : ALs → List AV → Hp → Option (Option Hp × List AV) := fun _ st H => match st with
  | .inr (.inr r) :: st => some (bif Nat.beq r 0 || !(Nat.ble (catS st) 8) then none else some H, st)
  | _ => none
theorem s_objInit {X : CX} {l : Launch} {m pc idx : Nat} (hd : decode (cod m) pc = .ok (.invokespecial idx, 3)) (h1 : Cond.methodLink (yn m).cls idx Lib.objectInit ∈ GT) (h2 : Cond.instanceMethod Lib.objectInit ∈ GT) (h3 : Cond.code Lib.objectInit ⟨#[0xb1]⟩ 1 none ∈ GT) (hfr : 1 ≤ frs m ∧ 40 ≤ los m) : SI X l m pc (iW (pc + 3) wObj) := by
  refine si_iW fun ls st H H1 st' h => ?_
  unfold wObj at h
  split at h
  · rename_i r st2
    cases hb : (Nat.beq r 0 || !(Nat.ble (catS st2) 8)) with
    | true => rw [hb] at h; simp at h
    | false =>
      rw [hb] at h
      cases h
      rw [Bool.or_eq_false_iff, Bool.not_eq_false'] at hb
      have hc := Nat.le_of_ble_eq_true hb.2
      refine ⟨GR.rf, ROs.rf, step_pure rfl fun p e R s mid args below meth c Hc locs Q lsc cells slots hC hH hR hZ hS hl hn hrm k0 => ?_⟩
      have hts := hC.2.2.2.2.1
      have k1 := k0 lsc hl
      cases ha : adr X r with
      | none => rw [adr_0.mp ha] at hb; cases hb.1
      | some a =>
        simp only [List.map_cons, cvv, ha]
        refine W.objInit hC.1 hC.2.1 hC.2.2.2.1 (hts _ h1) (hts _ h2) (hts _ h3) (g := F0 mid pc lsc (va_rf (some a) :: st'.map (cvv X))) rfl (hl.1.trans hC.2.2.1.symm) rfl hd (by have := hrm.1; omega) ?_ k1
        have := catS_eq X st'
        show 2 * 0 + ((st'.map (cvv X)).map fun v => v.category).sum + 12 ≤ R.locals
        have := hrm.2.1
        omega
  · cases h
