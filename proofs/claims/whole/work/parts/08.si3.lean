/-! words of the heap: arrays -/
def hAI (H : Hp) (r : Nat) (i : Int32) : Option Int32 := bif inb i (H.1 r).2 && (Nat.beq (H.1 r).1 20 || Nat.beq (H.1 r).1 30) then some (H.2.2.1 r i.toNatClampNeg) else none
def hAZ (H : Hp) (r : Nat) (i : Int32) : Option Int32 := bif inb i (H.1 r).2 && Nat.beq (H.1 r).1 22 then some (H.2.2.1 r i.toNatClampNeg) else none
def hAJ (H : Hp) (r : Nat) (i : Int32) : Option Int64 := bif inb i (H.1 r).2 && Nat.beq (H.1 r).1 21 then some (H.2.2.2.1 r i.toNatClampNeg) else none
def hAR (H : Hp) (r : Nat) (i : Int32) : Option Nat := bif inb i (H.1 r).2 && (Nat.ble 23 (H.1 r).1 && Nat.ble (H.1 r).1 26) then some (H.2.2.2.2 r i.toNatClampNeg) else none
def hSI (H : Hp) (r : Nat) (i : Int32) (v : Int32) : Option Hp := bif Nat.ble 4 r && (inb i (H.1 r).2 && Nat.beq (H.1 r).1 20) then some (hsI H r i.toNatClampNeg v) else none
def hSZ (H : Hp) (r : Nat) (i : Int32) (v : Int32) : Option Hp := bif Nat.ble 4 r && (inb i (H.1 r).2 && (Nat.beq (H.1 r).1 22 && (decide (v = 0) || decide (v = 1)))) then some (hsI H r i.toNatClampNeg v) else none
def hSJ (H : Hp) (r : Nat) (i : Int32) (v : Int64) : Option Hp := bif inb i (H.1 r).2 && Nat.beq (H.1 r).1 21 then some (hsL H r i.toNatClampNeg v) else none
/-- the kinds of OPS -/
def opk (kd : Nat) : Bool := Nat.beq kd 1 || Nat.beq kd 2 || Nat.beq kd 3 || Nat.beq kd 4 || Nat.beq kd 10
def hSR (H : Hp) (r : Nat) (i : Int32) (v : Nat) : Option Hp := bif inb i (H.1 r).2 && ((Nat.beq (H.1 r).1 23 && (Nat.beq v 0 || opk (H.1 v).1)) || (Nat.beq (H.1 r).1 24 && Nat.beq (H.1 v).1 7)) then some (hsR H r i.toNatClampNeg v) else none
def hLen (H : Hp) (r : Nat) : Option Int32 := bif (Nat.ble 20 (H.1 r).1 && Nat.ble (H.1 r).1 26) || Nat.beq (H.1 r).1 30 then some (Int32.ofNat (H.1 r).2) else none
def qAI : ALs → List AV → Hp → Option (Option Int32 × List AV) := fun _ st H => match st with
  | .inl i :: .inr (.inr r) :: st => some (hAI H r i, st)
  | _ => none
def qAZ : ALs → List AV → Hp → Option (Option Int32 × List AV) := fun _ st H => match st with
  | .inl i :: .inr (.inr r) :: st => some (hAZ H r i, st)
  | _ => none
def qAJ : ALs → List AV → Hp → Option (Option Int64 × List AV) := fun _ st H => match st with
  | .inl i :: .inr (.inr r) :: st => some (hAJ H r i, st)
  | _ => none
def qAR : ALs → List AV → Hp → Option (Option Nat × List AV) := fun _ st H => match st with
  | .inl i :: .inr (.inr r) :: st => some (hAR H r i, st)
  | _ => none
def qLen : ALs → List AV → Hp → Option (Option Int32 × List AV) := fun _ st H => match st with
  | .inr (.inr r) :: st => some (hLen H r, st)
  | _ => none
def wAI : ALs → List AV → Hp → Option (Option Hp × List AV) := fun _ st H => match st with
  | .inl v :: .inl i :: .inr (.inr r) :: st => some (hSI H r i v, st)
  | _ => none
def wAZ : ALs → List AV → Hp → Option (Option Hp × List AV) := fun _ st H => match st with
  | .inl v :: .inl i :: .inr (.inr r) :: st => some (hSZ H r i v, st)
  | _ => none
def wAJ : ALs → List AV → Hp → Option (Option Hp × List AV) := fun _ st H => match st with
  | .inr (.inl v) :: .inl i :: .inr (.inr r) :: st => some (hSJ H r i v, st)
  | _ => none
def wAR : ALs → List AV → Hp → Option (Option Hp × List AV) := fun _ st H => match st with
  | .inr (.inr v) :: .inl i :: .inr (.inr r) :: st => some (hSR H r i v, st)
  | _ => none
theorem inb_in {i : Int32} {n : Nat} (h : inb i n = true) : vp_in i n := by
  unfold inb at h
  intro q
  rw [Bool.not_eq_true', Bool.or_eq_false_iff] at h
  rcases q with q | q
  · have := h.1
    rw [decide_eq_false_iff_not] at this
    exact this q
  · have := h.2
    rw [Nat.ble_eq_true_of_le q] at this
    cases this
theorem beq_eq {a b : Nat} (h : Nat.beq a b = true) : a = b := Nat.eq_of_beq_eq_true h
theorem cellE_i {X : CX} {H : Hp} {r : Nat} (h : (H.1 r).1 = 20) : cellE X H r = .inl (X.2.1 0, (H.1 r).2, .inl (H.2.2.1 r)) := by
  unfold cellE
  rw [h]
  rfl
theorem cellE_j {X : CX} {H : Hp} {r : Nat} (h : (H.1 r).1 = 21) : cellE X H r = .inl (X.2.1 1, (H.1 r).2, .inr (.inl (H.2.2.2.1 r))) := by
  unfold cellE
  rw [h]
  rfl
theorem cellE_z {X : CX} {H : Hp} {r : Nat} (h : (H.1 r).1 = 22) : cellE X H r = .inl (X.2.1 2, (H.1 r).2, .inl (H.2.2.1 r)) := by
  unfold cellE
  rw [h]
  rfl
theorem cellE_q {X : CX} {H : Hp} {r : Nat} (h1 : 23 ≤ (H.1 r).1) (h2 : (H.1 r).1 ≤ 26) : cellE X H r = .inl (X.2.1 ((H.1 r).1 - 20), (H.1 r).2, .inr (.inr (.inr (.inr (fun j => adr X (H.2.2.2.2 r j)))))) := by
  unfold cellE
  rw [if_neg (by omega), if_neg (by omega), if_neg (by omega), if_neg (by omega), if_pos (by omega)]
theorem arr_at {X : CX} {H : Hp} {Hc : Heap} (hH : HOK X H Hc) {r : Nat} (h1 : 20 ≤ (H.1 r).1) (h2 : (H.1 r).1 ≤ 26) : ∃ k, r = k + 4 ∧ va_at X.1 vwCl (X.2.2.1 + k, cellE X H r) Hc := by
  obtain ⟨k, a1, a2, a3⟩ := hH.at_ (r := r) (by omega) (by omega)
  subst a1
  exact ⟨k, rfl, a3⟩
theorem ro_at {X : CX} {H : Hp} {Hc : Heap} {U : State} (hH : HOK X H Hc) (hR : ROK X H U U.heap) {r : Nat} (h : (H.1 r).1 = 30) : ∃ t, adr X r = some t ∧ t < X.2.2.1 ∧ va_T .int t (H.1 r).2 (fun j => .int (H.2.2.1 r j)) (AX X) U U.heap := by
  obtain ⟨a, b⟩ := hH.2.2.2 r (by omega)
  by_cases hr : r < 4
  · have h0 := (b hr).1
    obtain ⟨t, h1, h2, h3, h4⟩ := hR r (by omega)
    exact ⟨t, h1, h2, h4⟩
  · have h3 := hH.2.2.1 (r - 4) (by omega)
    rw [show r - 4 + 4 = r by omega] at h3
    unfold cellE at h3
    rw [h] at h3
    obtain ⟨q, hq, -⟩ := h3
    cases hq
theorem s_iaload {X : CX} {l : Launch} {m pc : Nat} (hd : decode (cod m) pc = .ok (.iaload, 1)) : SI X l m pc (iRI (pc + 1) qAI) := by
  refine si_iRI fun ls st H v st' h => ?_
  unfold qAI at h
  split at h
  · rename_i i r st2
    unfold hAI at h
    cases hb : (inb i (H.1 r).2 && (Nat.beq (H.1 r).1 20 || Nat.beq (H.1 r).1 30)) with
    | false => rw [hb] at h; simp at h
    | true =>
      rw [hb] at h
      cases h
      rw [Bool.and_eq_true, Bool.or_eq_true] at hb
      refine step_pure rfl fun p e R s mid args below meth c Hc locs Q lsc cells slots hC hH hR hZ hS hl hn hrm k0 => ?_
      have k1 := k0 lsc hl
      rcases hb.2 with hk | hk
      · have hk := beq_eq hk
        obtain ⟨k, rfl, hat⟩ := arr_at hH (r := r) (by omega) (by omega)
        rw [cellE_i hk] at hat
        exact va_iald hC.1 hC.2.1 hC.2.2.2.2.2.2.1 (va_P1 hat) 0 0 rfl rfl (inb_in hb.1) hd k1
      · have hk := beq_eq hk
        obtain ⟨t, h1, h2, h3⟩ := ro_at hH hR hk
        simp only [List.map_cons, cvv, h1]
        exact va_ti hC.1 hC.2.1 h3 hS (inb_in hb.1) rfl hd k1
  · cases h
theorem s_baload {X : CX} {l : Launch} {m pc : Nat} (hd : decode (cod m) pc = .ok (.baload, 1)) : SI X l m pc (iRI (pc + 1) qAZ) := by
  refine si_iRI fun ls st H v st' h => ?_
  unfold qAZ at h
  split at h
  · rename_i i r st2
    unfold hAZ at h
    cases hb : (inb i (H.1 r).2 && Nat.beq (H.1 r).1 22) with
    | false => rw [hb] at h; simp at h
    | true =>
      rw [hb] at h
      cases h
      rw [Bool.and_eq_true] at hb
      refine step_pure rfl fun p e R s mid args below meth c Hc locs Q lsc cells slots hC hH hR hZ hS hl hn hrm k0 => ?_
      have k1 := k0 lsc hl
      have hk := beq_eq hb.2
      obtain ⟨k, rfl, hat⟩ := arr_at hH (r := r) (by omega) (by omega)
      rw [cellE_z hk] at hat
      exact va_zald hC.1 hC.2.1 hC.2.2.2.2.2.2.1 (va_P1 hat) 0 2 rfl rfl (inb_in hb.1) hd k1
  · cases h
theorem s_laload {X : CX} {l : Launch} {m pc : Nat} (hd : decode (cod m) pc = .ok (.laload, 1)) : SI X l m pc (iRJ (pc + 1) qAJ) := by
  refine si_iRJ fun ls st H v st' h => ?_
  unfold qAJ at h
  split at h
  · rename_i i r st2
    unfold hAJ at h
    cases hb : (inb i (H.1 r).2 && Nat.beq (H.1 r).1 21) with
    | false => rw [hb] at h; simp at h
    | true =>
      rw [hb] at h
      cases h
      rw [Bool.and_eq_true] at hb
      refine step_pure rfl fun p e R s mid args below meth c Hc locs Q lsc cells slots hC hH hR hZ hS hl hn hrm k0 => ?_
      have k1 := k0 lsc hl
      have hk := beq_eq hb.2
      obtain ⟨k, rfl, hat⟩ := arr_at hH (r := r) (by omega) (by omega)
      rw [cellE_j hk] at hat
      exact va_lald hC.1 hC.2.1 hC.2.2.2.2.2.2.1 (va_P1 hat) 0 1 rfl rfl (inb_in hb.1) hd k1
  · cases h
theorem aty_q {X : CX} {kd : Nat} (h1 : 20 ≤ kd) (h2 : kd ≤ 26) : ∃ ty, (atys X)[kd - 20]? = some (X.2.1 (kd - 20), ty) ∧ (23 ≤ kd → ty.isReference = true) := by
  rcases (show kd = 20 ∨ kd = 21 ∨ kd = 22 ∨ kd = 23 ∨ kd = 24 ∨ kd = 25 ∨ kd = 26 by omega) with rfl | rfl | rfl | rfl | rfl | rfl | rfl
  · exact ⟨_, rfl, fun q => by omega⟩
  · exact ⟨_, rfl, fun q => by omega⟩
  · exact ⟨_, rfl, fun q => by omega⟩
  · exact ⟨_, rfl, fun _ => rfl⟩
  · exact ⟨_, rfl, fun _ => rfl⟩
  · exact ⟨_, rfl, fun _ => rfl⟩
  · exact ⟨_, rfl, fun _ => rfl⟩
theorem s_aaload {X : CX} {l : Launch} {m pc : Nat} (hd : decode (cod m) pc = .ok (.aaload, 1)) : SI X l m pc (iRR (pc + 1) qAR) := by
  refine si_iRR fun ls st H v st' h => ?_
  unfold qAR at h
  split at h
  · rename_i i r st2
    unfold hAR at h
    cases hb : (inb i (H.1 r).2 && (Nat.ble 23 (H.1 r).1 && Nat.ble (H.1 r).1 26)) with
    | false => rw [hb] at h; simp at h
    | true =>
      rw [hb] at h
      cases h
      simp only [Bool.and_eq_true] at hb
      refine step_pure rfl fun p e R s mid args below meth c Hc locs Q lsc cells slots hC hH hR hZ hS hl hn hrm k0 => ?_
      have k1 := k0 lsc hl
      have hk1 := Nat.le_of_ble_eq_true hb.2.1
      have hk2 := Nat.le_of_ble_eq_true hb.2.2
      have hin := inb_in hb.1
      have hlt : i.toNatClampNeg < (H.1 r).2 := Nat.not_le.mp fun q => hin (Or.inr q)
      obtain ⟨k, rfl, hat⟩ := arr_at hH (r := r) (by omega) (by omega)
      rw [cellE_q hk1 hk2] at hat
      obtain ⟨ty, ht, hre⟩ := aty_q (X := X) (kd := (H.1 (k + 4)).1) (by omega) hk2
      exact W.aald (v := va_rf (adr X (H.2.2.2.2 (k + 4) i.toNatClampNeg))) (ty := ty) hC.1 hC.2.1 hat ((hC.2.2.2.2.2.2.1.2 _ _ ht).1 (H.1 (k + 4)).2 (fun j => va_rf (adr X (H.2.2.2.2 (k + 4) j)))) (hre hk1) (fun q => by cases q) (by show ¬ (i < 0 ∨ (arrV _ _ _).slots.size ≤ _); rw [arrV_size]; exact hin) (by show (arrV _ _ _).slots[_]? = _; rw [arrV_read _ _ hlt]) rfl rfl hd k1
  · cases h
theorem s_alen {X : CX} {l : Launch} {m pc : Nat} (hd : decode (cod m) pc = .ok (.arraylength, 1)) : SI X l m pc (iRI (pc + 1) qLen) := by
  refine si_iRI fun ls st H v st' h => ?_
  unfold qLen at h
  split at h
  · rename_i r st2
    unfold hLen at h
    cases hb : ((Nat.ble 20 (H.1 r).1 && Nat.ble (H.1 r).1 26) || Nat.beq (H.1 r).1 30) with
    | false => rw [hb] at h; simp at h
    | true =>
      rw [hb] at h
      cases h
      simp only [Bool.and_eq_true, Bool.or_eq_true] at hb
      refine step_pure rfl fun p e R s mid args below meth c Hc locs Q lsc cells slots hC hH hR hZ hS hl hn hrm k0 => ?_
      have k1 := k0 lsc hl
      rcases hb with hk | hk
      · have hk1 := Nat.le_of_ble_eq_true hk.1
        have hk2 := Nat.le_of_ble_eq_true hk.2
        obtain ⟨k, rfl, hat⟩ := arr_at hH (r := r) (by omega) (by omega)
        obtain ⟨ty, ht, -⟩ := aty_q (X := X) (kd := (H.1 (k + 4)).1) hk1 hk2
        rcases (show (H.1 (k + 4)).1 = 20 ∨ (H.1 (k + 4)).1 = 21 ∨ (H.1 (k + 4)).1 = 22 ∨ 23 ≤ (H.1 (k + 4)).1 by omega) with e1 | e1 | e1 | e1
        · rw [cellE_i e1] at hat
          rw [e1] at ht
          exact va_alen hC.1 hC.2.1 hC.2.2.2.2.2.2.1 (va_P1 hat) 0 _ rfl ht rfl hd k1
        · rw [cellE_j e1] at hat
          rw [e1] at ht
          exact va_alen hC.1 hC.2.1 hC.2.2.2.2.2.2.1 (va_P1 hat) 0 _ rfl ht rfl hd k1
        · rw [cellE_z e1] at hat
          rw [e1] at ht
          exact va_alen hC.1 hC.2.1 hC.2.2.2.2.2.2.1 (va_P1 hat) 0 _ rfl ht rfl hd k1
        · rw [cellE_q e1 hk2] at hat
          exact va_alen hC.1 hC.2.1 hC.2.2.2.2.2.2.1 (va_P1 hat) 0 _ rfl ht rfl hd k1
      · have hk := beq_eq hk
        obtain ⟨t, h1, h2, h3⟩ := ro_at hH hR hk
        simp only [List.map_cons, cvv, h1]
        exact va_tlen hC.1 hC.2.1 h3 hS rfl hd k1
  · cases h
/-- an array is written: what is left of it -/
theorem ast_ok {X : CX} {H H1 : Hp} {Hc H' : Heap} {k : Nat} {s : State} {locs : List Loc} {j : Nat} {cA : ClassId} {n : Nat} {f : Nat → Value} {v : Value} {a' : vp_A} (hH : HOK X H Hc) (hA : H1.1 = H.1) (hB : H1.2.1 = H.2.1) (hne : ∀ q, q ≠ k + 4 → cellE X H1 q = cellE X H q)
    (hc1 : cellE X H1 (k + 4) = .inl (cA, a')) (hc2 : vp_cell cA a' = arrV cA n (updV f j v)) (e1 : H'[X.2.2.1 + k]? = some ((arrV cA n f).setSlot j v)) (e2 : H'.size = Hc.size) (e3 : ∀ q, q ≠ X.2.2.1 + k → H'[q]? = Hc[q]?) : HOK X H1 H' := by
  refine hH.upd hA hB hne e2 e3 ?_
  rw [hc1]
  show H'[X.2.2.1 + k]? = some (vp_cell cA a')
  rw [e1, hc2, arrV_store]
theorem s_iastore {X : CX} {l : Launch} {m pc : Nat} (hd : decode (cod m) pc = .ok (.iastore, 1)) : SI X l m pc (iW (pc + 1) wAI) := by
  refine si_iW fun ls st H H1 st' h => ?_
  unfold wAI at h
  split at h
  · rename_i v i r st2
    unfold hSI at h
    cases hb : (Nat.ble 4 r && (inb i (H.1 r).2 && Nat.beq (H.1 r).1 20)) with
    | false => rw [hb] at h; simp at h
    | true =>
      rw [hb] at h
      cases h
      simp only [Bool.and_eq_true] at hb
      refine ⟨GR.rf, ros_I (Nat.le_of_ble_eq_true hb.1), ?_⟩
      intro p e R s mid args below meth c Hc locs Q lsc cells slots hC hH hR hZ hS hz hl hn hrm k0
      rw [Nat.sub_self, Nat.sub_self, Nat.add_zero, Nat.add_zero] at k0
      have hin := inb_in hb.2.1
      have hk := beq_eq hb.2.2
      obtain ⟨k, rfl, hat⟩ := arr_at hH (r := r) (by omega) (by omega)
      rw [cellE_i hk] at hat
      refine W.iast hC.1 hC.2.1 (a := X.2.2.1 + k) hat ((hC.2.2.2.2.2.2.1.2 0 _ rfl).1 (H.1 (k + 4)).2 (fun j => .int (H.2.2.1 (k + 4) j))) (fun q => by cases q) (by show ¬ (i < 0 ∨ (arrV _ _ _).slots.size ≤ _); rw [arrV_size]; exact hin) rfl rfl hd fun H' e1 e2 e3 => ?_
      refine k0 H' _ lsc (ast_ok (s := s) (locs := locs) hH rfl rfl (fun q hq => cellE_ne_I hq) (cellE_i hk) ?_ e1 e2 e3) (hS.put e2 e3 (Nat.le_add_right _ _)) hl hn
      rw [vp_cell_i]
      refine congrArg (arrV _ _) (funext fun q => ?_)
      simp only [up2, up1, updV, if_pos]
      split <;> rfl
  · cases h
theorem s_bastore {X : CX} {l : Launch} {m pc : Nat} (hd : decode (cod m) pc = .ok (.bastore, 1)) : SI X l m pc (iW (pc + 1) wAZ) := by
  refine si_iW fun ls st H H1 st' h => ?_
  unfold wAZ at h
  split at h
  · rename_i v i r st2
    unfold hSZ at h
    cases hb : (Nat.ble 4 r && (inb i (H.1 r).2 && (Nat.beq (H.1 r).1 22 && (decide (v = 0) || decide (v = 1))))) with
    | false => rw [hb] at h; simp at h
    | true =>
      rw [hb] at h
      cases h
      simp only [Bool.and_eq_true, Bool.or_eq_true, decide_eq_true_eq] at hb
      refine ⟨GR.rf, ros_I (Nat.le_of_ble_eq_true hb.1), ?_⟩
      intro p e R s mid args below meth c Hc locs Q lsc cells slots hC hH hR hZ hS hz hl hn hrm k0
      rw [Nat.sub_self, Nat.sub_self, Nat.add_zero, Nat.add_zero] at k0
      have hin := inb_in hb.2.1
      have hk := beq_eq hb.2.2.1
      have hnar : narrow .boolean (.int v) = .int v := by rcases hb.2.2.2 with rfl | rfl <;> rfl
      obtain ⟨k, rfl, hat⟩ := arr_at hH (r := r) (by omega) (by omega)
      rw [cellE_z hk] at hat
      refine W.zast hC.1 hC.2.1 (a := X.2.2.1 + k) hat ((hC.2.2.2.2.2.2.1.2 2 _ rfl).1 (H.1 (k + 4)).2 (fun j => .int (H.2.2.1 (k + 4) j))) (fun q => by cases q) (by show ¬ (i < 0 ∨ (arrV _ _ _).slots.size ≤ _); rw [arrV_size]; exact hin) rfl rfl hd fun H' e1 e2 e3 => ?_
      rw [hnar] at e1
      refine k0 H' _ lsc (ast_ok (s := s) (locs := locs) hH rfl rfl (fun q hq => cellE_ne_I hq) (cellE_z hk) ?_ e1 e2 e3) (hS.put e2 e3 (Nat.le_add_right _ _)) hl hn
      rw [vp_cell_i]
      refine congrArg (arrV _ _) (funext fun q => ?_)
      simp only [up2, up1, updV, if_pos]
      split <;> rfl
  · cases h
theorem s_lastore {X : CX} {l : Launch} {m pc : Nat} (hd : decode (cod m) pc = .ok (.lastore, 1)) : SI X l m pc (iW (pc + 1) wAJ) := by
  refine si_iW fun ls st H H1 st' h => ?_
  unfold wAJ at h
  split at h
  · rename_i v i r st2
    unfold hSJ at h
    cases hb : (inb i (H.1 r).2 && Nat.beq (H.1 r).1 21) with
    | false => rw [hb] at h; simp at h
    | true =>
      rw [hb] at h
      cases h
      simp only [Bool.and_eq_true] at hb
      refine ⟨GR.rf, ros_J, ?_⟩
      intro p e R s mid args below meth c Hc locs Q lsc cells slots hC hH hR hZ hS hz hl hn hrm k0
      rw [Nat.sub_self, Nat.sub_self, Nat.add_zero, Nat.add_zero] at k0
      have hin := inb_in hb.1
      have hk := beq_eq hb.2
      obtain ⟨k, rfl, hat⟩ := arr_at hH (r := r) (by omega) (by omega)
      rw [cellE_j hk] at hat
      refine W.last hC.1 hC.2.1 (a := X.2.2.1 + k) hat ((hC.2.2.2.2.2.2.1.2 1 _ rfl).1 (H.1 (k + 4)).2 (fun j => .long (H.2.2.2.1 (k + 4) j))) (fun q => by cases q) (by show ¬ (i < 0 ∨ (arrV _ _ _).slots.size ≤ _); rw [arrV_size]; exact hin) rfl rfl hd fun H' e1 e2 e3 => ?_
      refine k0 H' _ lsc (ast_ok (s := s) (locs := locs) hH rfl rfl (fun q hq => cellE_ne_L hq) (cellE_j hk) ?_ e1 e2 e3) (hS.put e2 e3 (Nat.le_add_right _ _)) hl hn
      rw [vp_cell_l]
      refine congrArg (arrV _ _) (funext fun q => ?_)
      simp only [up2, up1, updV, if_pos]
      split <;> rfl
  · cases h
