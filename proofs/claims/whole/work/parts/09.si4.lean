/-! stores of references, statics, new cells -/
theorem opk_cases {kd : Nat} (h : opk kd = true) : kd = 1 ∨ kd = 2 ∨ kd = 3 ∨ kd = 4 ∨ kd = 10 := by
  unfold opk at h
  simp only [Bool.or_eq_true] at h
  rcases h with (((h | h) | h) | h) | h <;> have := beq_eq h <;> omega
/-- an object of a class: its cell -/
theorem obj_cell {X : CX} {H : Hp} {Hc : Heap} {U : State} (hH : HOK X H Hc) (hK : va_K X.1 vwCl (atys X) U) {r ci : Nat} (hk : (H.1 r).1 = ci + 1) (hc : ci < 12) {C : String} {T : u_T} {N : Nat} (h1 : vwCl[ci]? = some (C, T, N)) :
    ∃ k cell, r = k + 4 ∧ Hc[X.2.2.1 + k]? = some cell ∧ cell.vm = .none ∧ cell.cls = X.1.1 ci ∧ ClassAt U C (X.1.1 ci) := by
  obtain ⟨k, a1, a2, a3⟩ := hH.at_ (r := r) (by omega) (by omega)
  subst a1
  rw [cellE_obj hk hc] at a3
  obtain ⟨r9, g1, cell, q1, q2, q3, q4⟩ := a3
  have hr : r9 = (C, T, N) := Option.some.inj (g1.symm.trans h1)
  subst hr
  exact ⟨k, cell, rfl, q1, q3, q2, (hK.1 ci _ h1).2⟩
theorem s_aastore {X : CX} {l : Launch} {m pc : Nat} (hd : decode (cod m) pc = .ok (.aastore, 1)) : SI X l m pc (iW (pc + 1) wAR) := by
  refine si_iW fun ls st H H1 st' h => ?_
  unfold wAR at h
  split at h
  · rename_i v i r st2
    unfold hSR at h
    cases hb : (inb i (H.1 r).2 && ((Nat.beq (H.1 r).1 23 && (Nat.beq v 0 || opk (H.1 v).1)) || (Nat.beq (H.1 r).1 24 && Nat.beq (H.1 v).1 7))) with
    | false => rw [hb] at h; simp at h
    | true =>
      rw [hb] at h
      cases h
      simp only [Bool.and_eq_true, Bool.or_eq_true] at hb
      refine ⟨GR.rf, ros_R, ?_⟩
      intro p e R s mid args below meth c Hc locs Q lsc cells slots hC hH hR hZ hS hz hl hn hrm k0
      rw [Nat.sub_self, Nat.sub_self, Nat.add_zero, Nat.add_zero] at k0
      have hin := inb_in hb.1
      have hlt : i.toNatClampNeg < (H.1 r).2 := Nat.not_le.mp fun q => hin (Or.inr q)
      have h0 : ¬ i < 0 := fun q => hin (Or.inl q)
      have hkd : (H.1 r).1 = 23 ∨ (H.1 r).1 = 24 := by
        rcases hb.2 with h | h
        · exact Or.inl (beq_eq h.1)
        · exact Or.inr (beq_eq h.1)
      obtain ⟨k, rfl, hat⟩ := arr_at hH (r := r) (by omega) (by omega)
      rw [cellE_q (by omega) (by omega)] at hat
      have hKK := hC.2.2.2.2.2.2
      have fin : ∀ (H' : Heap), H'[X.2.2.1 + k]? = some ((arrV (X.2.1 ((H.1 (k + 4)).1 - 20)) (H.1 (k + 4)).2 (fun j => va_rf (adr X (H.2.2.2.2 (k + 4) j)))).setSlot i.toNatClampNeg (va_rf (adr X v))) → H'.size = Hc.size → (∀ q, q ≠ X.2.2.1 + k → H'[q]? = Hc[q]?) → W p l e R s mid args below meth c H' (locs ++ [⟨X.2.2.1 + k, i.toNatClampNeg⟩]) cells slots Q (F0 mid (pc + 1) lsc (st'.map (cvv X))) := by
        intro H' e1 e2 e3
        refine k0 H' _ lsc (ast_ok (s := s) (locs := locs) hH rfl rfl (fun q hq => cellE_ne_R hq) (cellE_q (H := hsR H (k + 4) i.toNatClampNeg v) (by show 23 ≤ (H.1 (k + 4)).1; omega) (by show (H.1 (k + 4)).1 ≤ 26; omega)) ?_ e1 e2 e3) (hS.put e2 e3 (Nat.le_add_right _ _)) hl hn
        rw [vp_cell_q]
        refine congrArg (arrV _ _) (funext fun q => ?_)
        simp only [up2, up1, updV, if_pos]
        split <;> rfl
      have obj : ∀ (ci : Nat) (C : String) (T : u_T) (N : Nat), (H.1 v).1 = ci + 1 → ci < 12 → vwCl[ci]? = some (C, T, N) → (∀ (nm : String), (atys X)[(H.1 (k + 4)).1 - 20]? = some (X.2.1 ((H.1 (k + 4)).1 - 20), .object nm) → ∀ comp, s.vm.findClass nm = some comp → s.vm.assignable (X.1.1 ci) comp = true ∧ ∃ kc, s.vm.classes[comp]? = some kc) → (∃ nm : String, (atys X)[(H.1 (k + 4)).1 - 20]? = some (X.2.1 ((H.1 (k + 4)).1 - 20), .object nm)) → W p l e R s mid args below meth c Hc locs cells slots Q (F0 mid pc lsc ((Sum.inr (Sum.inr v) :: Sum.inl i :: Sum.inr (Sum.inr (k + 4)) :: st').map (cvv X))) := by
        intro ci C T N hk hc h1 has ⟨nm, hnm⟩
        obtain ⟨kv, cv, ev, hcv, hvm, hcl, hca⟩ := obj_cell hH hKK.1 hk hc h1
        obtain ⟨kA, comp, k1, k2, k3, -⟩ := (hKK.1.2 _ _ hnm).2
        obtain ⟨as1, kc, hkc⟩ := has nm hnm comp k3
        obtain ⟨-, kC, hkC, -⟩ := hca
        subst ev
        exact W.aast hC.1 hC.2.1 (a := X.2.2.1 + k) (v := X.2.2.1 + kv) hat (fun q h => by cases h) (fun h => by cases h) k1 k2 rfl hkc ⟨h0, by show _ < (arrV _ _ _).slots.size; rw [arrV_size]; exact hlt⟩ hcv (fun q h => by rw [hvm] at h; cases h) (by rw [hcl]; exact hkC) (by rw [hcl]; exact as1) rfl rfl hd fin
      rcases hb.2 with ⟨hk, hv⟩ | ⟨hk, hv⟩
      · have hk := beq_eq hk
        rcases hv with hv | hv
        · have hv := beq_eq hv
          subst hv
          have hty : (atys X)[3]? = some (X.2.1 3, .object "StepsAhead$Op") := rfl
          have e20 : (H.1 (k + 4)).1 - 20 = 3 := by omega
          rw [e20] at hat fin
          exact va_WaastN (C := "StepsAhead$Op") hC.1 hC.2.1 (a := X.2.2.1 + k) hat ((hKK.1.2 _ _ hty).1 (H.1 (k + 4)).2 (fun j => va_rf (adr X (H.2.2.2.2 (k + 4) j)))) (fun h => by cases h) (by show ¬ (i < 0 ∨ (arrV _ _ _).slots.size ≤ _); rw [arrV_size]; exact hin) rfl rfl hd fin
        · have e20 : (H.1 (k + 4)).1 - 20 = 3 := by omega
          have hex : ∃ nm : String, (atys X)[(H.1 (k + 4)).1 - 20]? = some (X.2.1 ((H.1 (k + 4)).1 - 20), .object nm) := by rw [e20]; exact ⟨_, rfl⟩
          have hOp : ∃ kO, s.vm.findClass "StepsAhead$Op" = some (X.1.1 3) ∧ s.vm.classes[X.1.1 3]? = some kO := by
            obtain ⟨-, h9, kO, hkO, -⟩ := hKK.1.1 3 _ rfl
            exact ⟨kO, h9, hkO⟩
          obtain ⟨kO, hO1, hO2⟩ := hOp
          have hsub : ∀ (ci : Nat) (C : String) (T : u_T) (N : Nat), vwCl[ci]? = some (C, T, N) → (Cond.castable C "StepsAhead$Op" ∈ EXW) → ∀ (nm : String), (atys X)[(H.1 (k + 4)).1 - 20]? = some (X.2.1 ((H.1 (k + 4)).1 - 20), .object nm) → ∀ comp, s.vm.findClass nm = some comp → s.vm.assignable (X.1.1 ci) comp = true ∧ ∃ kc, s.vm.classes[comp]? = some kc := by
            intro ci C T N h1 hex nm hnm comp hcomp
            rw [e20] at hnm
            cases hnm
            obtain ⟨c0, t0, f1, f2, f3⟩ := Cond.castable_spec (va_Nw.use (A := args) rfl (hKK.2.1 _ hex))
            have hfc := (hKK.1.1 ci _ h1).2.1
            cases hfc.symm.trans f1
            cases hcomp.symm.trans f2
            cases hO1.symm.trans f2
            exact ⟨f3, kO, hO2⟩
          rcases opk_cases hv with e1 | e1 | e1 | e1 | e1
          · exact obj 0 _ _ _ e1 (by omega) rfl (hsub 0 _ _ _ rfl (by decide)) hex
          · exact obj 1 _ _ _ e1 (by omega) rfl (hsub 1 _ _ _ rfl (by decide)) hex
          · exact obj 2 _ _ _ e1 (by omega) rfl (hsub 2 _ _ _ rfl (by decide)) hex
          · refine obj 3 _ _ _ e1 (by omega) rfl (fun nm hnm comp hcomp => ?_) hex
            rw [e20] at hnm
            cases hnm
            cases hO1.symm.trans hcomp
            exact ⟨va_assign (hKK.1.1 3 _ rfl).2, kO, hO2⟩
          · exact obj 9 _ _ _ e1 (by omega) rfl (hsub 9 _ _ _ rfl (by decide)) hex
      · have hk := beq_eq hk
        have hv := beq_eq hv
        have e20 : (H.1 (k + 4)).1 - 20 = 4 := by omega
        refine obj 6 _ _ _ hv (by omega) rfl (fun nm hnm comp hcomp => ?_) (by rw [e20]; exact ⟨_, rfl⟩)
        rw [e20] at hnm
        cases hnm
        obtain ⟨-, h9, kO, hkO, hkd⟩ := hKK.1.1 6 _ rfl
        cases h9.symm.trans hcomp
        exact ⟨va_assign ⟨h9, kO, hkO, hkd⟩, kO, hkO⟩
  · cases h
theorem s_getst1 {X : CX} {l : Launch} {m pc idx : Nat} (hd : decode (cod m) pc = .ok (.getstatic idx, 3)) (hl : Cond.fieldLink (yn m).cls idx "StepsAhead$Products" "UP_TO" "[I" ∈ GT) : SI X l m pc (iP (pc + 3) (fK (.inr (.inr 2)))) := by
  refine si_iP fun ls st H q h => ?_
  cases h
  refine ⟨GR.rf, ROs.rf, step_pure rfl fun p e R s mid args below meth c Hc locs Q lsc cells slots hC hH hR hZ hS hl' hn hrm k => ?_⟩
  exact va_gets hC.1 hC.2.1 hZ.1 hS hC.2.2.2.1 (hC.2.2.2.2.1 _ hl) (fun _ h => h) hd (k lsc hl')
theorem s_getst2 {X : CX} {l : Launch} {m pc idx : Nat} (hd : decode (cod m) pc = .ok (.getstatic idx, 3)) (hl : Cond.fieldLink (yn m).cls idx "StepsAhead$Reckoner" "SUMS" "[I" ∈ GT) : SI X l m pc (iP (pc + 3) (fK (.inr (.inr 3)))) := by
  refine si_iP fun ls st H q h => ?_
  cases h
  refine ⟨GR.rf, ROs.rf, step_pure rfl fun p e R s mid args below meth c Hc locs Q lsc cells slots hC hH hR hZ hS hl' hn hrm k => ?_⟩
  exact va_gets hC.1 hC.2.1 hZ.2 hS hC.2.2.2.1 (hC.2.2.2.2.1 _ hl) (fun _ h => h) hd (k lsc hl')
def hNw (H : Hp) (kd n : Nat) : Option Hp := bif Nat.ble 4 H.2.1.1 then some (hnw H kd n) else none
def hNa (H : Hp) (kd : Nat) (v : Int32) : Option Hp := bif Nat.ble 4 H.2.1.1 && (decide (0 ≤ v) && Nat.ble v.toNatClampNeg 100000) then some (hnw H kd v.toNatClampNeg) else none
def wNew (kd n : Nat) : ALs → List AV → Hp → Option (Option Hp × List AV) := fun _ st H => some (hNw H kd n, .inr (.inr H.2.1.1) :: st)
def wNa (kd : Nat) : ALs → List AV → Hp → Option (Option Hp × List AV) := fun _ st H => match st with
  | .inl v :: st => some (hNa H kd v, .inr (.inr H.2.1.1) :: st)
  | _ => none
theorem ros_new {H : Hp} {kd n : Nat} (h : 4 ≤ H.2.1.1) : ROs H (hnw H kd n) := fun k hk => ⟨by show up1 H.1 H.2.1.1 (kd, n) k = _; simp [up1, show k ≠ H.2.1.1 by omega], by show up1 H.2.2.1 H.2.1.1 _ k = _; simp [up1, show k ≠ H.2.1.1 by omega]⟩
theorem grNew {H : Hp} {kd n : Nat} : GR H (hnw H kd n) := ⟨Nat.le_add_right _ _, Nat.le_add_right _ _⟩
theorem sh_new {H : Hp} {kd n : Nat} : (hnw H kd n).1 H.2.1.1 = (kd, n) := by simp [up1]
theorem adr_n {X : CX} {H : Hp} {Hc : Heap} (hH : HOK X H Hc) : adr X H.2.1.1 = some Hc.size := by
  obtain ⟨h1, h2, -⟩ := hH
  obtain ⟨j, e⟩ : ∃ j, H.2.1.1 = j + 4 := ⟨H.2.1.1 - 4, by omega⟩
  rw [e, adr_4, h2, e]
  rfl
theorem vaS_new {X : CX} {s : State} {Hc H' : Heap} {locs : List Loc} (hS : va_S (AX X) s.heap Hc locs) (hz : Hc.size ≤ H'.size) (ho : ∀ q, q < Hc.size → H'[q]? = Hc[q]?) : va_S (AX X) s.heap H' locs :=
  ⟨Nat.le_trans hS.1 hz, fun x h1 h2 => (ho x (Nat.lt_of_lt_of_le h1 hS.1)).trans (hS.2.1 x h1 h2), hS.2.2⟩
theorem s_new {X : CX} {l : Launch} {m pc idx ci N : Nat} {C : String} {T : u_T} (hd : decode (cod m) pc = .ok (.new idx, 3)) (hc : ci < 12) (hcl : vwCl[ci]? = some (C, T, N)) (h1 : Cond.classLink (yn m).cls idx C ∈ GT) (h2 : Cond.instantiable C N ∈ GT) (h3 : Cond.initialized C ∈ GT) : SI X l m pc (iW (pc + 3) (wNew (ci + 1) N)) := by
  refine si_iW fun ls st H H1 st' h => ?_
  unfold wNew hNw at h
  cases hb : Nat.ble 4 H.2.1.1 with
  | false => rw [hb] at h; simp at h
  | true =>
    rw [hb] at h
    cases h
    have h4 := Nat.le_of_ble_eq_true hb
    refine ⟨grNew, ros_new h4, ?_⟩
    intro p e R s mid args below meth c Hc locs Q lsc cells slots hC hH hR hZ hS hz hl hn hrm k0
    have e1 : (hnw H (ci + 1) N).2.1.1 - H.2.1.1 = 1 := by show H.2.1.1 + 1 - H.2.1.1 = 1; omega
    have e2 : (hnw H (ci + 1) N).2.1.2 - H.2.1.2 = N := by show H.2.1.2 + N - H.2.1.2 = N; omega
    rw [e1, e2] at k0 hrm
    have hts := hC.2.2.2.2.1
    have hKn := hC.2.2.2.2.2.2.1.1 ci _ hcl
    obtain ⟨C', T', N', ty, g1, g2, g3, g4, g5, g6, g7⟩ := clf ci hc
    cases hcl.symm.trans g1
    refine W.newcK hC.1 hC.2.1 hC.2.2.2.1 (hts _ h1) (hts _ h2) (hts _ h3) rfl hd hrm.2.2.1 hrm.2.2.2 hKn.2.1 rfl fun H' kC hkC q1 q2 q3 => ?_
    have k1 := k0 H' locs lsc (hH.new q2 q3 ?_) (vaS_new hS (by omega) q3) hl hn
    · simp only [List.map_cons, cvv, adr_n hH] at k1
      exact k1
    · rw [cellE_obj (by rw [sh_new]) hc]
      refine ⟨_, hcl, (u_born ty hts g2 hKn hkC q1 g3).to (fun j hj => ?_)⟩
      obtain ⟨f, f1, f2, f3⟩ := g7 j hj
      simp only [vp_V, List.getD_eq_getElem?_getD, List.getElem?_map, f1, Option.map_some, Option.getD_some]
      unfold fval
      simp only [up1, if_pos]
      rcases f3 with ⟨a, b⟩ | ⟨a, b⟩ | ⟨a, b⟩ | ⟨a, b⟩
      · rw [a, b]; rfl
      · rw [a, b]; rfl
      · rw [a, b]; rfl
      · rcases b with ⟨n, b⟩ | ⟨n, b⟩ <;> rw [a, b] <;> rfl
theorem s_newarr {X : CX} {l : Launch} {m pc kd : Nat} {at_ : ArrayType} {ty : FieldType} (hd : decode (cod m) pc = .ok (.newarray at_, 2)) (hk : (kd = 20 ∧ ty = .int) ∨ (kd = 21 ∧ ty = .long) ∨ (kd = 22 ∧ ty = .boolean)) (hty : newarray.typeOf at_ = ty) (hw : Cond.arrayClass ty ∈ GT) : SI X l m pc (iW (pc + 2) (wNa kd)) := by
  refine si_iW fun ls st H H1 st' h => ?_
  unfold wNa at h
  split at h
  · rename_i v st2
    unfold hNa at h
    cases hb : (Nat.ble 4 H.2.1.1 && (decide (0 ≤ v) && Nat.ble v.toNatClampNeg 100000)) with
    | false => rw [hb] at h; simp at h
    | true =>
      rw [hb] at h
      cases h
      simp only [Bool.and_eq_true, decide_eq_true_eq] at hb
      have h4 := Nat.le_of_ble_eq_true hb.1
      have hbd := Nat.le_of_ble_eq_true hb.2.2
      refine ⟨grNew, ros_new h4, ?_⟩
      intro p e R s mid args below meth c Hc locs Q lsc cells slots hC hH hR hZ hS hz hl hn hrm k0
      have e1 : (hnw H kd v.toNatClampNeg).2.1.1 - H.2.1.1 = 1 := by show H.2.1.1 + 1 - H.2.1.1 = 1; omega
      have e2 : (hnw H kd v.toNatClampNeg).2.1.2 - H.2.1.2 = v.toNatClampNeg := by show H.2.1.2 + v.toNatClampNeg - H.2.1.2 = v.toNatClampNeg; omega
      rw [e1, e2] at k0 hrm
      subst hty
      have hv0 : ¬ v < 0 := fun q => by
        have := hb.2.1
        rw [Int32.le_iff_toInt_le] at this
        rw [Int32.lt_iff_toInt_lt] at q
        omega
      refine va_newaK hC.1 hC.2.1 (hC.2.2.2.2.1 _ hw) (g := F0 mid pc lsc ((Sum.inl v :: st2).map (cvv X))) rfl hd rfl hv0 rfl ?_ hrm.2.2.1 hrm.2.2.2 rfl fun H' cA q1 q2 q3 hAr hNm => ?_
      · rcases hk with ⟨-, hk⟩ | ⟨-, hk⟩ | ⟨-, hk⟩ <;> rw [hk] <;> simp only [componentBytes] <;> omega
      have hKK := hC.2.2.2.2.2.2
      have k1 := k0 H' locs lsc (hH.new q2 q3 ?_) (vaS_new hS (by omega) q3) hl hn
      · simp only [List.map_cons, cvv, adr_n hH] at k1
        exact k1
      · rcases hk with ⟨rfl, hk⟩ | ⟨rfl, hk⟩ | ⟨rfl, hk⟩
        · have ec : X.2.1 0 = cA := by
            have h9 := (hKK.1.2 0 _ rfl).2
            rw [hk] at hNm
            exact Option.some.inj (h9.symm.trans hNm)
          rw [cellE_i (by rw [sh_new])]
          show H'[Hc.size]? = some (vp_cell _ _)
          rw [vp_cell_i, ec, q1, hk]
          simp only [up1, if_pos]
          rfl
        · have ec : X.2.1 1 = cA := by
            have h9 := (hKK.1.2 1 _ rfl).2
            rw [hk] at hNm
            exact Option.some.inj (h9.symm.trans hNm)
          rw [cellE_j (by rw [sh_new])]
          show H'[Hc.size]? = some (vp_cell _ _)
          rw [vp_cell_l, ec, q1, hk]
          simp only [up1, if_pos]
          rfl
        · have ec : X.2.1 2 = cA := by
            have h9 := (hKK.1.2 2 _ rfl).2
            rw [hk] at hNm
            exact Option.some.inj (h9.symm.trans hNm)
          rw [cellE_z (by rw [sh_new])]
          show H'[Hc.size]? = some (vp_cell _ _)
          rw [vp_cell_i, ec, q1, hk]
          simp only [up1, if_pos]
          rfl
  · cases h
theorem s_anew {X : CX} {l : Launch} {m pc idx kd : Nat} {nm : String} (hd : decode (cod m) pc = .ok (.anewarray idx, 3)) (hk : (kd = 23 ∧ nm = "StepsAhead$Op") ∨ (kd = 24 ∧ nm = "StepsAhead$Routine")) (hl0 : Cond.classLink (yn m).cls idx nm ∈ GT) : SI X l m pc (iW (pc + 3) (wNa kd)) := by
  refine si_iW fun ls st H H1 st' h => ?_
  unfold wNa at h
  split at h
  · rename_i v st2
    unfold hNa at h
    cases hb : (Nat.ble 4 H.2.1.1 && (decide (0 ≤ v) && Nat.ble v.toNatClampNeg 100000)) with
    | false => rw [hb] at h; simp at h
    | true =>
      rw [hb] at h
      cases h
      simp only [Bool.and_eq_true, decide_eq_true_eq] at hb
      have h4 := Nat.le_of_ble_eq_true hb.1
      have hbd := Nat.le_of_ble_eq_true hb.2.2
      refine ⟨grNew, ros_new h4, ?_⟩
      intro p e R s mid args below meth c Hc locs Q lsc cells slots hC hH hR hZ hS hz hl hn hrm k0
      have e1 : (hnw H kd v.toNatClampNeg).2.1.1 - H.2.1.1 = 1 := by show H.2.1.1 + 1 - H.2.1.1 = 1; omega
      have e2 : (hnw H kd v.toNatClampNeg).2.1.2 - H.2.1.2 = v.toNatClampNeg := by show H.2.1.2 + v.toNatClampNeg - H.2.1.2 = v.toNatClampNeg; omega
      rw [e1, e2] at k0 hrm
      have hv0 : ¬ v < 0 := fun q => by
        have := hb.2.1
        rw [Int32.le_iff_toInt_le] at this
        rw [Int32.lt_iff_toInt_lt] at q
        omega
      have hKK := hC.2.2.2.2.2.2
      have hAO : (Cond.arrayOver (.object nm)).before args s = true := by
        rcases hk with ⟨-, rfl⟩ | ⟨-, rfl⟩
        · exact va_AO.use hKK.2.2.2.2.1
        · exact va_AO.use hKK.2.2.2.2.2.1
      have hkq : (hnw H kd v.toNatClampNeg).1 H.2.1.1 = (kd, v.toNatClampNeg) := sh_new
      have hkd : 23 ≤ kd ∧ kd ≤ 26 := by rcases hk with ⟨rfl, -⟩ | ⟨rfl, -⟩ <;> exact ⟨by omega, by omega⟩
      refine W.anew hC.1 hC.2.1 hC.2.2.2.1 (hC.2.2.2.2.1 _ hl0) hAO (g := F0 mid pc lsc ((Sum.inl v :: st2).map (cvv X))) rfl hd rfl hv0 (by omega) hrm.2.2.1 hrm.2.2.2 fun cA kA comp f1 f2 f3 f4 => ?_
      generalize hH1 : Hc.push ({ cls := cA, slots := Array.replicate v.toNatClampNeg .null, vm := .none } : Cell) = H'
      have z1 : H'.size = Hc.size + 1 := by rw [← hH1, Array.size_push]
      have g1 : H'[Hc.size]? = some (arrV cA v.toNatClampNeg (fun _ => .null)) := by rw [← hH1, Array.getElem?_push_size, ← arrV_new]
      have o1 : ∀ q : Nat, q < Hc.size → H'[q]? = Hc[q]? := fun q hq => by rw [← hH1, Array.getElem?_push, if_neg (Nat.ne_of_lt hq)]
      have k1 := k0 H' locs lsc (hH.new z1 o1 ?_) (vaS_new hS (by omega) o1) hl hn
      · simp only [List.map_cons, cvv, adr_n hH] at k1
        exact k1
      · rw [cellE_q (by rw [hkq]; exact hkd.1) (by rw [hkq]; exact hkd.2), hkq]
        have ec : X.2.1 (kd - 20) = cA := by
          rcases hk with ⟨rfl, rfl⟩ | ⟨rfl, rfl⟩
          · obtain ⟨-, -, -, -, -, h9⟩ := (hKK.1.2 3 _ rfl).2
            exact Option.some.inj (h9.symm.trans f1)
          · obtain ⟨-, -, -, -, -, h9⟩ := (hKK.1.2 4 _ rfl).2
            exact Option.some.inj (h9.symm.trans f1)
        show H'[Hc.size]? = some (vp_cell _ _)
        rw [vp_cell_q, ec, g1]
        simp only [up1, if_pos]
        rfl
  · cases h
