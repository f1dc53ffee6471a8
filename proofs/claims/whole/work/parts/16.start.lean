/-! THE CLAIM OUT OF ONE WALK OF THE LAW'S BODY. Your part is whole_start (and what it stands on); all else here is the same for every law, but numbers. -/
def R_law : String := "StepsAheadLaw"
def lw_P (b : Addr) (xs : List Int32) (args : Array Value) (s : State) : Prop := args = #[.ref b] ∧ s.IntsAt b xs ∧ xs.length ≤ 4096 ∧ (Jvm.Cond.and given_1 narrow_1).before args s = true
def lw_Q (_ : Array Value) (s : State) (o : Outcome) (t : State) : Prop := o = .returned (some (.int 1)) ∧ Framed s o t [] 600000 7302250
def lw_Z (below : List Frame) (a : Array Value) (s : State) : State → Prop := fun t => ∃ o, t.status = .running ∧ Ended t below o ∧ lw_Q a s o t
/-- the law's own end, with 1 on the stack, nothing written that was there before, its room as the claim has it -/
theorem lw_ret {p : Program} {l : Launch} {e : Env} {s : State} {m : MethodId} {below : List Frame} {meth : Method} {c : Code} {b : Nat} (hx : p.tables.exec = Jvm.exec) (hb : c.code = code) (hr : meth.sig.returnType = ret) (hlocks : meth.locks = false) {pc : Nat} {H : Heap} {ls : Array Slot} (hdg : decode code pc = .ok (.ireturn, 1)) : W p l e room_1 s m #[Value.ref b] below meth c H [] 600000 7302250 (lw_Z below #[Value.ref b] s) (F0 m pc ls [.int 1]) := by
  intro T hT X
  obtain ⟨fs, hret, hrun, hended, hW, hframe⟩ := X.leave (v := some (.int 1)) (hlocks := hlocks) (fun h => by rw [hr] at h; cases h)
  have hmeth' : T.vm.method? m = some meth := X.method'
  refine ⟨T.setFrames fs, ?_, .returned (some (.int 1)), hrun, hended, rfl, ⟨_, rfl⟩, hW, hframe⟩
  jvm_step X.here [X.here.top, hx, hb, hdg, hmeth', hr, ret, narrow_b1]
  (try refine ⟨rfl, ?_⟩); (try refine ⟨rfl, ?_⟩)
  first | (intro acts; rw [hret _ acts rfl rfl rfl]) | rw [hret _ _ rfl rfl rfl]
  exact Steps.refl _
/-- what holds at the law's entry: the machine, the code, the tables' words (any of lw_tbl by 'hts w (by decide +kernel)'), the script of L ints xs at the cell b, what the Statement gives of the start (any of its parts by flat_of_before) -/
def lw_At (p : Program) (s : State) (m : MethodId) (meth : Method) (c : Code) (b L : Nat) (xs : Nat → Int32) : Prop :=
  p.tables.exec = Jvm.exec ∧ c.code = code ∧ meth.sig.returnType = ret ∧ c.maxLocals = 4 ∧ s.vm.findClass R_law = some m.cls ∧ (∀ w ∈ lw_tbl, w.before #[Value.ref b] s = true) ∧ va_X b L xs s s.heap ∧ b < s.heap.size ∧ meth.locks = false ∧ (Jvm.Cond.and given_1 narrow_1).before #[Value.ref b] s = true

/-- the tables that the statics hold -/
def upT (j : Nat) : Int32 := ([1, 6, 21, 56, 126, 252] : List Int32).getD j 0
def suT (j : Nat) : Int32 := ([0, 60, 0, 0, 0, 0, 0, 30, 30, 0, 0, 0, 0, 10, 30, 20, 0, 0, 0, 0, 15, 30, 15, 0, 0, (-2), 0, 20, 30, 12] : List Int32).getD j 0
/-- the memory at the law's start: the script at 1, the two tables at 2 and 3 -/
def H00 (xs : Nat → Int32) (L : Nat) : Hp := (fun r => if r = 1 then (30, L) else if r = 2 then (30, 6) else if r = 3 then (30, 30) else (0, 0), (4, 0), fun r => if r = 1 then xs else if r = 2 then upT else if r = 3 then suT else fun _ => 0, fun _ _ => 0, fun _ _ => 0)
/-- what is left to show: the abstract run of the law answers 1, within the room -/
def PURE : Prop := ∀ (xs : Nat → Int32) (L : Nat), L ≤ 4096 → ∃ H' : Hp, ev 181 0 [some (.inr (.inr 1)), none, none, none] [] (H00 xs L) = some (some (.inl 1), H') ∧ H'.2.1.1 ≤ 600004 ∧ H'.2.1.2 ≤ 7302250
theorem arr_K {s : State} {ty : FieldType} (h : ∃ c k comp, s.vm.findClass ("[" ++ ty.toString) = some c ∧ s.vm.classes[c]? = some k ∧ k.kind = .array comp ty) : ∃ c, ArrOfT s c ty ∧ s.vm.findClass ("[" ++ ty.toString) = some c := by
  obtain ⟨c, k, comp, h1, h2, h3⟩ := h
  exact ⟨c, fun n z => ⟨fun q hq => (by cases hq), k, h2, comp, h3⟩, h1⟩
theorem elems_ok {args : Array Value} {s : State} {tm : Term} : ∀ (l : List Int32) (i0 : Nat), (∀ j v, l[j]? = some v → (Cond.eq (.elem tm (.int (Int32.ofNat (i0 + j)))) (.int v)).before args s = true) → ∀ j, j < l.length → (Term.elem tm (.int (Int32.ofNat (i0 + j)))).eval args s none [] s = some (.int (l.getD j 0)) := by
  intro l i0 h j hj
  have e : l[j]? = some l[j] := List.getElem?_eq_getElem hj
  rw [va_eqt (h j _ e), List.getD_eq_getElem?_getD, e]
  rfl
set_option maxRecDepth 100000 in
set_option maxHeartbeats 4000000 in
/-- the start: all that the Statement gives, in the words of the abstract machine -/
theorem start_ok {s : State} {b L : Nat} {xs : Nat → Int32} (hts : ∀ w ∈ lw_tbl, w.before #[Value.ref b] s = true) (hX : va_X b L xs s s.heap) (hbl : b < s.heap.size) (hgv : (Jvm.Cond.and given_1 narrow_1).before #[Value.ref b] s = true) (hL : L ≤ 4096) :
    ∃ X : CX, KOK X s ∧ ROK X (H00 xs L) s s.heap ∧ ZOK X s s.heap ∧ HOK X (H00 xs L) s.heap ∧ X.2.2.1 = s.heap.size ∧ adr X 1 = some b := by
  have hs := flat_of_before _ hgv
  have hG : ∀ w ∈ GT, w.before #[Value.ref b] s = true := fun w h => hts w (GT_in w h)
  have hcl : ∀ ci : Nat, ∃ (cC : ClassId) (iS : Nat → Nat), ∀ q : vw_C, vwCl[ci]? = some q → u_Kn s q.1 q.2.1 q.2.2 cC iS := by
    intro ci
    match ci with
    | 0 => obtain ⟨cC, iS, h⟩ := u_known (C := RX0) (T := TX0) (N := 7) hG inX0 (hG _ (GT_of 372 rfl rfl)); exact ⟨cC, iS, fun q hq => by cases hq; exact h⟩
    | 1 => obtain ⟨cC, iS, h⟩ := u_known (C := RX2) (T := TX2) (N := 8) hG inX2 (hG _ (GT_of 399 rfl rfl)); exact ⟨cC, iS, fun q hq => by cases hq; exact h⟩
    | 2 => obtain ⟨cC, iS, h⟩ := u_known (C := RX3) (T := TX3) (N := 6) hG inX3 (hG _ (GT_of 332 rfl rfl)); exact ⟨cC, iS, fun q hq => by cases hq; exact h⟩
    | 3 => obtain ⟨cC, iS, h⟩ := u_known (C := RX4) (T := TX4) (N := 4) hG inX4 (hG _ (GT_of 447 rfl rfl)); exact ⟨cC, iS, fun q hq => by cases hq; exact h⟩
    | 4 => obtain ⟨cC, iS, h⟩ := u_known (C := RX5) (T := TX5) (N := 2) hG inX5 (hG _ (GT_of 47 rfl rfl)); exact ⟨cC, iS, fun q hq => by cases hq; exact h⟩
    | 5 => obtain ⟨cC, iS, h⟩ := u_known (C := RX6) (T := TX6) (N := 7) hG inX6 (hG _ (GT_of 41 rfl rfl)); exact ⟨cC, iS, fun q hq => by cases hq; exact h⟩
    | 6 => obtain ⟨cC, iS, h⟩ := u_known (C := RX7) (T := TX7) (N := 12) hG inX7 (hG _ (GT_of 132 rfl rfl)); exact ⟨cC, iS, fun q hq => by cases hq; exact h⟩
    | 7 => obtain ⟨cC, iS, h⟩ := u_known (C := RX8) (T := TX8) (N := 7) hG inX8 (hG _ (GT_of 104 rfl rfl)); exact ⟨cC, iS, fun q hq => by cases hq; exact h⟩
    | 8 => obtain ⟨cC, iS, h⟩ := u_known (C := RX9) (T := TX9) (N := 2) hG inX9 (hG _ (GT_of 27 rfl rfl)); exact ⟨cC, iS, fun q hq => by cases hq; exact h⟩
    | 9 => obtain ⟨cC, iS, h⟩ := u_known (C := RX10) (T := TX10) (N := 5) hG inX10 (hG _ (GT_of 236 rfl rfl)); exact ⟨cC, iS, fun q hq => by cases hq; exact h⟩
    | 10 => obtain ⟨cC, iS, h⟩ := u_known (C := RX11) (T := TX11) (N := 7) hG inX11 (hG _ (GT_of 17 rfl rfl)); exact ⟨cC, iS, fun q hq => by cases hq; exact h⟩
    | 11 => obtain ⟨cC, iS, h⟩ := u_known (C := RX12) (T := TX12) (N := 40) hG inX12 (hG _ (GT_of 829 rfl rfl)); exact ⟨cC, iS, fun q hq => by cases hq; exact h⟩
    | k + 12 => exact ⟨0, fun _ => 0, fun q hq => by simp at hq⟩
  obtain ⟨fC, hfC⟩ := Classical.axiomOfChoice hcl
  obtain ⟨fI, hfI⟩ := Classical.axiomOfChoice hfC
  obtain ⟨c0, a0, n0⟩ := arr_K (Cond.arrayClass_spec (hts _ (GT_in _ (GT_of 39 rfl rfl))))
  obtain ⟨c1, a1, n1⟩ := arr_K (Cond.arrayClass_spec (hts _ (GT_in _ (GT_of 102 rfl rfl))))
  obtain ⟨c2, a2, n2⟩ := arr_K (Cond.arrayClass_spec (hts _ (GT_in _ (GT_of 955 rfl rfl))))
  have o3 : va_AO "StepsAhead$Op" s := va_AO.of (hts _ (List.mem_append_right _ (List.mem_of_getElem? (i := 138) rfl)))
  have o4 : va_AO "StepsAhead$Routine" s := va_AO.of (hts _ (List.mem_append_right _ (List.mem_of_getElem? (i := 25) rfl)))
  have o5 : va_AOA .int s := va_AOA.of (hts _ (List.mem_append_right _ (List.mem_of_getElem? (i := 53) rfl)))
  have o6 : va_AOA .long s := va_AOA.of (hts _ (List.mem_append_right _ (List.mem_of_getElem? (i := 79) rfl)))
  obtain ⟨p3, c3, k3, g31, -, g33, g34, g35⟩ := Cond.arrayOver_spec o3
  obtain ⟨p4, c4, k4, g41, -, g43, g44, g45⟩ := Cond.arrayOver_spec o4
  obtain ⟨p5, c5, k5, g51, -, g53, g54, g55⟩ := o5.spec
  obtain ⟨p6, c6, k6, g61, -, g63, g64, g65⟩ := o6.spec
  have hA : ∀ a : Nat, a < s.heap.size → ¬ (s.heap.size ≤ a) := fun a h => by omega
  obtain ⟨t1, e1, T1⟩ := va_Tof (tm := .static "StepsAhead$Products" "UP_TO" "[I") (ty := .int) (N := 6) (f := fun j => .int (upT j)) (A := fun q => s.heap.size ≤ q) (by decide) (hs _ (List.mem_of_getElem? (i := 5) rfl)) (va_eqt (hs _ (List.mem_of_getElem? (i := 6) rfl))) (fun j hj => by
    have h9 := elems_ok (args := #[Value.ref b]) (s := s) (tm := .static "StepsAhead$Products" "UP_TO" "[I") [1, 6, 21, 56, 126, 252] 0 (fun j v hj => match j, hj with
      | 0, hj => by cases hj; exact (hs _ (List.mem_of_getElem? (i := 7) rfl))
      | 1, hj => by cases hj; exact (hs _ (List.mem_of_getElem? (i := 8) rfl))
      | 2, hj => by cases hj; exact (hs _ (List.mem_of_getElem? (i := 9) rfl))
      | 3, hj => by cases hj; exact (hs _ (List.mem_of_getElem? (i := 10) rfl))
      | 4, hj => by cases hj; exact (hs _ (List.mem_of_getElem? (i := 11) rfl))
      | 5, hj => by cases hj; exact (hs _ (List.mem_of_getElem? (i := 12) rfl))
      | j + 6, hj => by simp at hj) j hj
    rw [Nat.zero_add] at h9
    exact h9) hA
  obtain ⟨t2, e2, T2⟩ := va_Tof (tm := .static "StepsAhead$Reckoner" "SUMS" "[I") (ty := .int) (N := 30) (f := fun j => .int (suT j)) (A := fun q => s.heap.size ≤ q) (by decide) (hs _ (List.mem_of_getElem? (i := 14) rfl)) (va_eqt (hs _ (List.mem_of_getElem? (i := 15) rfl))) (fun j hj => by
    have h9 := elems_ok (args := #[Value.ref b]) (s := s) (tm := .static "StepsAhead$Reckoner" "SUMS" "[I") [0, 60, 0, 0, 0, 0, 0, 30, 30, 0, 0, 0, 0, 10, 30, 20, 0, 0, 0, 0, 15, 30, 15, 0, 0, (-2), 0, 20, 30, 12] 0 (fun j v hj => match j, hj with
      | 0, hj => by cases hj; exact (hs _ (List.mem_of_getElem? (i := 16) rfl))
      | 1, hj => by cases hj; exact (hs _ (List.mem_of_getElem? (i := 17) rfl))
      | 2, hj => by cases hj; exact (hs _ (List.mem_of_getElem? (i := 18) rfl))
      | 3, hj => by cases hj; exact (hs _ (List.mem_of_getElem? (i := 19) rfl))
      | 4, hj => by cases hj; exact (hs _ (List.mem_of_getElem? (i := 20) rfl))
      | 5, hj => by cases hj; exact (hs _ (List.mem_of_getElem? (i := 21) rfl))
      | 6, hj => by cases hj; exact (hs _ (List.mem_of_getElem? (i := 22) rfl))
      | 7, hj => by cases hj; exact (hs _ (List.mem_of_getElem? (i := 23) rfl))
      | 8, hj => by cases hj; exact (hs _ (List.mem_of_getElem? (i := 24) rfl))
      | 9, hj => by cases hj; exact (hs _ (List.mem_of_getElem? (i := 25) rfl))
      | 10, hj => by cases hj; exact (hs _ (List.mem_of_getElem? (i := 26) rfl))
      | 11, hj => by cases hj; exact (hs _ (List.mem_of_getElem? (i := 27) rfl))
      | 12, hj => by cases hj; exact (hs _ (List.mem_of_getElem? (i := 28) rfl))
      | 13, hj => by cases hj; exact (hs _ (List.mem_of_getElem? (i := 29) rfl))
      | 14, hj => by cases hj; exact (hs _ (List.mem_of_getElem? (i := 30) rfl))
      | 15, hj => by cases hj; exact (hs _ (List.mem_of_getElem? (i := 31) rfl))
      | 16, hj => by cases hj; exact (hs _ (List.mem_of_getElem? (i := 32) rfl))
      | 17, hj => by cases hj; exact (hs _ (List.mem_of_getElem? (i := 33) rfl))
      | 18, hj => by cases hj; exact (hs _ (List.mem_of_getElem? (i := 34) rfl))
      | 19, hj => by cases hj; exact (hs _ (List.mem_of_getElem? (i := 35) rfl))
      | 20, hj => by cases hj; exact (hs _ (List.mem_of_getElem? (i := 36) rfl))
      | 21, hj => by cases hj; exact (hs _ (List.mem_of_getElem? (i := 37) rfl))
      | 22, hj => by cases hj; exact (hs _ (List.mem_of_getElem? (i := 38) rfl))
      | 23, hj => by cases hj; exact (hs _ (List.mem_of_getElem? (i := 39) rfl))
      | 24, hj => by cases hj; exact (hs _ (List.mem_of_getElem? (i := 40) rfl))
      | 25, hj => by cases hj; exact (hs _ (List.mem_of_getElem? (i := 41) rfl))
      | 26, hj => by cases hj; exact (hs _ (List.mem_of_getElem? (i := 42) rfl))
      | 27, hj => by cases hj; exact (hs _ (List.mem_of_getElem? (i := 43) rfl))
      | 28, hj => by cases hj; exact (hs _ (List.mem_of_getElem? (i := 44) rfl))
      | 29, hj => by cases hj; exact (hs _ (List.mem_of_getElem? (i := 45) rfl))
      | j + 30, hj => by simp at hj) j hj
    rw [Nat.zero_add] at h9
    exact h9) hA
  have z1 := va_Zref (A := fun q => s.heap.size ≤ q) (hts _ (List.mem_append_right _ (List.mem_of_getElem? (i := 58) rfl))) (hts _ (GT_in _ (GT_of 4 rfl rfl))) e1 hA
  have z2 := va_Zref (A := fun q => s.heap.size ≤ q) (hts _ (List.mem_append_right _ (List.mem_of_getElem? (i := 683) rfl))) (hts _ (GT_in _ (GT_of 3 rfl rfl))) e2 hA
  have T0 : va_T .int b L (fun j => .int (xs j)) (fun q => s.heap.size ≤ q) s s.heap := by
    obtain ⟨cell, h1, h2, h3, h4, h5⟩ := hX
    exact ⟨cell, h1, h2, h3, by omega, by rw [h4], h5, hA b hbl⟩
  have lt0 : ∀ {t N : Nat} {f : Nat → Value} {A : Nat → Prop}, va_T .int t N f A s s.heap → t < s.heap.size := fun h => by
    obtain ⟨cell, h1, -⟩ := h
    exact (Array.getElem?_eq_some_iff.mp h1).1
  refine ⟨((fC, fI), fun k => ([c0, c1, c2, c3, c4, c5, c6] : List ClassId).getD k c0, s.heap.size, b, t1, t2), ⟨⟨fun ci q hq => hfI ci q hq, ?_⟩, ?_, ?_, ?_, o3, o4, o5, o6⟩, ?_, ⟨z1, z2⟩, ?_, rfl, rfl⟩
  · intro k q hq
    have hk : k < 7 := (List.getElem?_eq_some_iff.mp hq).1
    match k, hq with
    | 0, hq => cases hq; exact ⟨a0, n0⟩
    | 1, hq => cases hq; exact ⟨a1, n1⟩
    | 2, hq => cases hq; exact ⟨a2, n2⟩
    | 3, hq => cases hq; exact ⟨fun n z => ⟨fun q hq => (by cases hq), k3, g33, p3, g34⟩, k3, p3, g33, g34, g31, g35⟩
    | 4, hq => cases hq; exact ⟨fun n z => ⟨fun q hq => (by cases hq), k4, g43, p4, g44⟩, k4, p4, g43, g44, g41, g45⟩
    | 5, hq => cases hq; exact ⟨fun n z => ⟨fun q hq => (by cases hq), k5, g53, p5, g54⟩, g55⟩
    | 6, hq => cases hq; exact ⟨fun n z => ⟨fun q hq => (by cases hq), k6, g63, p6, g64⟩, g65⟩
  · show ∀ w ∈ EXW, va_Nw w s
    exact List.forall_mem_cons.mpr ⟨va_Nw.of rfl (hts _ (List.mem_append_right _ (List.mem_of_getElem? (i := 28) rfl))), List.forall_mem_cons.mpr ⟨va_Nw.of rfl (hts _ (List.mem_append_right _ (List.mem_of_getElem? (i := 42) rfl))), List.forall_mem_cons.mpr ⟨va_Nw.of rfl (hts _ (List.mem_append_right _ (List.mem_of_getElem? (i := 105) rfl))), List.forall_mem_cons.mpr ⟨va_Nw.of rfl (hts _ (List.mem_append_right _ (List.mem_of_getElem? (i := 338) rfl))), List.forall_mem_cons.mpr ⟨va_Nw.of rfl (hts _ (List.mem_append_right _ (List.mem_of_getElem? (i := 1188) rfl))), List.forall_mem_cons.mpr ⟨va_Nw.of rfl (hts _ (List.mem_append_right _ (List.mem_of_getElem? (i := 1189) rfl))), List.forall_mem_cons.mpr ⟨va_Nw.of rfl (hts _ (List.mem_append_right _ (List.mem_of_getElem? (i := 1190) rfl))), List.forall_mem_cons.mpr ⟨va_Nw.of rfl (hts _ (List.mem_append_right _ (List.mem_of_getElem? (i := 1191) rfl))), List.forall_mem_cons.mpr ⟨va_Nw.of rfl (hts _ (List.mem_append_right _ (List.mem_of_getElem? (i := 1192) rfl))), List.forall_mem_cons.mpr ⟨va_Nw.of rfl (hts _ (List.mem_append_right _ (List.mem_of_getElem? (i := 1193) rfl))), fun _ h => by cases h⟩⟩⟩⟩⟩⟩⟩⟩⟩⟩
  · show ∀ q ∈ [("StepsAhead$Call", "StepsAhead$Either"), ("StepsAhead$Call", "StepsAhead$Loop"), ("StepsAhead$Call", "StepsAhead$Work"), ("StepsAhead$Either", "StepsAhead$Call"), ("StepsAhead$Either", "StepsAhead$Loop"), ("StepsAhead$Either", "StepsAhead$Work"), ("StepsAhead$Loop", "StepsAhead$Call"), ("StepsAhead$Loop", "StepsAhead$Either"), ("StepsAhead$Loop", "StepsAhead$Work"), ("StepsAhead$Op", "StepsAhead$Call"), ("StepsAhead$Op", "StepsAhead$Either"), ("StepsAhead$Op", "StepsAhead$Loop"), ("StepsAhead$Op", "StepsAhead$Work"), ("StepsAhead$Work", "StepsAhead$Call"), ("StepsAhead$Work", "StepsAhead$Either"), ("StepsAhead$Work", "StepsAhead$Loop")], va_Nc q.1 q.2 s
    exact List.forall_mem_cons.mpr ⟨va_Nc.of (hs _ (List.mem_of_getElem? (i := 98) rfl)), List.forall_mem_cons.mpr ⟨va_Nc.of (hs _ (List.mem_of_getElem? (i := 54) rfl)), List.forall_mem_cons.mpr ⟨va_Nc.of (hs _ (List.mem_of_getElem? (i := 86) rfl)), List.forall_mem_cons.mpr ⟨va_Nc.of (hs _ (List.mem_of_getElem? (i := 66) rfl)), List.forall_mem_cons.mpr ⟨va_Nc.of (hs _ (List.mem_of_getElem? (i := 55) rfl)), List.forall_mem_cons.mpr ⟨va_Nc.of (hs _ (List.mem_of_getElem? (i := 87) rfl)), List.forall_mem_cons.mpr ⟨va_Nc.of (hs _ (List.mem_of_getElem? (i := 65) rfl)), List.forall_mem_cons.mpr ⟨va_Nc.of (hs _ (List.mem_of_getElem? (i := 97) rfl)), List.forall_mem_cons.mpr ⟨va_Nc.of (hs _ (List.mem_of_getElem? (i := 85) rfl)), List.forall_mem_cons.mpr ⟨va_Nc.of (hs _ (List.mem_of_getElem? (i := 67) rfl)), List.forall_mem_cons.mpr ⟨va_Nc.of (hs _ (List.mem_of_getElem? (i := 99) rfl)), List.forall_mem_cons.mpr ⟨va_Nc.of (hs _ (List.mem_of_getElem? (i := 56) rfl)), List.forall_mem_cons.mpr ⟨va_Nc.of (hs _ (List.mem_of_getElem? (i := 88) rfl)), List.forall_mem_cons.mpr ⟨va_Nc.of (hs _ (List.mem_of_getElem? (i := 64) rfl)), List.forall_mem_cons.mpr ⟨va_Nc.of (hs _ (List.mem_of_getElem? (i := 96) rfl)), List.forall_mem_cons.mpr ⟨va_Nc.of (hs _ (List.mem_of_getElem? (i := 53) rfl)), fun _ h => by cases h⟩⟩⟩⟩⟩⟩⟩⟩⟩⟩⟩⟩⟩⟩⟩⟩
  · exact ⟨va_Nc.of (hs _ (List.mem_of_getElem? (i := 76) rfl)), va_Nc.of (hs _ (List.mem_of_getElem? (i := 77) rfl)), va_Nc.of (hs _ (List.mem_of_getElem? (i := 75) rfl))⟩
  · intro r hr
    rcases hr with rfl | rfl | rfl
    · exact ⟨b, rfl, hbl, rfl, T0⟩
    · exact ⟨t1, rfl, lt0 T1, rfl, T1⟩
    · exact ⟨t2, rfl, lt0 T2, rfl, T2⟩
  · refine ⟨Nat.le_refl _, by simp [H00], fun k hk => absurd hk (by show ¬ k + 4 < 4; omega), fun r hr => ?_⟩
    simp only [H00] at hr ⊢
    by_cases h1 : r = 1
    · subst h1; exact ⟨by omega, fun _ => ⟨by omega, rfl⟩⟩
    by_cases h2 : r = 2
    · subst h2; exact ⟨by omega, fun _ => ⟨by omega, rfl⟩⟩
    by_cases h3 : r = 3
    · subst h3; exact ⟨by omega, fun _ => ⟨by omega, rfl⟩⟩
    simp [h1, h2, h3] at hr
set_option maxHeartbeats 4000000 in
/-- the law comes to its end with true, if the abstract run does -/
theorem whole_start_open (hPure : PURE) {p : Program} {e : Env} {s : State} {m : MethodId} {below : List Frame} {meth : Method} {c : Code} (l : Launch) {b L : Nat} {xs : Nat → Int32} (hL : L ≤ 4096) (C0 : lw_At p s m meth c b L xs) (hnm : meth.name = "law") : W p l e room_1 s m #[Value.ref b] below meth c s.heap [] 0 0 (lw_Z below #[Value.ref b] s) (entryFrame m ([Value.ref b] : List Value).toArray 4) := by
  obtain ⟨hx, hb, hr, hml, hown, hts, hX, hbl, hlocks, hgv⟩ := C0
  obtain ⟨X, hK, hR, hZ, hH, hz, had⟩ := start_ok hts hX hbl hgv hL
  obtain ⟨H', hev, h1, h2⟩ := hPure xs L hL
  obtain ⟨g, -, w⟩ := ev_ok X l _ _ _ _ _ _ _ hev
  have hC : CT X 181 p s m #[Value.ref b] meth c := ⟨hx, hb, hml, hown, fun w h => hts w (GT_in w h), hnm, hK⟩
  rw [lg_entry_eq]
  have hent := ent_has (X := X) (as := [.inr (.inr 1)]) (n := 4) (by decide)
  have e1 : ([.inr (.inr 1)] : List AV).map (cvv X) = [Value.ref b] := by simp only [List.map_cons, List.map_nil, cvv, had]; rfl
  rw [e1] at hent
  have k := w p e room_1 s m #[Value.ref b] below meth c s.heap [] (lw_Z below #[Value.ref b] s) _ 4 0 hC hH hR hZ va_S.rf (Nat.le_of_eq hz) hent rfl ⟨by decide, by decide, by show H'.2.1.1 - 4 ≤ 600000; omega, by show H'.2.1.2 - 0 ≤ 7302250; omega⟩ (Nat.le_refl _) (Nat.le_refl _) ?_
  · exact k
  intro pc' lsc' Hc' locs' hd hH' hS' _
  refine va_forget (fun q hq => by have := hS'.2.2 q hq; rw [← hz]; exact this) ?_
  refine W.widen (k := 600000) (n := 7302250) (by omega) (by omega) ?_
  exact lw_ret hx hb hr hlocks hd
set_option maxHeartbeats 4000000 in
theorem lw_walk (hPure : PURE) (l : Launch) (b : Addr) (xs : List Int32) : MetFree l x (headSpec (Jvm.Cond.code x code maxLocals ret :: tables_1) room_1) (lw_P b xs) (fun _ _ _ _ _ => True) lw_Q := by
  refine MetFree.of_bodyS (code := code) (maxLocals := maxLocals) (ret := ret) (by decide) ?_ ?_
  · intro args s m h hn
    obtain ⟨meth, c, h1, h2, h3, h4, h5, h6, -, -⟩ := Cond.code_spec hn (atoms_spec (ws := Jvm.Cond.code x code maxLocals ret :: tables_1) h _ List.mem_cons_self)
    exact ⟨meth, c, h1, h2, h3, h4, h5, h6⟩
  · intro p e s m args below meth c s₁ B hml0 hP _
    obtain ⟨rfl, hx, hbd, hgv⟩ := hP
    obtain ⟨scr, harrAt, hlist, hof, hsmall⟩ := hx
    obtain ⟨hcb, hkn, -, -⟩ := State.arrayAt?_spec harrAt
    have hown : s.vm.findClass R_law = some m.cls := findClass_of_methodNamed B.named
    have hts0 : ∀ c ∈ (Jvm.Cond.code x code maxLocals ret :: tables_1), c.before #[Value.ref b] s = true := atoms_spec (ws := Jvm.Cond.code x code maxLocals ret :: tables_1) B.pre
    have hts : ∀ w ∈ lw_tbl, w.before #[Value.ref b] s = true := k2_hts_sels lw_privs (fun w hw => hts0 w (List.mem_cons_of_mem _ hw)) lw_privs_ok
    have hml : c.maxLocals = 4 := B.maxLocals_eq (hts0 _ List.mem_cons_self)
    have X₀ : Stand p l e room_1 s m #[Value.ref b] below meth c s₁ [] 0 0 := Stand.of_body B
    have hh0 : s₁.heap = s.heap := by rw [B.state]; rfl
    have hsz : scr.slots.size = xs.length := by rw [← Array.length_toList, hlist, List.length_map]
    have hval : ∀ j : Nat, j < xs.length → scr.slots[j]? = some (.int (xs.getD j 0)) := fun j hj => by
      rw [← Array.getElem?_toList, hlist]
      simp [hj]
    have hbl : b < s.heap.size := (Array.getElem?_eq_some_iff.mp hcb).1
    have hX : va_X b xs.length (fun j => xs.getD j 0) s s.heap := ⟨scr, hcb, hof, hkn, hsz, hval⟩
    have K : W p l e room_1 s m #[Value.ref b] below meth c s₁.heap [] 0 0 (lw_Z below #[Value.ref b] s) (entryFrame m ([Value.ref b] : List Value).toArray 4) := by
      rw [hh0]
      exact whole_start_open hPure l hbd ⟨B.exec, B.bytes, B.returns, hml, hown, hts, hX, hbl, B.notSynchronized, hgv⟩ (name_of_methodNamed B.named B.method).1
    obtain ⟨t, a1, o, b1, b2, b3⟩ := K s₁ rfl X₀
    exact ⟨t, o, a1, b1, b2, b3⟩
theorem lw_pre_spec {args : Array Value} {s : State} (h : (Jvm.Cond.and given_1 narrow_1).before args s = true) (hr : rest_1_c.before args s = true) : ∃ (b : Addr) (xs : List Int32), lw_P b xs args s := by
  have hs := flat_of_before _ h
  have hq := flat_of_before _ hr
  have hc : (Cond.count 1).before args s = true := hs _ (by decide +kernel)
  have harr : (Cond.arrayOf (.arg 0) .int).before args s = true := hs _ (by decide +kernel)
  have hle : (Cond.le (.length (.arg 0)) (.int 4096)).before args s = true := hs _ (by decide +kernel)
  have hlen : (Cond.isInt (.length (.arg 0))).before args s = true := hq _ (by decide +kernel)
  have hall : (Cond.all (.arg 0) (.isInt (.elem (.arg 0) (.index 0)))).before args s = true := hq _ (by decide +kernel)
  obtain ⟨b, xs, hb, hx⟩ := State.ints_of_pre rfl harr hlen hall
  have hsm : xs.length < 2 ^ 31 := hx.choose_spec.2.2.2
  have hev : (Term.length (.arg 0)).eval args s none [] s = some (.int xs.length.toInt32) := hx.length_eval hb
  have hv := Cond.le_ints hev (show (Term.int 4096).eval args s none [] s = some (.int 4096) from rfl)
  have hd : xs.length.toInt32 ≤ 4096 := by
    simpa [Cond.before, Cond.holds, hv] using hle
  have hN : xs.length ≤ 4096 := (Int32.ofNat_le_ofNat hsm (by decide)).mp (show Int32.ofNat xs.length ≤ Int32.ofNat 4096 from hd)
  exact ⟨b, xs, Cond.one_arg hc (show args[0]? = some (.ref b) from hb), hx, hN, h⟩
theorem lw_comes (hPure : PURE) (l : Launch) : Comes l x (Jvm.Cond.code x code maxLocals ret :: tables_1) room_1 (fun tb e args s => Calls_1 tb e args s ∧ rest_1 tb e args s ∧ Pre_1 tb e args s)
    (fun _ _ args s o t => lw_Q args s o t) := by
  intro p e ha hc hk s m args below hf hfit hheap happ hpre
  obtain ⟨b, xs, hP⟩ := lw_pre_spec hpre.2.2 hpre.2.1
  obtain ⟨k, o, h1, h2, h3, hQ⟩ := lw_walk hPure l b xs p e ha hc hk s m args below hf ((Spec.applies_iff_loose hf).mp happ).1 hP trivial
  exact ⟨k, o, h1, h2, h3, hQ⟩
theorem lw_frame {s t : State} {o : Outcome} {args : Array Value} (h : Framed s o t [] 600000 7302250) :
    Framed s o t (fieldLocs frame_1_writes args s ++ arrayLocs frame_1_arrays args s ++ staticLocs frame_1_statics s) 600000 7302250 := h
theorem lw_limb (hPure : PURE) (L : Cond) (hL : ∀ (args : Array Value) (s t : State), L.after args s (.returned (some (.int 1))) t = true) :
    ArmFor flags0 classFile x code maxLocals ret World_1 tables_1 room_1 Calls_1 rest_1 Pre_1
      (fun tb e a s o t => postC L tb e a s o t ∧ Framed s o t (fieldLocs frame_1_writes a s ++ arrayLocs frame_1_arrays a s ++ staticLocs frame_1_statics s) 600000 7302250) := by
  intro l _ _ _ p e ha hc hk s m args below hf hfit hheap happ hpre
  obtain ⟨k, o, h1, h2, h3, rfl, hF⟩ := lw_comes hPure l p e ha hc hk s m args below hf hfit hheap happ hpre
  exact ⟨k, _, h1, h2, h3, hL args s _, lw_frame hF⟩
theorem i_vc_open (hPure : PURE) : Claimed_1_1 ∧ Claimed_1_2 := ⟨lw_limb hPure limb_1_1 (fun args s t => by simp [limb_1_1, Cond.after, Cond.holds, Cond.value]), lw_limb hPure limb_1_2 (fun args s t => Cond.after_iff.mpr (by
  first | (rw [show limb_1_2 = Cond.eq .result (.int 1) from rfl, Cond.eq_ints (x := 1) (y := 1) rfl rfl]; simp; done) | (simp [limb_1_2, Cond.value, Term.eval]; done)))⟩

