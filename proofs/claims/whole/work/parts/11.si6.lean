/-! clone of an int array; new T[n][k] -/
def hCl (H : Hp) (r : Nat) : Option Hp := bif Nat.ble 4 H.2.1.1 && Nat.beq (H.1 r).1 20 then some (up1 H.1 H.2.1.1 (20, (H.1 r).2), (H.2.1.1 + 1, H.2.1.2 + (H.1 r).2), up1 H.2.2.1 H.2.1.1 (H.2.2.1 r), up1 H.2.2.2.1 H.2.1.1 (fun _ => 0), up1 H.2.2.2.2 H.2.1.1 (fun _ => 0)) else none
def wCl : ALs → List AV → Hp → Option (Option Hp × List AV) := fun _ st H => match st with
  | .inr (.inr r) :: st => some (bif Nat.ble (catS st) 8 then hCl H r else none, .inr (.inr H.2.1.1) :: st)
  | _ => none
theorem cellE_up {X : CX} {H : Hp} {n : Nat} {sh : Nat × Nat} {a : Nat → Int32} {b : Nat → Int64} {d : Nat → Nat} {z : Nat × Nat} {q : Nat} (h : q ≠ n) : cellE X (up1 H.1 n sh, z, up1 H.2.2.1 n a, up1 H.2.2.2.1 n b, up1 H.2.2.2.2 n d) q = cellE X H q := by
  have e : fval X (up1 H.1 n sh, z, up1 H.2.2.1 n a, up1 H.2.2.2.1 n b, up1 H.2.2.2.2 n d) q = fval X H q := funext fun f => by simp only [fval, up1, if_neg h]
  unfold cellE
  rw [e]
  simp only [up1, if_neg h]
theorem HOK.new2 {X : CX} {H : Hp} {Hc Hc' : Heap} (h : HOK X H Hc) {kd len sl : Nat} {a : Nat → Int32} {b : Nat → Int64} {d : Nat → Nat} (hz : Hc'.size = Hc.size + 1) (ho : ∀ q, q < Hc.size → Hc'[q]? = Hc[q]?) (hat : va_at X.1 vwCl (Hc.size, cellE X (up1 H.1 H.2.1.1 (kd, len), (H.2.1.1 + 1, sl), up1 H.2.2.1 H.2.1.1 a, up1 H.2.2.2.1 H.2.1.1 b, up1 H.2.2.2.2 H.2.1.1 d) H.2.1.1) Hc') :
    HOK X (up1 H.1 H.2.1.1 (kd, len), (H.2.1.1 + 1, sl), up1 H.2.2.1 H.2.1.1 a, up1 H.2.2.2.1 H.2.1.1 b, up1 H.2.2.2.2 H.2.1.1 d) Hc' := by
  obtain ⟨h1, h2, h3, h4⟩ := h
  refine ⟨by show 4 ≤ H.2.1.1 + 1; omega, by show Hc'.size = X.2.2.1 + (H.2.1.1 + 1 - 4); omega, fun j hj => ?_, fun r hr => ?_⟩
  · have hj : j + 4 < H.2.1.1 + 1 := hj
    by_cases e : j + 4 = H.2.1.1
    · rw [e, show X.2.2.1 + j = Hc.size by omega]; exact hat
    · rw [cellE_up e]
      exact (h3 j (by omega)).kept (ho _ (by show X.2.2.1 + j < Hc.size; omega))
  · have hr : (up1 H.1 H.2.1.1 (kd, len) r).1 ≠ 0 := hr
    show r < H.2.1.1 + 1 ∧ (r < 4 → r ≠ 0 ∧ (up1 H.1 H.2.1.1 (kd, len) r).1 = 30)
    unfold up1 at hr ⊢
    by_cases e : r = H.2.1.1
    · exact ⟨by omega, fun q => by omega⟩
    · rw [if_neg e] at hr ⊢
      exact ⟨by have := (h4 r hr).1; omega, (h4 r hr).2⟩
theorem s_clone {X : CX} {l : Launch} {m pc idx : Nat} (hd : decode (cod m) pc = .ok (.invokevirtual idx, 3)) (w1 : Cond.methodLink (yn m).cls idx ⟨"[I", "clone", "()Ljava/lang/Object;"⟩ ∈ GT) (w2 : Cond.sameMethod "[I" "java/lang/Object" "clone" "()Ljava/lang/Object;" ∈ GT) (w3 : Cond.native ⟨"java/lang/Object", "clone", "()Ljava/lang/Object;"⟩ ∈ GT) (w4 : Cond.instanceMethod ⟨"java/lang/Object", "clone", "()Ljava/lang/Object;"⟩ ∈ GT) (w5 : Cond.selects "[I" ⟨"[I", "clone", "()Ljava/lang/Object;"⟩ ⟨"java/lang/Object", "clone", "()Ljava/lang/Object;"⟩ ∈ GT) (hfr : 1 ≤ frs m ∧ 40 ≤ los m) : SI X l m pc (iW (pc + 3) wCl) := by
  refine si_iW fun ls st H H1 st' h => ?_
  unfold wCl at h
  split at h
  · rename_i r st2
    cases hcat : Nat.ble (catS st2) 8 with
    | false => rw [hcat] at h; simp at h
    | true =>
    rw [hcat] at h
    simp only [cond_true] at h
    unfold hCl at h
    cases hb : (Nat.ble 4 H.2.1.1 && Nat.beq (H.1 r).1 20) with
    | false => rw [hb] at h; simp at h
    | true =>
      rw [hb] at h
      cases h
      rw [Bool.and_eq_true] at hb
      have h4 := Nat.le_of_ble_eq_true hb.1
      have hk := beq_eq hb.2
      have hc8 := Nat.le_of_ble_eq_true hcat
      refine ⟨⟨Nat.le_add_right _ _, Nat.le_add_right _ _⟩, fun k hk4 => ⟨by show up1 H.1 H.2.1.1 _ k = _; simp [up1, show k ≠ H.2.1.1 by omega], by show up1 H.2.2.1 H.2.1.1 _ k = _; simp [up1, show k ≠ H.2.1.1 by omega]⟩, ?_⟩
      intro p e R s mid args below meth c Hc locs Q lsc cells slots hC hH hR hZ hS hz hl hn hrm k0
      have e1 : H.2.1.1 + 1 - H.2.1.1 = 1 := by omega
      have e2 : H.2.1.2 + (H.1 r).2 - H.2.1.2 = (H.1 r).2 := by omega
      simp only [e1, e2] at k0 hrm
      have hts := hC.2.2.2.2.1
      have hKK := hC.2.2.2.2.2.2
      obtain ⟨k, rfl, hat⟩ := arr_at hH (r := r) (by omega) (by omega)
      rw [cellE_i hk] at hat
      have hcell : Hc[X.2.2.1 + k]? = some (vp_cell (X.2.1 0) ((H.1 (k + 4)).2, .inl (H.2.2.1 (k + 4)))) := hat
      have hnm : s.vm.findClass "[I" = some (X.2.1 0) := (hKK.1.2 0 _ rfl).2
      obtain ⟨c0, t0', f1, f2, f3⟩ := Cond.castable_spec (va_Nw.use (A := args) rfl (hKK.2.1 (.castable "[I" "java/lang/Cloneable") (by decide)))
      cases hnm.symm.trans f1
      have hsz : (vp_cell (X.2.1 0) ((H.1 (k + 4)).2, .inl (H.2.2.1 (k + 4)))).slots.size = (H.1 (k + 4)).2 := arrV_size _ _ _
      intro T hT XX
      obtain ⟨-, kA, hkA, comp, hkind⟩ := State.isArrayOf_alike XX.warmed.alike ((hKK.1.2 0 _ rfl).1 0 (fun _ => .null))
      obtain ⟨-, kS, hkS, compS, hkindS⟩ := (hKK.1.2 0 _ rfl).1 0 (fun _ => .null)
      obtain ⟨vm', X', st9⟩ := XX.cloneArray hC.1 hC.2.2.2.1 (hts _ w1) (hts _ w2) (hts _ w3) (hts _ w4) (hts _ w5) (a := X.2.2.1 + k) (cell := vp_cell (X.2.1 0) ((H.1 (k + 4)).2, .inl (H.2.2.1 (k + 4)))) (by rw [hT]; exact hcell) (fun k h => by cases h) (fun h => by cases h) hnm f2 f3
        (fun i v hv => by
          have hk' : T.vm.classes[X.2.1 0]? = some kA := hkA
          have hv2 : fits .int v = true := by
            have hi : i < (H.1 (k + 4)).2 := by rw [← hsz]; exact (Array.getElem?_eq_some_iff.mp hv).1
            have h9 : (arrV (X.2.1 0) (H.1 (k + 4)).2 (fun j => Value.int (H.2.2.1 (k + 4) j))).slots[i]? = some v := hv
            rw [arrV_read _ _ hi] at h9
            cases h9
            rfl
          show T.fitsSlot (X.2.1 0) _ i v = true
          simpa [State.fitsSlot, State.slotType?, hk', hkind] using hv2)
        (g := F0 mid pc lsc ((Sum.inr (Sum.inr (k + 4)) :: st2).map (cvv X))) rfl (by show lsc.size = c.maxLocals; rw [hC.2.2.1]; exact hl.1) rfl (by rw [hC.2.1]; exact hd) (by have := hrm.1; omega) (by show 2 * 0 + ((st2.map (cvv X)).map fun v => v.category).sum + 14 ≤ _; rw [catS_eq]; have := hrm.2.1; omega) hrm.2.2.1 (by rw [hsz]; exact hrm.2.2.2) (hloader := Vm.clonesLoader_of_array hkS hkindS)
      rw [hsz] at X'
      have z1 : (Hc.push (vp_cell (X.2.1 0) ((H.1 (k + 4)).2, .inl (H.2.2.1 (k + 4))))).size = Hc.size + 1 := by rw [Array.size_push]
      have g1 : (Hc.push (vp_cell (X.2.1 0) ((H.1 (k + 4)).2, .inl (H.2.2.1 (k + 4)))))[Hc.size]? = some (vp_cell (X.2.1 0) ((H.1 (k + 4)).2, .inl (H.2.2.1 (k + 4)))) := by rw [Array.getElem?_push_size]
      have o1 : ∀ q : Nat, q < Hc.size → (Hc.push (vp_cell (X.2.1 0) ((H.1 (k + 4)).2, .inl (H.2.2.1 (k + 4)))))[q]? = Hc[q]? := fun q hq => by rw [Array.getElem?_push, if_neg (Nat.ne_of_lt hq)]
      have k1 := k0 (Hc.push (vp_cell (X.2.1 0) ((H.1 (k + 4)).2, .inl (H.2.2.1 (k + 4))))) locs lsc (hH.new2 z1 o1 ?_) (vaS_new hS (by omega) o1) hl hn
      · simp only [List.map_cons, cvv, adr_n hH] at k1
        obtain ⟨t, b1, b2⟩ := k1 ((T.setVm vm').pushCell (vp_cell (X.2.1 0) ((H.1 (k + 4)).2, .inl (H.2.2.1 (k + 4))))) (by rw [← hT]; rfl) X'
        refine ⟨t, st9 t ?_, b2⟩
        rw [hT]
        exact b1
      · rw [cellE_i (by simp [up1])]
        show _ = some (vp_cell _ _)
        rw [g1]
        simp [up1]
  · cases h
/-- the memory behind new T[n][k]: the outer row at the next reference, the inner ones behind it -/
def hMu (H : Hp) (kO kI : Nat) (N K : Nat) : Hp := (fun a => if a = H.2.1.1 then (kO, N) else if H.2.1.1 < a ∧ a ≤ H.2.1.1 + N then (kI, K) else H.1 a, (H.2.1.1 + (1 + N), H.2.1.2 + (N + N * K)),
  fun a => if H.2.1.1 ≤ a ∧ a ≤ H.2.1.1 + N then (fun _ => 0) else H.2.2.1 a, fun a => if H.2.1.1 ≤ a ∧ a ≤ H.2.1.1 + N then (fun _ => 0) else H.2.2.2.1 a,
  fun a => if a = H.2.1.1 then (fun j => if j < N then H.2.1.1 + 1 + j else 0) else if H.2.1.1 ≤ a ∧ a ≤ H.2.1.1 + N then (fun _ => 0) else H.2.2.2.2 a)
def wMu (kO kI : Nat) : ALs → List AV → Hp → Option (Option Hp × List AV) := fun _ st H => match st with
  | .inl k :: .inl n :: st => some (bif Nat.ble 4 H.2.1.1 && (decide (0 ≤ n) && (decide (0 ≤ k) && (Nat.ble n.toNatClampNeg 10000 && Nat.ble k.toNatClampNeg 10000))) then some (hMu H kO kI n.toNatClampNeg k.toNatClampNeg) else none, .inr (.inr H.2.1.1) :: st)
  | _ => none
theorem cellE_mu {X : CX} {H : Hp} {kO kI N K q : Nat} (h : q < H.2.1.1) : cellE X (hMu H kO kI N K) q = cellE X H q := by
  have e0 : ¬ q = H.2.1.1 := by omega
  have e1 : ¬ (H.2.1.1 < q ∧ q ≤ H.2.1.1 + N) := by omega
  have e2 : ¬ (H.2.1.1 ≤ q ∧ q ≤ H.2.1.1 + N) := by omega
  have e : fval X (hMu H kO kI N K) q = fval X H q := funext fun f => by simp only [fval, hMu, if_neg e0, if_neg e2]
  unfold cellE
  rw [e]
  simp only [hMu, if_neg e0, if_neg e1, if_neg e2]
theorem mu_outer (c : ClassId) (N h0 : Nat) : ∀ i : Nat, Jvm.Free.Multi.outerC c N h0 i = arrV c N (fun j => va_rf (if j < i then some (h0 + 1 + j) else none))
  | 0 => by
    show ({ cls := c, slots := Array.replicate N .null, vm := .none } : Cell) = _
    rw [arrV_new]
    refine congrArg (arrV c N) (funext fun j => ?_)
    simp [va_rf]
  | i + 1 => by
    show (Jvm.Free.Multi.outerC c N h0 i).setSlot i (.ref (h0 + 1 + i)) = _
    rw [mu_outer c N h0 i, arrV_store]
    refine congrArg (arrV c N) (funext fun j => ?_)
    by_cases e : j = i
    · subst e
      simp [updV, va_rf]
    · by_cases h : j < i
      · simp [updV, e, h, Nat.lt_succ_of_lt h]
      · simp [updV, e, h, show ¬ j < i + 1 by omega]
theorem s_multi {X : CX} {l : Launch} {m pc idx kO kI : Nat} {ty : FieldType} (hd : decode (cod m) pc = .ok (.multianewarray idx 2, 4)) (hk : (kO = 25 ∧ kI = 20 ∧ ty = .int) ∨ (kO = 26 ∧ kI = 21 ∧ ty = .long)) (w1 : Cond.classLink (yn m).cls idx ("[" ++ (FieldType.array ty).toString) ∈ GT) (w2 : Cond.arrayClass ty ∈ GT) : SI X l m pc (iW (pc + 4) (wMu kO kI)) := by
  refine si_iW fun ls st H H1 st' h => ?_
  unfold wMu at h
  split at h
  · rename_i k n st2
    cases hb : (Nat.ble 4 H.2.1.1 && (decide (0 ≤ n) && (decide (0 ≤ k) && (Nat.ble n.toNatClampNeg 10000 && Nat.ble k.toNatClampNeg 10000)))) with
    | false => rw [hb] at h; simp at h
    | true =>
      rw [hb] at h
      cases h
      simp only [Bool.and_eq_true, decide_eq_true_eq] at hb
      obtain ⟨hb1, hb2, hb3, hb4, hb5⟩ := hb
      have h4 := Nat.le_of_ble_eq_true hb1
      have hN := Nat.le_of_ble_eq_true hb4
      have hK := Nat.le_of_ble_eq_true hb5
      have hn0 : ¬ n < 0 := fun q => by rw [Int32.le_iff_toInt_le] at hb2; rw [Int32.lt_iff_toInt_lt] at q; omega
      have hk0 : ¬ k < 0 := fun q => by rw [Int32.le_iff_toInt_le] at hb3; rw [Int32.lt_iff_toInt_lt] at q; omega
      generalize hNe : n.toNatClampNeg = N at hN ⊢
      generalize hKe : k.toNatClampNeg = K at hK ⊢
      refine ⟨⟨Nat.le_add_right _ _, Nat.le_add_right _ _⟩, fun j hj => ⟨?_, ?_⟩, ?_⟩
      · simp only [hMu]
        rw [if_neg (by omega), if_neg (by omega)]
      · simp only [hMu]
        rw [if_neg (by omega)]
      intro p e R s mid args below meth c Hc locs Q lsc cells slots hC hH hR hZ hS hz hl hn hrm k0
      have e1 : (hMu H kO kI N K).2.1.1 - H.2.1.1 = 1 + N := by show H.2.1.1 + (1 + N) - H.2.1.1 = 1 + N; omega
      have e2 : (hMu H kO kI N K).2.1.2 - H.2.1.2 = N + N * K := by show H.2.1.2 + (N + N * K) - H.2.1.2 = N + N * K; omega
      rw [e1, e2] at k0 hrm
      have hKK := hC.2.2.2.2.2.2
      have hAO : va_AOA ty s := by
        rcases hk with ⟨-, -, rfl⟩ | ⟨-, -, rfl⟩
        · exact hKK.2.2.2.2.2.2.1
        · exact hKK.2.2.2.2.2.2.2
      intro T hT Xs
      obtain ⟨vm₁, cA, comp, -, fA, fC, hO, -, X', step⟩ := Xs.multianewarray2F hC.1 hC.2.2.2.1 (hC.2.2.2.2.1 _ w1) (va_AOA.use hAO) (hC.2.2.2.2.1 _ w2) (g := F0 mid pc lsc (.int k :: .int n :: st2.map (cvv X))) rfl (by rw [hC.2.1]; exact hd) rfl hn0 hk0 (by rw [hNe]; omega) (by rw [hKe]; rcases hk with ⟨-, -, rfl⟩ | ⟨-, -, rfl⟩ <;> simp only [componentBytes] <;> omega) (by rw [hKe]; omega) (by rcases hk with ⟨-, -, rfl⟩ | ⟨-, -, rfl⟩ <;> rfl) (by rcases hk with ⟨-, -, rfl⟩ | ⟨-, -, rfl⟩ <;> rfl) (by rw [hNe]; exact hrm.2.2.1) (by rw [hNe, hKe]; exact hrm.2.2.2)
      rw [hNe, hKe] at X' step
      generalize hF : Jvm.Free.Multi.fill (T.setVm vm₁) cA comp N K (defaultValue ty) N = F at X' step
      have hTh : (T.setVm vm₁).heap = Hc := hT
      obtain ⟨f1, f2, -, -⟩ := Jvm.Free.Multi.fill_facts (T.setVm vm₁) cA comp N K (defaultValue ty) N
      rw [hF, hTh] at f1 f2
      have hold : ∀ x : Nat, x < Hc.size → F.heap[x]? = Hc[x]? := fun x hx => by
        have := Jvm.Free.Multi.fill_old (T.setVm vm₁) cA comp N K (defaultValue ty) (a := x) (by rw [hTh]; exact hx) N
        rw [hF, hTh] at this
        exact this
      have hrow : ∀ j : Nat, j < N → F.heap[Hc.size + 1 + j]? = some (Jvm.Free.Multi.innerC comp K (defaultValue ty)) := fun j hj => by
        have := Jvm.Free.Multi.fill_inner (T.setVm vm₁) cA comp N K (defaultValue ty) N j hj
        rw [hF, hTh] at this
        exact this
      have hsz : Hc.size = X.2.2.1 + (H.2.1.1 - 4) := hH.2.1
      have fz : F.heap.size = Hc.size + 1 + N := f1
      have hHOK : HOK X (hMu H kO kI N K) F.heap := by
        refine ⟨by show 4 ≤ H.2.1.1 + (1 + N); omega, by show F.heap.size = X.2.2.1 + (H.2.1.1 + (1 + N) - 4); omega, fun j hj => ?_, fun r hr => ?_⟩
        · have hj : j + 4 < H.2.1.1 + (1 + N) := hj
          rcases (show j + 4 < H.2.1.1 ∨ j + 4 = H.2.1.1 ∨ H.2.1.1 < j + 4 by omega) with g | g | g
          · rw [cellE_mu g]
            exact (hH.2.2.1 j g).kept (hold _ (by show X.2.2.1 + j < Hc.size; omega))
          · have hs : (hMu H kO kI N K).1 (j + 4) = (kO, N) := by simp only [hMu, if_pos g]
            have hkO : 23 ≤ kO ∧ kO ≤ 26 := by rcases hk with ⟨rfl, -, -⟩ | ⟨rfl, -, -⟩ <;> exact ⟨by omega, by omega⟩
            rw [cellE_q (by rw [hs]; exact hkO.1) (by rw [hs]; exact hkO.2), hs]
            have ec : X.2.1 (kO - 20) = cA := by
              rcases hk with ⟨rfl, -, rfl⟩ | ⟨rfl, -, rfl⟩
              · exact Option.some.inj ((hKK.1.2 5 _ rfl).2.symm.trans fA)
              · exact Option.some.inj ((hKK.1.2 6 _ rfl).2.symm.trans fA)
            rw [show X.2.2.1 + j = Hc.size by omega]
            show F.heap[Hc.size]? = some (vp_cell _ _)
            rw [f2, mu_outer, vp_cell_q, ec]
            refine congrArg some (congrArg (arrV _ _) (funext fun i => ?_))
            simp only [hMu, if_pos g]
            by_cases hi : i < N
            · rw [if_pos hi, if_pos hi]
              obtain ⟨d, hd9⟩ : ∃ d, H.2.1.1 + 1 + i = d + 4 := ⟨H.2.1.1 + 1 + i - 4, by omega⟩
              rw [hd9, adr_4]
              congr 2
              omega
            · rw [if_neg hi, if_neg hi]
              rfl
          · have hs : (hMu H kO kI N K).1 (j + 4) = (kI, K) := by
              simp only [hMu]
              rw [if_neg (by omega), if_pos (by omega)]
            have hr9 := hrow (j + 4 - H.2.1.1 - 1) (by omega)
            rw [show Hc.size + 1 + (j + 4 - H.2.1.1 - 1) = X.2.2.1 + j by omega] at hr9
            have hin : Jvm.Free.Multi.innerC comp K (defaultValue ty) = arrV comp K (fun _ => defaultValue ty) := arrV_new comp K (defaultValue ty)
            rw [hin] at hr9
            have hz0 : (H.2.1.1 ≤ j + 4 ∧ j + 4 ≤ H.2.1.1 + N) := by omega
            rcases hk with ⟨rfl, rfl, rfl⟩ | ⟨rfl, rfl, rfl⟩
            · have ec : X.2.1 0 = comp := Option.some.inj ((hKK.1.2 0 _ rfl).2.symm.trans fC)
              rw [cellE_i (by rw [hs]), hs]
              show F.heap[X.2.2.1 + j]? = some (vp_cell _ _)
              rw [hr9, vp_cell_i, ec]
              simp only [hMu, if_pos hz0]
              rfl
            · have ec : X.2.1 1 = comp := Option.some.inj ((hKK.1.2 1 _ rfl).2.symm.trans fC)
              rw [cellE_j (by rw [hs]), hs]
              show F.heap[X.2.2.1 + j]? = some (vp_cell _ _)
              rw [hr9, vp_cell_l, ec]
              simp only [hMu, if_pos hz0]
              rfl
        · show r < H.2.1.1 + (1 + N) ∧ (r < 4 → r ≠ 0 ∧ ((hMu H kO kI N K).1 r).1 = 30)
          by_cases g : r < H.2.1.1
          · have hs : (hMu H kO kI N K).1 r = H.1 r := by
              simp only [hMu]
              rw [if_neg (by omega), if_neg (by omega)]
            rw [hs] at hr ⊢
            exact ⟨by omega, (hH.2.2.2 r hr).2⟩
          · refine ⟨?_, fun q => by omega⟩
            by_cases g2 : r ≤ H.2.1.1 + N
            · omega
            · have hs : (hMu H kO kI N K).1 r = H.1 r := by
                simp only [hMu]
                rw [if_neg (by omega), if_neg (by omega)]
              rw [hs] at hr
              have := (hH.2.2.2 r hr).1
              omega
      have k1 := k0 F.heap locs lsc hHOK (vaS_new hS (by omega) hold) hl hn
      simp only [List.map_cons, cvv, adr_n hH] at k1
      have e3 : cells + (1 + N) = cells + 1 + N := by omega
      have e4 : slots + (N + N * K) = slots + N + N * K := by omega
      obtain ⟨t, a1, b1⟩ := k1 F rfl (by first | exact X' | (rw [e3, e4]; exact X'))
      refine ⟨t, step t ?_, b1⟩
      have e : T.heap.size = Hc.size := by rw [hT]
      rw [e]
      exact a1
  · cases h
