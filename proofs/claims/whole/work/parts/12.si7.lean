/-! calls: a method's contract out of its run, and the words that call -/
def RTOK (t : Option FieldType) (r : Option AV) : Prop := match t with
  | none => r = none
  | some .int => ∃ v, r = some (.inl v)
  | some .boolean => ∃ v, r = some (.inl v)
  | some .long => ∃ v, r = some (.inr (.inl v))
  | some (.object _) => ∃ v, r = some (.inr (.inr v))
  | _ => False
def rkOK (rk : Nat) (t : Option FieldType) : Prop := match t with
  | none => rk = 0
  | some .int => rk = 1
  | some .boolean => rk = 1
  | some .long => rk = 2
  | some (.object _) => rk = 3
  | _ => False
theorem rt_of {rk : Nat} {t : Option FieldType} (h : rkOK rk t) {n : Nat} {gs : GS} {ls : ALs} {st : List AV} {q : Option AV × Hp} {r : Option AV × Hp} (hq : thn rk n gs ls st q = some r) : RTOK t q.1 ∧ gs n ls (q.1.toList ++ st) q.2 = some r := by
  unfold rkOK at h
  unfold thn at hq
  split at h <;> first | (exact h.elim) | skip
  all_goals
    subst h
    obtain ⟨v, h1, h2⟩ := Option.bind_eq_some_iff.mp hq
    obtain ⟨q1, q2⟩ := q
    rcases q1 with _ | v1 | v1 | v1 <;> first | (cases h1; done) | skip
    all_goals
      cases h1
      exact ⟨by first | rfl | exact ⟨_, rfl⟩, h2⟩
def PcX (X : CX) (H : Hp) (as : List AV) : Array Value → State → Prop := va_Pc (as.map (cvv X)) (fun U => HOK X H U.heap ∧ ROK X H U U.heap ∧ ZOK X U U.heap ∧ KOK X U ∧ X.2.2.1 ≤ U.heap.size)
def QcX (X : CX) (r : Option AV) (H1 : Hp) : Array Value → State → Outcome → State → Prop := fun _ st o t => o = .returned (r.map (cvv X)) ∧ HOK X H1 t.heap ∧ va_F (AX X) st t
theorem ROK.to {X : CX} {H : Hp} {s U : State} {Hs Hc : Heap} (h : ROK X H s Hs) (hvm : s.vm.Alike U.vm) (hq : ∀ a : Nat, a < Hs.size → ¬ AX X a → Hc[a]? = Hs[a]?) : ROK X H U Hc := fun r hr => by
  obtain ⟨t, h1, h2, h3, h4⟩ := h r hr
  exact ⟨t, h1, h2, h3, (h4.kept hq).moved hvm⟩
theorem ZOK.to {X : CX} {s U : State} {Hs Hc : Heap} (h : ZOK X s Hs) (hvm : s.vm.Alike U.vm) (hq : ∀ a : Nat, a < Hs.size → ¬ AX X a → Hc[a]? = Hs[a]?) : ZOK X U Hc := ⟨(h.1.kept hq).moved hvm, (h.2.kept hq).moved hvm⟩
theorem pcx_blind {X : CX} {H : Hp} {as : List AV} : FrameBlind (PcX X H as) := by
  intro a U g mk h
  obtain ⟨h1, h2, h3, h4, h5, h6⟩ := h
  exact ⟨h1, h2, h3.to (U := U.calling g mk a) (Vm.Alike.refl U.vm) (fun _ _ _ => rfl), h4.to (U := U.calling g mk a) (Vm.Alike.refl U.vm) (fun _ _ _ => rfl), KOK.moved (u := U) (U := U.calling g mk a) (State.WarmedH.refl U) h5, h6⟩
theorem pcx_at {X : CX} {H : Hp} {as : List AV} {s : State} {Hc : Heap} {locs : List Loc} (hH : HOK X H Hc) (hR : ROK X H s s.heap) (hZ : ZOK X s s.heap) (hK : KOK X s) (hS : va_S (AX X) s.heap Hc locs) (hz : X.2.2.1 ≤ s.heap.size) (U : State) (hU : U.heap = Hc) (hW : s.WarmedH U.vm) : PcX X H as (as.map (cvv X)).toArray U :=
  ⟨rfl, by rw [hU]; exact hH, by rw [hU]; exact hR.to hW.alike hS.2.1, by rw [hU]; exact hZ.to hW.alike hS.2.1, hK.moved hW, by rw [hU]; exact Nat.le_trans hz hS.1⟩
theorem lg_fl (X : CX) : ∀ as : List AV, (lg_sl (as.map (cvv X))).length = (flA as).length
  | [] => rfl
  | .inl v :: as => by
    have := lg_fl X as
    unfold lg_sl at this ⊢
    rw [List.map_cons, List.flatMap_cons, List.length_append, this]
    simp [cvv, Value.category, flA]
    omega
  | .inr (.inl v) :: as => by
    have := lg_fl X as
    unfold lg_sl at this ⊢
    rw [List.map_cons, List.flatMap_cons, List.length_append, this]
    simp [cvv, Value.category, flA]
    omega
  | .inr (.inr v) :: as => by
    have := lg_fl X as
    have h : (cvv X (.inr (.inr v))).category = 1 := cvv_cat1 (fun _ q => by cases q)
    unfold lg_sl at this ⊢
    rw [List.map_cons, List.flatMap_cons, List.length_append, this, h]
    simp [flA]
    omega
theorem padA_get : ∀ (n : Nat) (l : ALs) (j : Nat) (v : AV), (padA n l)[j]? = some (some v) → l[j]? = some (some v)
  | 0, _, _, _, h => by cases h
  | n + 1, [], 0, _, h => by cases h
  | n + 1, [], j + 1, v, h => by
    have := padA_get n [] j v (by simpa [padA] using h)
    cases this
  | n + 1, a :: l, 0, _, h => h
  | n + 1, a :: l, j + 1, v, h => by
    have := padA_get n l j v (by simpa [padA] using h)
    simpa using this
theorem padA_len : ∀ (n : Nat) (l : ALs), (padA n l).length = n
  | 0, _ => rfl
  | n + 1, [] => by simp [padA, padA_len n]
  | n + 1, a :: l => by simp [padA, padA_len n]
theorem lvl_args (X : CX) : ∀ (as : List AV) (i : Nat) (q : Nat × Value), q ∈ lvl X i (flA as) → q ∈ lv_args i (as.map (cvv X))
  | [], _, _, h => by cases h
  | .inl v :: as, i, q, h => by
    simp only [flA, lvl, List.mem_cons] at h
    rw [List.map_cons]
    unfold lv_args
    rcases h with h | h
    · rw [h]; exact List.mem_cons_self
    · refine List.mem_cons_of_mem _ ?_
      have := lvl_args X as _ _ h
      simpa [cvv, Value.category] using this
  | .inr (.inl v) :: as, i, q, h => by
    simp only [flA, lvl, List.mem_cons] at h
    rw [List.map_cons]
    unfold lv_args
    rcases h with h | h
    · rw [h]; exact List.mem_cons_self
    · refine List.mem_cons_of_mem _ ?_
      have := lvl_args X as _ _ h
      simpa [cvv, Value.category] using this
  | .inr (.inr v) :: as, i, q, h => by
    have hc : (cvv X (.inr (.inr v))).category = 1 := cvv_cat1 (fun _ q => by cases q)
    simp only [flA, lvl, List.mem_cons] at h
    rw [List.map_cons]
    unfold lv_args
    rcases h with h | h
    · rw [h]; exact List.mem_cons_self
    · refine List.mem_cons_of_mem _ ?_
      have := lvl_args X as _ _ h
      rw [hc]
      simpa using this
theorem ent_has {X : CX} {as : List AV} {n : Nat} (h : (flA as).length ≤ n) : lv_has ((lg_sl (as.map (cvv X)) ++ List.replicate (n - (lg_sl (as.map (cvv X))).length) Slot.unset).toArray) n (lvl X 0 (padA n (flA as))) := by
  refine lv_less (lv_entry (as.map (cvv X)) (by rw [lg_fl]; exact h)) fun q hq => ?_
  refine lvl_args X as 0 q ?_
  obtain ⟨j, v, h1, h2⟩ := lvl_mem.mp hq
  exact lvl_mem.mpr ⟨j, v, padA_get _ _ _ _ h1, h2⟩
abbrev wsm (m : Nat) : List Cond := Cond.code (yn m) (cod m) (mxl m) (rty m) :: GT
theorem metOf {X : CX} {l : Launch} {m : Nat} {as : List AV} {H H1 : Hp} {r : Option AV} (w : WS X l m 0 (padA (mxl m) (flA as)) [] H r H1) (g : GR H H1) (hlen : (flA as).length ≤ mxl m) (hy : plainFor (yn m) = true) (hrt : RTOK (rty m) r) :
    Met l (yn m) (wsm m) { frames := frs m, cells := H1.2.1.1 - H.2.1.1, slots := H1.2.1.2 - H.2.1.2, locals := los m } (PcX X H as) (QcX X r H1) (H1.2.1.1 - H.2.1.1) (H1.2.1.2 - H.2.1.2) (AX X) := by
  refine va_MetF (cc := cod m) (maxL := mxl m) (ret := rty m) hy rfl ?_
  intro p e s mid args below meth c s₁ B hml hv
  obtain ⟨rfl, hH, hR, hZ, hK, hz⟩ := hv
  have hts : ∀ w ∈ GT, w.before (as.map (cvv X)).toArray s = true := fun w hw => atoms_spec (ws := wsm m) B.pre w (List.mem_cons_of_mem _ hw)
  have hown : s.vm.findClass (yn m).cls = some mid.cls := findClass_of_methodNamed B.named
  have hlocks := B.notSynchronized
  have hname : meth.name = (yn m).name := (name_of_methodNamed B.named B.method).1
  have hC : CT X m p s mid (as.map (cvv X)).toArray meth c := ⟨B.exec, B.bytes, hml, hown, hts, hname, hK⟩
  rw [lg_entry_eq]
  have k := w p e { frames := frs m, cells := H1.2.1.1 - H.2.1.1, slots := H1.2.1.2 - H.2.1.2, locals := los m } s mid _ below meth c s.heap [] (MQ below (QcX X r H1) (as.map (cvv X)).toArray s (H1.2.1.1 - H.2.1.1) (H1.2.1.2 - H.2.1.2) (AX X)) _ H.2.1.1 H.2.1.2 hC hH hR hZ va_S.rf hz (ent_has hlen) (padA_len _ _) ⟨Nat.le_refl _, Nat.le_refl _, Nat.le_refl _, Nat.le_refl _⟩ (Nat.le_refl _) (Nat.le_refl _) ?_
  · rw [Nat.sub_self, Nat.sub_self] at k
    exact k
  intro pc' lsc' Hc' locs' hd hH' hS' hbool
  have hr := B.returns
  have hpost : ∀ t : State, t.heap = Hc' → s.WarmedH t.vm → QcX X r H1 (as.map (cvv X)).toArray s (.returned (r.map (cvv X))) t := fun t ht _ => ⟨rfl, by rw [ht]; exact hH', hS'.F ht⟩
  unfold rin at hd
  unfold RTOK at hrt
  split at hrt
  · rename_i ht
    rw [ht] at hd hr
    subst hrt
    exact W.vret B.exec B.bytes hr hpost hS'.2.2 hd
  · rename_i ht
    rw [ht] at hd hr
    obtain ⟨v, rfl⟩ := hrt
    exact W.iret B.exec B.bytes hr hpost hS'.2.2 hd
  · rename_i ht
    have hbool := hbool ht
    rw [ht] at hd hr
    obtain ⟨v, rfl⟩ := hrt
    refine W.zret B.exec B.bytes hr ?_ hpost hS'.2.2 hd
    rcases hbool with h | h <;> cases h <;> rfl
  · rename_i ht
    rw [ht] at hd hr
    obtain ⟨v, rfl⟩ := hrt
    exact W.lret B.exec B.bytes hr hpost hS'.2.2 hd
  · rename_i nm ht
    rw [ht] at hd hr
    obtain ⟨v, rfl⟩ := hrt
    refine W.aret B.exec B.bytes hr (Or.inl ⟨_, rfl⟩) ?_ hpost hS'.2.2 hd
    show va_rf (adr X v) = .null ∨ ∃ a, va_rf (adr X v) = .ref a
    cases adr X v
    · exact Or.inl rfl
    · exact Or.inr ⟨_, rfl⟩
  · exact hrt.elim
section CG
variable {p : Program} {l : Launch} {e : Env} {R : Room} {s : State} {mid : MethodId} {args : Array Value} {below : List Frame} {meth : Method} {c : Code} {Hc : Heap} {locs : List Loc} {cells slots : Nat} {Q : State → Prop}
theorem call_go {X : CX} {r : Option AV} {H1 : Hp} {mc ms pc : Nat} {lsc : Array Slot} {stc restc : List Value} {a : Array Value} (hr : va_Run p l e R s mid args below meth c Hc locs cells slots mc ms (F0 mid pc lsc stc) restc (QcX X r H1 a) (AX X)) (hS : va_S (AX X) s.heap Hc locs)
    (kk : ∀ (Hc' : Heap) (locs' : List Loc), HOK X H1 Hc' → va_S (AX X) s.heap Hc' locs' → W p l e R s mid args below meth c Hc' locs' (cells + mc) (slots + ms) Q (F0 mid (pc + 3) lsc ((r.map (cvv X)).toList ++ restc))) : W p l e R s mid args below meth c Hc locs cells slots Q (F0 mid pc lsc stc) := by
  intro T hT XX
  obtain ⟨v, st₀, t, T', L, h0, X', hL, e1, e2, ⟨hv, hH1, hz, hk⟩, st⟩ := hr T hT XX
  cases hv
  rw [h0] at hz hk
  obtain ⟨t2, a1, b1⟩ := kk T'.heap (locs ++ L) (by rw [e1]; exact hH1)
    ⟨Nat.le_trans hS.1 (by rw [e1]; exact hz), fun q h1 h2 => by rw [e1, hk q (Nat.lt_of_lt_of_le h1 hS.1) h2]; exact hS.2.1 q h1 h2, fun q hq => by
      rcases List.mem_append.mp hq with h | h
      · exact hS.2.2 q h
      · exact hL q h⟩ T' rfl X'
  exact ⟨t2, st t2 a1, b1⟩
end CG
theorem popA_spec : ∀ (k : Nat) (st acc as st2 : List AV), popA k st acc = some (as, st2) → ∃ pre, as = pre ++ acc ∧ st = pre.reverse ++ st2 ∧ pre.length = k
  | 0, st, acc, as, st2, h => by cases h; exact ⟨[], rfl, rfl, rfl⟩
  | k + 1, [], _, _, _, h => by cases h
  | k + 1, v :: st, acc, as, st2, h => by
    obtain ⟨pre, h1, h2, h3⟩ := popA_spec k st (v :: acc) as st2 h
    exact ⟨pre ++ [v], by rw [h1]; simp, by rw [h2]; simp, by simp [h3]⟩
theorem goodGT {ws : List Cond} (h : ∀ w ∈ ws, w ∈ GT) : GoodIn GT ws := fun w hw => ⟨h w hw, GT_good (h w hw)⟩
theorem wsm_GT {m : Nat} (h : Cond.code (yn m) (cod m) (mxl m) (rty m) ∈ GT) : ∀ w ∈ wsm m, w ∈ GT := fun w hw => by
  rcases List.mem_cons.mp hw with rfl | hw
  · exact h
  · exact hw
/-- what a call asks of the called: its room, its words -/
def CLD (m m2 na rk : Nat) : Prop := (frs m2 + 1 ≤ frs m ∧ 8 + (mxl m2 + 11) + los m2 ≤ los m) ∧ plainFor (yn m2) = true ∧ Cond.code (yn m2) (cod m2) (mxl m2) (rty m2) ∈ GT ∧ rkOK rk (rty m2) ∧ Cond.initialized (yn m2).cls ∈ GT ∧ ((yn m2).cls ≠ "java/lang/invoke/MethodHandle" ∧ (yn m2).cls ≠ "java/lang/invoke/VarHandle" ∧ (parseMethodDescriptor (yn m2).desc).map (fun d => d.parameters.length) = some na)
/-- a call that runs, for a callee's contract -/
def RUNS (X : CX) (l : Launch) (m pc m2 : Nat) (as st2 : List AV) (H : Hp) : Prop := ∀ (p : Program) (e : Env) (R : Room) (s : State) (mid : MethodId) (args : Array Value) (below : List Frame) (meth : Method) (c : Code) (Hc : Heap) (locs : List Loc) (lsc : Array Slot) (cells slots mc ms : Nat) (Qc : Array Value → State → Outcome → State → Prop),
  CT X m p s mid args meth c → HOK X H Hc → ROK X H s s.heap → ZOK X s s.heap → va_S (AX X) s.heap Hc locs → X.2.2.1 ≤ s.heap.size → lsc.size = mxl m → RM m R (cells + mc) (slots + ms) → Met l (yn m2) (wsm m2) { frames := frs m2, cells := mc, slots := ms, locals := los m2 } (PcX X H as) Qc mc ms (AX X) →
  va_Run p l e R s mid args below meth c Hc locs cells slots mc ms (F0 mid pc lsc ((as.reverse ++ st2).map (cvv X))) (st2.map (cvv X)) (Qc (as.map (cvv X)).toArray) (AX X)
theorem si_call {X : CX} {l : Launch} {m pc m2 rk : Nat} {gc : AG} {gs : GS} (hgc : OKc X l gc) (hgs : OKs X l m gs) {as st2 : List AV} {ls : ALs} {H H' : Hp} {r : Option AV} (hrk : rkOK rk (rty m2)) (hpl : plainFor (yn m2) = true) (hfl : (flA as).length ≤ mxl m2) (hrun : RUNS X l m pc m2 as st2 H)
    (h : ((gc m2 0 (padA (mxl m2) (flA as)) [] H).bind fun u => thn rk (pc + 3) gs ls st2 u) = some (r, H')) : GR H H' ∧ (∀ k, k < 4 → H'.1 k = H.1 k ∧ H'.2.2.1 k = H.2.2.1 k) ∧ WS X l m pc ls (as.reverse ++ st2) H r H' := by
  obtain ⟨u, h1, h2⟩ := Option.bind_eq_some_iff.mp h
  obtain ⟨u1, u2⟩ := u
  obtain ⟨g1, o1, w1⟩ := hgc _ _ _ _ _ _ _ h1
  obtain ⟨hrt, h3⟩ := rt_of hrk h2
  refine stp hgs h3 g1 o1 ?_
  intro p e R s mid args below meth c Hc locs Q lsc cells slots hC hH hR hZ hS hz hl hn hrm k0
  have hM := metOf w1 g1 hfl hpl hrt
  refine call_go (hrun p e R s mid args below meth c Hc locs lsc cells slots _ _ _ hC hH hR hZ hS hz hl.1 hrm hM) hS fun Hc' locs' hH' hS' => ?_
  have k1 := k0 Hc' locs' lsc hH' hS' hl hn
  rw [List.map_append] at k1
  have e9 : (u1.map (cvv X)).toList = u1.toList.map (cvv X) := by cases u1 <;> rfl
  rw [e9]
  exact k1
theorem cld_R {m m2 na rk : Nat} (h : CLD m m2 na rk) {R : Room} {a b : Nat} (hrm : RM m R a b) : frs m2 + 1 ≤ R.frames ∧ 8 + (mxl m2 + 11) + los m2 ≤ R.locals := by
  obtain ⟨⟨h1, h2⟩, -⟩ := h
  obtain ⟨g1, g2, -⟩ := hrm
  exact ⟨by omega, by omega⟩
theorem hW8 {X : CX} {st2 : List AV} (h : Nat.ble (catS st2) 8 = true) {mid : MethodId} {pc : Nat} {lsc : Array Slot} {stc : List Value} : 2 * (F0 mid pc lsc stc).monitorRoom + ((st2.map (cvv X)).map fun v => v.category).sum ≤ 8 := lv_room (by rw [catS_eq]; exact Nat.le_of_ble_eq_true h)
theorem stk_eq (X : CX) (as st2 : List AV) : (as.reverse ++ st2).map (cvv X) = (as.map (cvv X)).reverse ++ st2.map (cvv X) := by rw [List.map_append, List.map_reverse]
/-- a static call -/
theorem s_invS {X : CX} {l : Launch} {m pc idx m2 mx na rk : Nat} (hd : decode (cod m) pc = .ok (.invokestatic idx, 3)) (hmx : mxl m2 = mx) (D : CLD m m2 na rk) (w1 : Cond.methodLink (yn m).cls idx (yn m2) ∈ GT) (w2 : Cond.static (yn m2) ∈ GT) : SI X l m pc (iC (pc + 3) m2 mx na rk) := by
  intro gc gs hgc hgs ls st H r H' h
  subst hmx
  unfold iC at h
  cases hq : popA na st [] with
  | none => rw [hq] at h; cases h
  | some q =>
    rw [hq] at h
    obtain ⟨as, st2⟩ := q
    cases hb : (Nat.ble (catS st2) 8 && Nat.ble (flA as).length (mxl m2)) with
    | false => simp only [hb] at h; cases h
    | true =>
      simp only [hb, cond_true] at h
      rw [Bool.and_eq_true] at hb
      obtain ⟨pre, e1, e2, e3⟩ := popA_spec _ _ _ _ _ hq
      rw [List.append_nil] at e1
      subst e1
      rw [e2]
      have D0 := D
      obtain ⟨-, hpl, hcd, hrk, hini, hnm⟩ := D0
      refine si_call hgc hgs hrk hpl (Nat.le_of_ble_eq_true hb.2) ?_ h
      intro p e R s mid args below meth c Hc locs lsc cells slots mc ms Qc hC hH hR hZ hS hz hsz hrm hM
      obtain ⟨hx, hbb, hml, hown, hts, hname, hK⟩ := hC
      refine va_runS (As := as.map (cvv X)) (Ts := GT) (own := (yn m).cls) ⟨hx, hbb, hml, hown, hts⟩ hM (va_cwS na hts (goodGT ?_) rfl rfl rfl hnm (cld_R D hrm)) ⟨pcx_blind, pcx_at hH hR hZ hK hS hz⟩ rfl (by rw [List.length_map]; exact e3) hsz (stk_eq X as st2) (hW8 hb.1) hd ⟨hrm.2.2.1, hrm.2.2.2⟩
      intro w hw
      simp only [va_wsS, List.cons_append, List.nil_append, List.mem_cons] at hw
      rcases hw with rfl | rfl | rfl | hw
      · exact w1
      · exact w2
      · exact hini
      · exact wsm_GT hcd w (List.mem_cons.mpr hw)
/-- a call on a receiver of a kind -/
def RCV (X : CX) (l : Launch) (m pc kd m2 na rk : Nat) : Prop := rkOK rk (rty m2) ∧ plainFor (yn m2) = true ∧ ∀ (as st2 : List AV) (H : Hp) (r : Nat), (H.1 r).1 = kd → Nat.ble (catS st2) 8 = true → as.length = na → RUNS X l m pc m2 (.inr (.inr r) :: as) st2 H
theorem s_invK {X : CX} {l : Launch} {m pc kd m2 mx na rk : Nat} (hmx : mxl m2 = mx) (D : RCV X l m pc kd m2 na rk) : SI X l m pc (iCK (pc + 3) kd m2 mx (na + 1) rk) := by
  intro gc gs hgc hgs ls st H r H' h
  subst hmx
  unfold iCK at h
  split at h
  · rename_i r0 as st2 hq
    cases hb : ((Nat.ble (catS st2) 8 && Nat.ble (flA (.inr (.inr r0) :: as)).length (mxl m2)) && Nat.beq (H.1 r0).1 kd) with
    | false => rw [hb] at h; cases h
    | true =>
      rw [hb] at h
      simp only [Bool.and_eq_true] at hb
      obtain ⟨pre, e1, e2, e3⟩ := popA_spec _ _ _ _ _ hq
      rw [List.append_nil] at e1
      rw [e2, ← e1]
      exact si_call hgc hgs D.1 D.2.1 (Nat.le_of_ble_eq_true hb.1.2) (D.2.2 as st2 H r0 (beq_eq hb.2) hb.1.1 (by rw [← e1] at e3; simpa using e3)) h
  · cases h
theorem slk_mem : ∀ {tb : List (Nat × Nat × Nat)} {kd : Nat} {w : Nat × Nat}, slk tb kd = some w → (kd, w) ∈ tb
  | [], _, _, h => by cases h
  | q :: tb, kd, w, h => by
    unfold slk at h
    by_cases e : kd = q.1
    · rw [if_pos e] at h
      cases h
      rw [e]
      exact List.mem_cons_self
    · rw [if_neg e] at h
      exact List.mem_cons_of_mem _ (slk_mem h)
theorem s_invV {X : CX} {l : Launch} {m pc na rk : Nat} {tb : List (Nat × Nat × Nat)} (D : ∀ q ∈ tb, mxl q.2.1 = q.2.2 ∧ RCV X l m pc q.1 q.2.1 na rk) : SI X l m pc (iCV (pc + 3) (na + 1) rk tb) := by
  intro gc gs hgc hgs ls st H r H' h
  unfold iCV at h
  split at h
  · rename_i r0 as st2 hq
    cases hb : (Nat.ble (catS st2) 8 && tb.all (fun q => Nat.ble (flA (.inr (.inr r0) :: as)).length q.2.2)) with
    | false => rw [hb] at h; cases h
    | true =>
      rw [hb] at h
      rw [Bool.and_eq_true] at hb
      obtain ⟨w, h1, h2⟩ := Option.bind_eq_some_iff.mp h
      have hm := slk_mem h1
      obtain ⟨d1, d2⟩ := D _ hm
      have d1 : mxl w.1 = w.2 := d1
      have hl := List.all_eq_true.mp hb.2 _ hm
      rw [← d1] at h2 hl
      obtain ⟨pre, e1, e2, e3⟩ := popA_spec _ _ _ _ _ hq
      rw [List.append_nil] at e1
      rw [e2, ← e1]
      exact si_call hgc hgs d2.1 d2.2.1 (Nat.le_of_ble_eq_true hl) (d2.2.2 as st2 H r0 rfl hb.1 (by rw [← e1] at e3; simpa using e3)) h2
  · cases h
theorem stk_r (X : CX) (k : Nat) (as st2 : List AV) : ((Sum.inr (Sum.inr (k + 4)) :: as).reverse ++ st2).map (cvv X) = (as.map (cvv X)).reverse ++ .ref (X.2.2.1 + k) :: st2.map (cvv X) := by
  rw [stk_eq, List.map_cons, List.reverse_cons, List.append_assoc]
  rfl
/-- constructors -/
theorem rcv_init {X : CX} {l : Launch} {m pc idx kd m2 na : Nat} {C : String} (hd : decode (cod m) pc = .ok (.invokespecial idx, 3)) (D : CLD m m2 na 0) (hret : rty m2 = none) (hn : (yn m2).name = "<init>") (hk : KDC kd C) (w1 : Cond.methodLink (yn m).cls idx (yn m2) ∈ GT) (w2 : Cond.instanceMethod (yn m2) ∈ GT) : RCV X l m pc kd m2 na 0 := by
  have D0 := D
  obtain ⟨-, hpl, hcd, hrk, hini, hnm⟩ := D0
  refine ⟨hrk, hpl, fun as st2 H r hkd hb hlen => ?_⟩
  intro p e R s mid args below meth c Hc locs lsc cells slots mc ms Qc hC hH hR hZ hS hz hsz hrm hM
  obtain ⟨hx, hbb, hml, hown, hts, hname, hK⟩ := hC
  subst hkd
  obtain ⟨k, rfl, hcell, cC, hca⟩ := kdc_cell hH hK.1 hk
  have hM' := hM
  rw [stk_r]
  exact va_runI (As := as.map (cvv X)) (Ts := GT) (own := (yn m).cls) (b := X.2.2.1 + k) ⟨hx, hbb, hml, hown, hts⟩ hM' (cwI na hts (goodGT (wsm_GT hcd)) (by unfold wsm; rw [hret]) rfl rfl (hts _ hini) (hts _ w1) (hts _ w2) hn hnm (cld_R D hrm)) ⟨pcx_blind, pcx_at hH hR hZ hK hS hz⟩ rfl (by rw [List.length_map]; exact hlen) hsz rfl (hW8 hb) hd ⟨hrm.2.2.1, hrm.2.2.2⟩
theorem rcv_initN {X : CX} {l : Launch} {m pc idx kd m2 na : Nat} {C host : String} (hd : decode (cod m) pc = .ok (.invokespecial idx, 3)) (D : CLD m m2 na 0) (hret : rty m2 = none) (hn : (yn m2).name = "<init>") (hk : KDC kd C) (w1 : Cond.methodLinkNest (yn m).cls idx (yn m2) host ∈ EXW) (w2 : Cond.instanceMethod (yn m2) ∈ GT) : RCV X l m pc kd m2 na 0 := by
  have D0 := D
  obtain ⟨-, hpl, hcd, hrk, hini, hnm⟩ := D0
  refine ⟨hrk, hpl, fun as st2 H r hkd hb hlen => ?_⟩
  intro p e R s mid args below meth c Hc locs lsc cells slots mc ms Qc hC hH hR hZ hS hz hsz hrm hM
  obtain ⟨hx, hbb, hml, hown, hts, hname, hK⟩ := hC
  subst hkd
  obtain ⟨k, rfl, hcell, cC, hca⟩ := kdc_cell hH hK.1 hk
  rw [stk_r]
  exact va_runIN (As := as.map (cvv X)) (Ts := GT) (own := (yn m).cls) (host := host) (b := X.2.2.1 + k) ⟨hx, hbb, hml, hown, hts⟩ hM ⟨va_cnB na hts (goodGT (wsm_GT hcd)) (by unfold wsm; rw [hret]) rfl rfl (hK.2.1 _ w1) (hts _ hini) hnm (cld_R D hrm), hn, hts _ w2⟩ ⟨pcx_blind, pcx_at hH hR hZ hK hS hz⟩ rfl (by rw [List.length_map]; exact hlen) hsz rfl (hW8 hb) hd ⟨hrm.2.2.1, hrm.2.2.2⟩
/-- the superclass' own method -/
theorem rcv_super {X : CX} {l : Launch} {m pc idx kd m2 na rk : Nat} {C : String} (hd : decode (cod m) pc = .ok (.invokespecial idx, 3)) (D : CLD m m2 na rk) (hn : (yn m2).name ≠ "<init>") (hk : KDC kd C) (w1 : Cond.methodLink (yn m).cls idx (yn m2) ∈ GT) (w2 : Cond.instanceMethod (yn m2) ∈ GT) (w3 : Cond.sameMethod (yn m2).cls (yn m2).cls (yn m2).name (yn m2).desc ∈ GT) (w4 : Cond.superclass (yn m).cls (yn m2).cls ∈ GT) : RCV X l m pc kd m2 na rk := by
  have D0 := D
  obtain ⟨-, hpl, hcd, hrk, hini, hnm⟩ := D0
  refine ⟨hrk, hpl, fun as st2 H r hkd hb hlen => ?_⟩
  intro p e R s mid args below meth c Hc locs lsc cells slots mc ms Qc hC hH hR hZ hS hz hsz hrm hM
  obtain ⟨hx, hbb, hml, hown, hts, hname, hK⟩ := hC
  subst hkd
  obtain ⟨k, rfl, hcell, cC, hca⟩ := kdc_cell hH hK.1 hk
  rw [stk_r]
  refine va_runSU (As := as.map (cvv X)) (Ts := GT) (own := (yn m).cls) (C := C) (b := X.2.2.1 + k) hca ⟨hx, hbb, hml, hown, hts⟩ hM (va_cwSU na hts (goodGT ?_) rfl rfl rfl ⟨hn, hnm.2.2⟩ (cld_R D hrm)) ⟨pcx_blind, hcell, pcx_at hH hR hZ hK hS hz⟩ rfl (by rw [List.length_map]; exact hlen) hsz rfl (hW8 hb) hd ⟨hrm.2.2.1, hrm.2.2.2⟩
  intro w hw
  simp only [va_wsSU, List.cons_append, List.nil_append, List.mem_cons] at hw
  rcases hw with rfl | rfl | rfl | rfl | rfl | hw
  · exact w1
  · exact w3
  · exact w4
  · exact w2
  · exact hini
  · exact wsm_GT hcd w (List.mem_cons.mpr hw)
/-- a method of the receiver's own class -/
theorem rcv_virt {X : CX} {l : Launch} {m pc idx kd m2 na rk : Nat} (hd : decode (cod m) pc = .ok (.invokevirtual idx, 3)) (D : CLD m m2 na rk) (hk : KDC kd (yn m2).cls) (w1 : Cond.methodLink (yn m).cls idx (yn m2) ∈ GT) (w2 : Cond.instanceMethod (yn m2) ∈ GT) (w3 : Cond.selects (yn m2).cls (yn m2) (yn m2) ∈ GT) : RCV X l m pc kd m2 na rk := by
  have D0 := D
  obtain ⟨-, hpl, hcd, hrk, hini, hnm⟩ := D0
  refine ⟨hrk, hpl, fun as st2 H r hkd hb hlen => ?_⟩
  intro p e R s mid args below meth c Hc locs lsc cells slots mc ms Qc hC hH hR hZ hS hz hsz hrm hM
  obtain ⟨hx, hbb, hml, hown, hts, hname, hK⟩ := hC
  subst hkd
  obtain ⟨k, rfl, hcell, cC, hca⟩ := kdc_cell hH hK.1 hk
  rw [stk_r]
  refine va_runV (As := as.map (cvv X)) (Ts := GT) (own := (yn m).cls) (C := (yn m2).cls) (b := X.2.2.1 + k) ⟨hx, hbb, hml, hown, hts⟩ hM (cwV na hts (goodGT ?_) rfl rfl rfl ⟨rfl, hnm⟩ (cld_R D hrm)) ⟨pcx_blind, hcell, pcx_at hH hR hZ hK hS hz⟩ rfl (by rw [List.length_map]; exact hlen) hsz rfl (hW8 hb) hd ⟨hrm.2.2.1, hrm.2.2.2⟩
  intro w hw
  simp only [wsV, List.cons_append, List.nil_append, List.mem_cons] at hw
  rcases hw with rfl | rfl | rfl | rfl | hw
  · exact w1
  · exact w2
  · exact w3
  · exact hini
  · exact wsm_GT hcd w (List.mem_cons.mpr hw)
/-- an inherited method -/
theorem rcv_U {X : CX} {l : Launch} {m pc idx kd m2 na rk : Nat} {C : String} (hd : decode (cod m) pc = .ok (.invokevirtual idx, 3)) (D : CLD m m2 na rk) (hk : KDC kd C) (w1 : Cond.methodLink (yn m).cls idx (yn m2) ∈ GT) (w2 : Cond.instanceMethod (yn m2) ∈ GT) (w3 : Cond.sameMethod (yn m2).cls (yn m2).cls (yn m2).name (yn m2).desc ∈ GT) (w4 : Cond.selects C (yn m2) (yn m2) ∈ GT) : RCV X l m pc kd m2 na rk := by
  have D0 := D
  obtain ⟨-, hpl, hcd, hrk, hini, hnm⟩ := D0
  refine ⟨hrk, hpl, fun as st2 H r hkd hb hlen => ?_⟩
  intro p e R s mid args below meth c Hc locs lsc cells slots mc ms Qc hC hH hR hZ hS hz hsz hrm hM
  obtain ⟨hx, hbb, hml, hown, hts, hname, hK⟩ := hC
  subst hkd
  obtain ⟨k, rfl, hcell, cC, hca⟩ := kdc_cell hH hK.1 hk
  rw [stk_r]
  refine va_runU (x := yn m2) (As := as.map (cvv X)) (Ts := GT) (own := (yn m).cls) (C := C) (owner := (yn m2).cls) (b := X.2.2.1 + k) ⟨hx, hbb, hml, hown, hts⟩ hM (va_cwU na hts (goodGT ?_) rfl rfl rfl rfl hnm (cld_R D hrm)) ⟨pcx_blind, hcell, pcx_at hH hR hZ hK hS hz⟩ rfl (by rw [List.length_map]; exact hlen) hsz rfl (hW8 hb) hd ⟨hrm.2.2.1, hrm.2.2.2⟩
  intro w hw
  simp only [va_wsU, List.cons_append, List.nil_append, List.mem_cons] at hw
  rcases hw with rfl | rfl | rfl | rfl | rfl | hw
  · exact w1
  · exact w3
  · exact w4
  · exact w2
  · exact hini
  · exact wsm_GT hcd w (List.mem_cons.mpr hw)
/-- an overriding method: x is the named one -/
theorem rcv_O {X : CX} {l : Launch} {m pc idx kd m2 mx0 na rk : Nat} {C : String} (hd : decode (cod m) pc = .ok (.invokevirtual idx, 3)) (D : CLD m m2 na rk) (hk : KDC kd C) (hx0 : (yn mx0).name = (yn m2).name ∧ (yn mx0).desc = (yn m2).desc ∧ (yn mx0).cls ≠ "java/lang/invoke/MethodHandle" ∧ (yn mx0).cls ≠ "java/lang/invoke/VarHandle") (w0 : Cond.code (yn mx0) (cod mx0) (mxl mx0) (rty mx0) ∈ GT) (w1 : Cond.methodLink (yn m).cls idx (yn mx0) ∈ GT) (w2 : Cond.instanceMethod (yn m2) ∈ GT) (w3 : Cond.sameMethod (yn mx0).cls (yn mx0).cls (yn mx0).name (yn mx0).desc ∈ GT) (w4 : Cond.selects C (yn mx0) (yn m2) ∈ GT) (w5 : Cond.instanceMethod (yn mx0) ∈ GT) : RCV X l m pc kd m2 na rk := by
  have D0 := D
  obtain ⟨-, hpl, hcd, hrk, hini, hnm⟩ := D0
  refine ⟨hrk, hpl, fun as st2 H r hkd hb hlen => ?_⟩
  intro p e R s mid args below meth c Hc locs lsc cells slots mc ms Qc hC hH hR hZ hS hz hsz hrm hM
  obtain ⟨hx, hbb, hml, hown, hts, hname, hK⟩ := hC
  subst hkd
  obtain ⟨k, rfl, hcell, cC, hca⟩ := kdc_cell hH hK.1 hk
  rw [stk_r]
  refine va_runU (x := yn mx0) (As := as.map (cvv X)) (Ts := GT) (own := (yn m).cls) (C := C) (owner := (yn mx0).cls) (b := X.2.2.1 + k) ⟨hx, hbb, hml, hown, hts⟩ hM (va_cwO na hts (goodGT ?_) rfl rfl rfl (b0 := cod mx0) (m0 := mxl mx0) (r0 := rty mx0) w0 ⟨hx0.2.2.1, hx0.2.2.2, by rw [hx0.2.1]; exact hnm.2.2⟩ (cld_R D hrm)) ⟨pcx_blind, hcell, pcx_at hH hR hZ hK hS hz⟩ rfl (by rw [List.length_map]; exact hlen) hsz rfl (hW8 hb) hd ⟨hrm.2.2.1, hrm.2.2.2⟩
  intro w hw
  simp only [va_wsO, List.cons_append, List.nil_append, List.mem_cons] at hw
  rcases hw with rfl | rfl | rfl | rfl | rfl | rfl | hw
  · exact w1
  · exact w3
  · exact w5
  · exact w4
  · exact w2
  · exact hini
  · exact wsm_GT hcd w (List.mem_cons.mpr hw)
