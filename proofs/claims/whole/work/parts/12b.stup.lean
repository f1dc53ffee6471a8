/-! a static method that is named by a subclass -/
theorem stup_wp {Q : Unit → Pre} {E : CtlPost} {e : Env} {d : Bool} {acts : List Action} {s s₀ : State} {f : JFrame} {index ci n c : Nat} {m : MethodId} {dk ck : Class} {cf : ClassFile} {name desc : String} (hs : s.topJava?.isSome) (hp : e.platform.polymorphicOnlyByInvokevirtual = true)
    (hW : s₀.WarmedH s.vm) (hE : s₀.MethodEntryUp e s.vm f.method.cls index c m ci) (h1 : s₀.vm.classes[f.method.cls]? = some dk) (h2 : dk.cf = some cf)
    (h3 : cf.constantPool[index]? = some (.methodref ci n)) (h4 : cf.constantPool.nameAndType? n = some (name, desc))
    (hck : s₀.vm.classes[c]? = some ck) (hnone : (ck.methods.any fun x => x.name == name && !x.isStatic && signaturePolymorphic ck x) = false) :
    wp (invokestatic.sem index) Q E e d acts (s.setTop f) ↔ wp (invokestatic.sem index) Q E e d acts ((s.setVm (s.vm.calledUp f.method.cls ci index c m)).setTop f) := by
  obtain ⟨gC, rC, W1, gM⟩ := hE.classFirst
  obtain ⟨a0, b0, f0⟩ := hW.alike.2.2 _ _ h1
  obtain ⟨a2, b2, f2⟩ := hE.warmed.alike.2.2 _ _ h1
  obtain ⟨u1, v1, w1⟩ := W1.alike.2.2 _ _ hck
  obtain ⟨u2, v2, w2⟩ := hE.warmed.alike.2.2 _ _ hck
  have r0 := memberRef_ask_via (e := e) (via := false) b0 (by rw [f0]; exact h2) h3 h4
  have r2 := memberRef_ask_via (e := e) (via := false) b2 (by rw [f2]; exact h2) h3 h4
  have n1 : (u1.methods.any fun x => x.name == name && !x.isStatic && signaturePolymorphic u1 x) = false := by rw [w1]; exact hnone
  have n2 : (u2.methods.any fun x => x.name == name && !x.isStatic && signaturePolymorphic u2 x) = false := by rw [w2]; exact hnone
  have s1 : (s.setVm (s.vm.noted f.method.cls ci (.cls c))).topJava?.isSome := hs
  have s2 : (s.setVm (s.vm.calledUp f.method.cls ci index c m)).topJava?.isSome := hs
  have L : ∀ {Q' : ClassId → Pre} {d' : Bool} {acts' : List Action}, wp (Jvm.resolveClassAt ci) Q' E e d' acts' (s.setTop f) ↔ Q' c d' acts' ((s.setVm (s.vm.noted f.method.cls ci (.cls c))).setTop f) :=
    W.resolveClassAt_links (t := s.setTop f) (State.method?_setTop f hs) gC
  have M : ∀ {Q' : MethodId → Pre} {d' : Bool} {acts' : List Action}, wp (Jvm.resolveMethodAt index) Q' E e d' acts' ((s.setVm (s.vm.noted f.method.cls ci (.cls c))).setTop f) ↔ Q' m d' acts' ((s.setVm (s.vm.calledUp f.method.cls ci index c m)).setTop f) :=
    W.resolveMethodAt_links (t := (s.setVm (s.vm.noted f.method.cls ci (.cls c))).setTop f) (State.method?_setTop f s1) gM
  simp [invokestatic.sem, hp, Seam.memberRefOf, State.method?_setTop f hs, State.method?_setTop f s2, r0, r2, L, W.resolveClassAt_ready (s := (s.setVm (s.vm.calledUp f.method.cls ci index c m)).setTop f) (State.method?_setTop f s2) hE.classReady,
    v1, v2, n1, n2, M, W.resolveMethodAt_ready (s := (s.setVm (s.vm.calledUp f.method.cls ci index c m)).setTop f) (State.method?_setTop f s2) hE.ready, -Array.any_eq_true]
section SU
variable {p : Program} {l : Launch} {e : Env} {R : Room} {s : State} {m : MethodId} {args : Array Value} {below : List Frame} {meth : Method} {c : Code} {T : State} {locs : List Loc} {cells slots : Nat}
theorem stup (X : Stand p l e R s m args below meth c T locs cells slots) (hexec : p.tables.exec = Jvm.exec) {own owner : String} {index : Nat} {x : MethodName} (hown : s.vm.findClass own = some m.cls) (hlink : (Cond.methodLink own index x).before args s = true)
    (hsame : (Cond.sameMethod x.cls owner x.name x.desc).before args s = true) (howner : owner ≠ "java/lang/invoke/MethodHandle" ∧ owner ≠ "java/lang/invoke/VarHandle")
    {r0 : MethodId} {r : Method} {kr : Class} (hn : s.methodNamed? ⟨owner, x.name, x.desc⟩ = some r0) (hrm : s.vm.method? r0 = some r) (hstatic : r.isStatic = true) (hkr : s.vm.classes[r0.cls]? = some kr) (hinit : kr.init = .initialized)
    {g : JFrame} (hg : g.method = m) {argsL rest : List Value} (hlen : argsL.length = r.sig.parameters.length) (hstack : g.stack = argsL.reverse ++ rest) (hdg : decode c.code g.pc = .ok (.invokestatic index, 3)) :
    ∃ vm', Stand p l e R s m args below meth c (T.setVm vm') locs cells slots ∧
      ∀ target, (∀ acts, Steps p.tables e below (doInvoke e ((T.setVm vm').setTop { g with stack := rest }) acts r0 argsL.toArray).1 target) → Steps p.tables e below (T.setTop g) target := by
  have hpl : e.platform.magicAccessors = ({} : Platform).magicAccessors := by rw [X.admits.platform]
  have hpv : e.platform.polymorphicOnlyByInvokevirtual = true := by rw [X.admits.platform]
  obtain ⟨cn, ck, r1, hcn, hck, hni, hf, hn1⟩ := Cond.sameMethod_found hsame
  cases hn.symm.trans hn1
  obtain ⟨ci, hl, hright⟩ := Cond.methodLink_specUp hown hcn hck hni hf hlink e.platform hpl (by rw [X.admits.platform])
  have hE : s.MethodEntryUp e T.vm m.cls index cn r0 ci := State.methodEntryUp X.warmed hl hright
  obtain ⟨kr9, hkr9, hnr⟩ := className_of_methodNamed hn
  cases hkr.symm.trans hkr9
  obtain ⟨dk, cfile, nt, mname, mdesc, ck9, q7, q8, hd, hcf, hcp, hnt, q13, q14, hck9, q16, hpoly, q18⟩ := hl.here
  cases hck.symm.trans hck9
  have alike := hE.warmed.alike
  obtain ⟨dk2, hdk2, hed⟩ := alike.2.2 _ _ hd
  obtain ⟨kr2, hkr2, her⟩ := alike.2.2 _ _ hkr
  obtain ⟨ck2, hck2, hec⟩ := alike.2.2 _ _ hck
  have hnone : (ck.methods.any fun y => y.name == mname && !y.isStatic && signaturePolymorphic ck y) = false := by simp [hpoly]
  have hnone2 : (ck2.methods.any fun y => y.name == mname && !y.isStatic && signaturePolymorphic ck2 y) = false := by rw [hec]; exact hnone
  refine ⟨T.vm.calledUp m.cls ci index cn r0, X.noted hE.warmed, fun target hrest => ?_⟩
  subst hg
  jvm_step X.here [hexec, hdg, stup_wp (e := e) (s := T) (s₀ := s) (f := g) X.here.top hpv X.warmed hE hd hcf hcp hnt hck hnone,
    invokestatic.wp_ready (e := e) (s := T.setVm (T.vm.calledUp g.method.cls ci index cn r0)) (k := kr2) (meth := r) (m := r0) (args := argsL) (rest := rest) (f := g)
      X.here.top ⟨ci, mname, mdesc, false, cn, ck2, memberRef_ask_via (e := e) (via := false) hdk2 (by rw [hed]; exact hcf) hcp hnt, hE.classReady, hck2, hnone2⟩ hE.ready hkr2
      (by show (T.vm.calledUp g.method.cls ci index cn r0).method? r0 = some r; rw [alike.method?]; exact hrm) (by rw [her]; show signaturePolymorphic kr r = false; simp [signaturePolymorphic, hnr, howner.1, howner.2]) hstatic (by rw [her]; exact hinit) hlen hstack]
  exact fun acts => hrest _
end SU
theorem s_invSU {X : CX} {l : Launch} {m pc idx m2 mx na rk : Nat} {cx : String} (hd : decode (cod m) pc = .ok (.invokestatic idx, 3)) (hmx : mxl m2 = mx) (D : CLD m m2 na rk) (w1 : Cond.methodLink (yn m).cls idx ⟨cx, (yn m2).name, (yn m2).desc⟩ ∈ GT) (w3 : Cond.sameMethod cx (yn m2).cls (yn m2).name (yn m2).desc ∈ GT) (w2 : Cond.static (yn m2) ∈ GT) : SI X l m pc (iC (pc + 3) m2 mx na rk) := by
  intro gc gs hgc hgs ls st H r H' h
  subst hmx
  unfold iC at h
  cases hq : popA na st [] with
  | none => rw [hq] at h; cases h
  | some q =>
    rw [hq] at h
    obtain ⟨as, st2⟩ := q
    cases hb : (Nat.ble (catS st2) 8 && Nat.ble (flA as).length (mxl m2)) with
    | false => simp only [hb] at h; cases h
    | true =>
      simp only [hb, cond_true] at h
      rw [Bool.and_eq_true] at hb
      obtain ⟨pre, e1, e2, e3⟩ := popA_spec _ _ _ _ _ hq
      rw [List.append_nil] at e1
      subst e1
      rw [e2]
      have D0 := D
      obtain ⟨-, hpl, hcd, hrk, hini, hnm⟩ := D0
      refine si_call hgc hgs hrk hpl (Nat.le_of_ble_eq_true hb.2) ?_ h
      intro p e R s mid args below meth c Hc locs lsc cells slots mc ms Qc hC hH hR hZ hS hz hsz hrm hM
      obtain ⟨hx, hbb, hml, hown, hts, hname, hK⟩ := hC
      have hRR := cld_R D hrm
      have hcode := hts _ hcd
      obtain ⟨mk, hnamed⟩ := Cond.code_named hcode
      obtain ⟨methM, cM, hmethM, -, -, -, -, -, -, hsigM⟩ := Cond.code_spec hnamed hcode
      have hstatic : methM.isStatic = true := Cond.static_spec hnamed hmethM (hts _ w2)
      obtain ⟨kP, hkP, -⟩ := className_of_methodNamed hnamed
      have hinitP : kP.init = .initialized := Cond.initialized_spec (findClass_of_methodNamed hnamed) hkP (hts _ hini)
      have hlen : (as.map (cvv X)).length = methM.sig.parameters.length := by
        have h2 := hnm.2.2
        rw [hsigM] at h2
        rw [List.length_map, e3]
        exact (Option.some.inj h2).symm
      have hBk : Back l R p e below s args (yn m2) 3 8 (PreOf R mc ms (PcX X H as)) (PostOf Qc mc ms (AX X)) := back_of (bytes := cod m2) (maxL := mxl m2) (ret := rty m2) hM pcx_blind rfl rfl hRR.1 hRR.2 (pay_in hts (goodGT (wsm_GT hcd))) List.mem_cons_self (fun a' U hW => word_at hW (Or.inl (by first | rfl | simp [Cond.onTables, Cond.keeps, Cond.steady])) (hts _ hini))
      intro T hT XX
      obtain ⟨vm₁, X₁, hstep₁⟩ := stup XX hx hown (hts _ w1) (hts _ w3) ⟨hnm.1, hnm.2.1⟩ hnamed hmethM hstatic hkP hinitP (g := F0 mid pc lsc ((as.reverse ++ st2).map (cvv X))) rfl (argsL := as.map (cvv X)) (rest := st2.map (cvv X)) hlen (stk_eq X as st2) (by rw [hbb]; exact hd)
      obtain ⟨v, ⟨U', l2, c2, s2⟩, X', ⟨g', mk', t, L, q1, q2, q3, q4, q5, q6, q7⟩, hsteps⟩ := hBk mid meth c ⟨T.setVm vm₁, locs, cells, slots⟩ (F0 mid pc lsc (st2.map (cvv X))) (.invokestatic idx) mk (as.map (cvv X)).toArray X₁ rfl (hsz.trans hml.symm) (by rw [hbb]; exact hd) (hW8 hb.1) (X₁.named hnamed) ⟨hrm.2.2.1, hrm.2.2.2, pcx_at hH hR hZ hK hS hz (T.setVm vm₁) hT X₁.warmed⟩
      dsimp only [Pt.U, Pt.locs, Pt.cells, Pt.slots] at X' q1 q2 q4 q6 q7 hsteps
      subst q4; subst q6; subst q7
      exact ⟨v, (T.setVm vm₁).calling g' mk' (as.map (cvv X)).toArray, t, U', L, hT, X', q5, q1, q2, q3, fun target h => hstep₁ _ fun acts => by rw [doInvoke_state]; exact hsteps.trans h⟩
