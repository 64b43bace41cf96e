/-! ===== a static call whose entry names a class that has the method from above ===== -/
section UP
variable {Q : Unit → Pre} {Ec : CtlPost} {e : Env} {d : Bool} {acts : List Action} {s s₀ : State} {f : JFrame}
theorem up_wp {index ci n c : Nat} {m : MethodId} {dk ck : Class} {cf : ClassFile} {name desc : String} (hs : s.topJava?.isSome) (hp : e.platform.polymorphicOnlyByInvokevirtual = true)
    (hW : s₀.WarmedH s.vm) (hE : s₀.MethodEntryUp e s.vm f.method.cls index c m ci) (h1 : s₀.vm.classes[f.method.cls]? = some dk) (h2 : dk.cf = some cf)
    (h3 : cf.constantPool[index]? = some (.methodref ci n)) (h4 : cf.constantPool.nameAndType? n = some (name, desc))
    (hck : s₀.vm.classes[c]? = some ck) (hno : (ck.methods.any fun x => x.name == name && !x.isStatic && signaturePolymorphic ck x) = false) :
    wp (invokestatic.sem index) Q Ec e d acts (s.setTop f) ↔ wp (invokestatic.sem index) Q Ec e d acts ((s.setVm (s.vm.calledUp f.method.cls ci index c m)).setTop f) := by
  have cl := hE.classFirst
  have t1 : (s.setVm (s.vm.noted f.method.cls ci (.cls c))).topJava?.isSome := hs
  have t2 : (s.setVm (s.vm.calledUp f.method.cls ci index c m)).topJava?.isSome := hs
  have q3 : cf.constantPool[index]? = some (if false then .interfaceMethodref ci n else .methodref ci n) := h3
  obtain ⟨k1, a1, b1⟩ := hW.alike.2.2 _ _ h1
  obtain ⟨k2, a2, b2⟩ := hE.warmed.alike.2.2 _ _ h1
  have r1 := memberRef_ask_via (e := e) a1 (by rw [b1]; exact h2) q3 h4
  have r2 := memberRef_ask_via (e := e) a2 (by rw [b2]; exact h2) q3 h4
  obtain ⟨c1, a3, b3⟩ := cl.2.2.1.alike.2.2 _ _ hck
  obtain ⟨c2, a4, b4⟩ := hE.warmed.alike.2.2 _ _ hck
  have n1 : (c1.methods.any fun x => x.name == name && !x.isStatic && signaturePolymorphic c1 x) = false := by rw [b3]; exact hno
  have n2 : (c2.methods.any fun x => x.name == name && !x.isStatic && signaturePolymorphic c2 x) = false := by rw [b4]; exact hno
  have hL : ∀ {Q' : ClassId → Pre} {d' : Bool} {acts' : List Action}, wp (Jvm.resolveClassAt ci) Q' Ec e d' acts' (s.setTop f) ↔ Q' c d' acts' ((s.setVm (s.vm.noted f.method.cls ci (.cls c))).setTop f) :=
    W.resolveClassAt_links (t := s.setTop f) (State.method?_setTop f hs) cl.1
  have hM : ∀ {Q' : MethodId → Pre} {d' : Bool} {acts' : List Action}, wp (Jvm.resolveMethodAt index) Q' Ec e d' acts' ((s.setVm (s.vm.noted f.method.cls ci (.cls c))).setTop f) ↔ Q' m d' acts' ((s.setVm (s.vm.calledUp f.method.cls ci index c m)).setTop f) :=
    W.resolveMethodAt_links (t := (s.setVm (s.vm.noted f.method.cls ci (.cls c))).setTop f) (State.method?_setTop f t1) cl.2.2.2
  simp [invokestatic.sem, hp, Seam.memberRefOf, State.method?_setTop f hs, State.method?_setTop f t2, r1, r2, hL, W.resolveClassAt_ready (s := (s.setVm (s.vm.calledUp f.method.cls ci index c m)).setTop f) (State.method?_setTop f t2) hE.classReady, a3, a4, n1, n2, hM, W.resolveMethodAt_ready (s := (s.setVm (s.vm.calledUp f.method.cls ci index c m)).setTop f) (State.method?_setTop f t2) hE.ready, -Array.any_eq_true]
end UP
section UP2
variable {p : Program} {l : Launch} {e : Env} {R : Room} {s : State} {m : MethodId} {args : Array Value} {below : List Frame} {meth : Method} {c : Code} {T : State} {locs : List Loc} {cells slots : Nat}
theorem up_step (X : Stand p l e R s m args below meth c T locs cells slots) (hexec : p.tables.exec = Jvm.exec)
    {own owner : String} {index : Nat} {x : MethodName} (hown : s.vm.findClass own = some m.cls) (hlink : (Cond.methodLink own index x).before args s = true)
    (hsame : (Cond.sameMethod x.cls owner x.name x.desc).before args s = true) (hno : owner ≠ "java/lang/invoke/MethodHandle" ∧ owner ≠ "java/lang/invoke/VarHandle")
    {m' : MethodId} {meth' : Method} {k' : Class} (hn : s.methodNamed? ⟨owner, x.name, x.desc⟩ = some m') (hm' : s.vm.method? m' = some meth') (hst : meth'.isStatic = true)
    (hk' : s.vm.classes[m'.cls]? = some k') (hinit : k'.init = .initialized)
    {g : JFrame} (hg : g.method = m) {argsL rest : List Value} (hlen : argsL.length = meth'.sig.parameters.length) (hstack : g.stack = argsL.reverse ++ rest)
    (hdg : decode c.code g.pc = .ok (.invokestatic index, 3)) :
    ∃ vm', Stand p l e R s m args below meth c (T.setVm vm') locs cells slots ∧
      ∀ target, (∀ acts, Steps p.tables e below (doInvoke e ((T.setVm vm').setTop { g with stack := rest }) acts m' argsL.toArray).1 target) → Steps p.tables e below (T.setTop g) target := by
  subst hg
  have hpl : e.platform.magicAccessors = ({} : Platform).magicAccessors := by rw [X.admits.platform]
  have hpv : e.platform.polymorphicOnlyByInvokevirtual = true := by rw [X.admits.platform]
  obtain ⟨cn, ck, r1, hcn, hck, hni, hf, hn1⟩ := Cond.sameMethod_found hsame
  cases hn.symm.trans hn1
  obtain ⟨ci, hl, hright⟩ := Cond.methodLink_specUp hown hcn hck hni hf hlink e.platform hpl (by rw [X.admits.platform])
  have hE : s.MethodEntryUp e T.vm g.method.cls index cn m' ci := State.methodEntryUp X.warmed hl hright
  obtain ⟨kx, hkx, hnx⟩ := className_of_methodNamed hn
  cases hk'.symm.trans hkx
  obtain ⟨dk, cfile, nt, mname, mdesc, ck', _, _, hd, hcf, hcp, hnt, -, -, hck', -, hnopoly, -⟩ := hl.here
  cases hck.symm.trans hck'
  have al := hE.warmed.alike
  obtain ⟨d2, hd2, ed2⟩ := al.2.2 _ _ hd
  obtain ⟨k2, hk2, ek2⟩ := al.2.2 _ _ hk'
  obtain ⟨c2, hc2, ec2⟩ := al.2.2 _ _ hck
  have z1 : (ck.methods.any fun y => y.name == mname && !y.isStatic && signaturePolymorphic ck y) = false := by simp [hnopoly]
  have z2 : (c2.methods.any fun y => y.name == mname && !y.isStatic && signaturePolymorphic c2 y) = false := by rw [ec2]; exact z1
  have hcp' : cfile.constantPool[index]? = some (if false then .interfaceMethodref ci nt else .methodref ci nt) := hcp
  have hpoly : signaturePolymorphic k2 meth' = false := by
    rw [ek2]
    show signaturePolymorphic k' meth' = false
    simp [signaturePolymorphic, hnx, hno.1, hno.2]
  refine ⟨T.vm.calledUp g.method.cls ci index cn m', X.noted hE.warmed, fun target hrest => ?_⟩
  jvm_step X.here [hexec, hdg, up_wp (e := e) (s := T) (s₀ := s) (f := g) X.here.top hpv X.warmed hE hd hcf hcp hnt hck z1,
    invokestatic.wp_ready (e := e) (s := T.setVm (T.vm.calledUp g.method.cls ci index cn m')) (k := k2) (meth := meth') (m := m') (args := argsL) (rest := rest) (f := g)
      X.here.top ⟨ci, mname, mdesc, false, cn, c2, memberRef_ask_via (e := e) hd2 (by rw [ed2]; exact hcf) hcp' hnt, hE.classReady, hc2, z2⟩ hE.ready hk2
      (by show (T.vm.calledUp g.method.cls ci index cn m').method? m' = some meth'; rw [al.method?]; exact hm') hpoly hst (by rw [ek2]; exact hinit) hlen hstack]
  exact fun acts => hrest _
end UP2
theorem cokUp {own idx n : Nat} {x : MethodName} {md : MD} (hc : Cond.code md.2.1 md.2.2.1 md.2.2.2.1 md.2.2.2.2 ∈ BW) (hw : [Cond.methodLink (clsN own) idx x, .sameMethod x.cls md.2.1.cls x.name x.desc, .static md.2.1, .initialized md.2.1.cls].all inB = true) (hx : md.2.1 = ⟨md.2.1.cls, x.name, x.desc⟩) (hy : yok md n = true) : COKS own (.invokestatic idx) n md := by
  intro G p l e R s m args below meth c cc nL H locs cells slots mc ms rm Pc Qc free As rest pc ls S K hM hr hp hn hl hW hd hf
  have hts := S.2.2.2.2
  have ok : ∀ w ∈ [Cond.methodLink (clsN own) idx x, .sameMethod x.cls md.2.1.cls x.name x.desc, .static md.2.1, .initialized md.2.1.cls], w.before args s = true := fun w h => hts w (inBs_ok hw w h)
  have hini := ok (.initialized md.2.1.cls) (by simp)
  have hcode : (Cond.code md.2.1 md.2.2.1 md.2.2.2.1 md.2.2.2.2).before args s = true := hts _ hc
  have hy' := yok_of hy
  have hK : Back l R p e below s args md.2.1 3 8 (PreOf R mc ms Pc) (PostOf Qc mc ms free) := back_of (bytes := md.2.2.1) (maxL := md.2.2.2.1) (ret := md.2.2.2.2) hM hp.1 hr.1 hr.2.1 hr.2.2.1 hr.2.2.2 (pay_in hts (wsMD_good hc)) List.mem_cons_self (fun a' U hW => word_at hW (Or.inl (by first | rfl | simp [Cond.onTables, Cond.keeps, Cond.steady])) hini)
  obtain ⟨hex, hb, hml, ho, -⟩ := S
  obtain ⟨mk, hnamed⟩ := Cond.code_named hcode
  obtain ⟨methM, cM, hmethM, -, -, -, -, -, -, hsigM⟩ := Cond.code_spec hnamed hcode
  have hstatic : methM.isStatic = true := Cond.static_spec hnamed hmethM (ok _ (by simp))
  obtain ⟨kP, hkP, -⟩ := className_of_methodNamed hnamed
  have hinitP : kP.init = .initialized := Cond.initialized_spec (findClass_of_methodNamed hnamed) hkP hini
  have hn2 : s.methodNamed? ⟨md.2.1.cls, x.name, x.desc⟩ = some mk := by rw [← hx]; exact hnamed
  intro T hT X
  have hlen : As.length = methM.sig.parameters.length := by
    have h2 := hy'.2.2
    rw [hsigM] at h2
    rw [hn]
    exact (Option.some.inj h2).symm
  obtain ⟨vm₁, X₁, hstep₁⟩ := up_step X hex ho (ok (.methodLink (clsN own) idx x) (by simp)) (ok (.sameMethod x.cls md.2.1.cls x.name x.desc) (by simp)) ⟨hy'.1, hy'.2.1⟩ hn2 hmethM hstatic hkP hinitP (g := F0 m pc ls (As.reverse ++ rest)) rfl (argsL := As) (rest := rest) hlen rfl (by rw [hb]; exact hd)
  obtain ⟨v, B, X', hpost, hsteps⟩ := hK m meth c ⟨T.setVm vm₁, locs, cells, slots⟩ { F0 m pc ls (As.reverse ++ rest) with stack := rest } (.invokestatic idx) mk As.toArray X₁ rfl (hl.trans hml.symm) (by rw [hb]; exact hd) (lv_room0 hW) (X₁.named hnamed) ⟨hf.1, hf.2, hp.2 (T.setVm vm₁) hT X₁.warmed⟩
  obtain ⟨U', l2, c2, s2⟩ := B
  obtain ⟨g', mk', t, L, e1, e2, hq, h1, hL, h2, h3⟩ := hpost
  dsimp only [Pt.U, Pt.locs, Pt.cells, Pt.slots] at X' e1 e2 h1 h2 h3 hsteps
  subst h1; subst h2; subst h3
  exact ⟨v, (T.setVm vm₁).calling g' mk' As.toArray, t, U', L, hT, X', hL, e1, e2, hq, fun target h => hstep₁ _ fun acts => by rw [doInvoke_state]; exact hsteps.trans h⟩
theorem cokSU2 {own idx ci n : Nat} {x : MethodName} {md : MD} (hc : Cond.code md.2.1 md.2.2.1 md.2.2.2.1 md.2.2.2.2 ∈ BW) (hw : [Cond.methodLink (clsN own) idx x, .sameMethod x.cls md.2.1.cls x.name x.desc, .superclass (clsN own) x.cls, .superclass x.cls md.2.1.cls, .instanceMethod md.2.1, .initialized md.2.1.cls].all inB = true) (hx : md.2.1 = ⟨md.2.1.cls, x.name, x.desc⟩) (hy : yok md n = true) (hi : x.name ≠ "<init>") (hci : (vwCl[ci]?).map (fun q => q.1) = some (clsN ci)) : COKV own (.invokespecial idx) ci n md := by
  intro G p l e R s m args below meth c cc nL H locs cells slots mc ms rm Pc Qc free As rest pc ls b S K hM hr hp hn hl hW hd hf
  have hts := S.2.2.2.2
  have ok : ∀ w ∈ [Cond.methodLink (clsN own) idx x, .sameMethod x.cls md.2.1.cls x.name x.desc, .superclass (clsN own) x.cls, .superclass x.cls md.2.1.cls, .instanceMethod md.2.1, .initialized md.2.1.cls], w.before args s = true := fun w h => hts w (inBs_ok hw w h)
  have hini := ok (.initialized md.2.1.cls) (by simp)
  have hcode : (Cond.code md.2.1 md.2.2.1 md.2.2.2.1 md.2.2.2.2).before args s = true := hts _ hc
  have hy' := yok_of hy
  have hK : Back l R p e below s args md.2.1 3 8 (PreOf R mc ms Pc) (PostOf Qc mc ms free) := back_of (bytes := md.2.2.1) (maxL := md.2.2.2.1) (ret := md.2.2.2.2) hM hp.1 hr.1 hr.2.1 hr.2.2.1 hr.2.2.2 (pay_in hts (wsMD_good hc)) List.mem_cons_self (fun a' U hW => word_at hW (Or.inl (by first | rfl | simp [Cond.onTables, Cond.keeps, Cond.steady])) hini)
  obtain ⟨hex, hb, hml, ho, -⟩ := S
  obtain ⟨-, ⟨cellB, hcB, hoB, hclB⟩, hPc⟩ := hp
  cases hq : vwCl[ci]? with
  | none => rw [hq] at hci; cases hci
  | some q =>
    rw [hq] at hci
    have hq1 : q.1 = clsN ci := Option.some.inj hci
    have hat : ClassAt s (clsN ci) ((gD G).1 ci) := hq1 ▸ (K.1.1 ci q hq).2
    obtain ⟨hfc, kB, hkB, -⟩ := hat
    have ecl := Option.some.inj (hfc.symm.trans hclB)
    rw [ecl] at hkB
    obtain ⟨mk, methM, hnamed, hmethM, hstM, habM⟩ := Cond.instanceMethod_spec (ok (.instanceMethod md.2.1) (by simp))
    obtain ⟨methM', cM, hmethM', -, -, -, -, -, -, hsigM⟩ := Cond.code_spec hnamed hcode
    cases hmethM.symm.trans hmethM'
    obtain ⟨ps, dk, kp, hps, hdk, hkp, hsuper, -, -, hnid⟩ := Cond.superclass_spec ho (ok (.superclass (clsN own) x.cls) (by simp))
    obtain ⟨p2, dk2, kp2, hps2, hdk2, hkp2, hsuper2, -, -, -⟩ := Cond.superclass_spec hps (ok (.superclass x.cls md.2.1.cls) (by simp))
    have hn2 : s.methodNamed? ⟨md.2.1.cls, x.name, x.desc⟩ = some mk := by rw [← hx]; exact hnamed
    have hpm : p2 = mk.cls := Option.some.inj (hps2.symm.trans (findClass_of_methodNamed hnamed))
    have hsz : ∃ z, s.vm.classes.size = z + 1 := by
      have h3 := (Array.getElem?_eq_some_iff.mp hdk).1
      exact ⟨s.vm.classes.size - 1, by omega⟩
    have hsub : s.vm.isSubclass ps mk.cls = true := by
      obtain ⟨z, hz⟩ := hsz
      rw [← hpm]
      simp [Vm.isSubclass, hz, Vm.isSubclassAux, hdk2, hsuper2]
    intro T hT X
    have hlen : As.length = methM.sig.parameters.length := by
      have h2 := hy'.2.2
      rw [hsigM] at h2
      rw [hn]
      exact (Option.some.inj h2).symm
    obtain ⟨vm₁, X₁, hstep₁⟩ := X.invokespecialUp hex ho (ok (.methodLink (clsN own) idx x) (by simp)) (ok (.sameMethod x.cls md.2.1.cls x.name x.desc) (by simp)) hn2 hmethM hstM habM hi hdk hnid hps hsuper hsub (a := b) (cell := cellB) (by rw [hT]; exact hcB)
      (fun z h => by rw [h] at hoB; cases hoB) hkB (g := F0 m pc ls (As.reverse ++ .ref b :: rest)) rfl (argsL := As) (rest := rest) hlen rfl (by rw [hb]; exact hd)
    obtain ⟨v, B, X', hpost, hsteps⟩ := hK m meth c ⟨T.setVm vm₁, locs, cells, slots⟩ { F0 m pc ls (As.reverse ++ .ref b :: rest) with stack := rest } (.invokespecial idx) mk (Value.ref b :: As).toArray X₁ rfl (hl.trans hml.symm) (by rw [hb]; exact hd) (lv_room0 hW) (X₁.named hnamed) ⟨hf.1, hf.2, hPc (T.setVm vm₁) hT X₁.warmed⟩
    obtain ⟨U', l2, c2, s2⟩ := B
    obtain ⟨g', mk', t, L, e1, e2, hq', h1, hL, h2, h3⟩ := hpost
    dsimp only [Pt.U, Pt.locs, Pt.cells, Pt.slots] at X' e1 e2 h1 h2 h3 hsteps
    subst h1; subst h2; subst h3
    exact ⟨v, (T.setVm vm₁).calling g' mk' (Value.ref b :: As).toArray, t, U', L, hT, X', hL, e1, e2, hq', fun target h => hstep₁ _ (by rw [doInvoke_state]; exact hsteps.trans h)⟩
theorem s8_9 : COKS 8 (.invokestatic 9) 2 mX6_begin := cokUp (x := ⟨RX8, "begin", "(I[I)V"⟩) kX6_begin (by decide +kernel) rfl (by decide +kernel)
theorem s9_9 : COKS 9 (.invokestatic 9) 2 mX6_begin := cokUp (x := ⟨RX9, "begin", "(I[I)V"⟩) kX6_begin (by decide +kernel) rfl (by decide +kernel)
theorem s4_9 : COKS 4 (.invokestatic 9) 2 mX6_begin := cokUp (x := ⟨RX4, "begin", "(I[I)V"⟩) kX6_begin (by decide +kernel) rfl (by decide +kernel)
theorem s4_19_4 : COKV 4 (.invokespecial 19) 4 2 mX6_tells := cokSU2 (x := ⟨RX8, "tells", "(I[I)I"⟩) kX6_tells (by decide +kernel) rfl (by decide +kernel) (by decide) rfl
