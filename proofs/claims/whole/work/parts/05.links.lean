/-! ===== what a field's, a call's, a class's entry of a pool means, as one fact each ===== -/
def inB (w : Cond) : Bool := decide (w ∈ lw_tbl) && goodWord w
theorem inB_ok {w : Cond} (h : inB w = true) : w ∈ BW := by
  unfold inB at h
  rw [Bool.and_eq_true, decide_eq_true_eq] at h
  exact List.mem_filter.mpr h
theorem inBs_ok {ws : List Cond} (h : ws.all inB = true) : ∀ w ∈ ws, w ∈ BW := fun w hw => inB_ok (List.all_eq_true.mp h w hw)
/-- a field: its place k in the objects of the classes cs -/
def FOK (own idx k : Nat) (ref : String) (cs : List Nat) : Prop := ∀ ci ∈ cs, ∃ (C : String) (T : u_T) (N : Nat), vwCl[ci]? = some (C, T, N) ∧ k < N ∧ Cond.fieldLink (clsN own) idx ref (T k).2.1 (T k).2.2.1 ∈ BW ∧ (ref = (T k).1 ∨ Cond.sameField ref (T k).1 (T k).2.1 (T k).2.2.1 ∈ BW)
def fchk (own idx k : Nat) (ref : String) (ci : Nat) : Bool := match vwCl[ci]? with
  | some (_, T, N) => decide (k < N) && (inB (.fieldLink (clsN own) idx ref (T k).2.1 (T k).2.2.1) && (decide (ref = (T k).1) || inB (.sameField ref (T k).1 (T k).2.1 (T k).2.2.1)))
  | none => false
theorem fok_of {own idx k : Nat} {ref : String} {cs : List Nat} (h : cs.all (fchk own idx k ref) = true) : FOK own idx k ref cs := by
  intro ci hc
  have h1 := List.all_eq_true.mp h ci hc
  unfold fchk at h1
  cases hv : vwCl[ci]? with
  | none => rw [hv] at h1; cases h1
  | some q =>
    obtain ⟨C, T, N⟩ := q
    rw [hv] at h1
    simp only [Bool.and_eq_true, Bool.or_eq_true, decide_eq_true_eq] at h1
    exact ⟨C, T, N, rfl, h1.1, inB_ok h1.2.1, h1.2.2.elim Or.inl fun z => Or.inr (inB_ok z)⟩
abbrev wsMD (md : MD) : List Cond := Cond.code md.2.1 md.2.2.1 md.2.2.2.1 md.2.2.2.2 :: BW
theorem wsMD_good {md : MD} (h : Cond.code md.2.1 md.2.2.1 md.2.2.2.1 md.2.2.2.2 ∈ BW) : GoodIn BW (wsMD md) := goodIn_bw fun w hw => (List.mem_cons.mp hw).elim (fun e => e ▸ h) id
/-- a call on an object of the class ci, with n further arguments, that goes to the method md -/
def COKV (own : Nat) (op : Instr) (ci n : Nat) (md : MD) : Prop :=
  ∀ {G : GP} {p : Program} {l : Launch} {e : Env} {R : Room} {s : State} {m : MethodId} {args : Array Value} {below : List Frame} {meth : Method} {c : Code} {cc : ByteArray} {nL : Nat} {H : Heap} {locs : List Loc} {cells slots mc ms : Nat} {rm : Room} {Pc : Array Value → State → Prop} {Qc : Array Value → State → Outcome → State → Prop} {free : Addr → Prop} {As rest : List Value} {pc : Nat} {ls : Array Slot} {b : Addr},
    CallFix p m c cc nL s args BW (clsN own) → KX G s → Met l md.2.1 (wsMD md) rm Pc Qc mc ms free → (rm.cells = mc ∧ rm.slots = ms ∧ rm.frames + 1 ≤ R.frames ∧ 8 + (md.2.2.2.1 + 11) + rm.locals ≤ R.locals) → PreV s H (clsN ci) b Pc As → As.length = n → ls.size = nL → (rest.map fun v => v.category).sum ≤ 8 → decode cc pc = .ok (op, 3) → (cells + mc ≤ R.cells ∧ slots + ms ≤ R.slots) →
    va_Run p l e R s m args below meth c H locs cells slots mc ms (F0 m pc ls (As.reverse ++ .ref b :: rest)) rest (Qc (Value.ref b :: As).toArray) free
/-- a static call -/
def COKS (own : Nat) (op : Instr) (n : Nat) (md : MD) : Prop :=
  ∀ {G : GP} {p : Program} {l : Launch} {e : Env} {R : Room} {s : State} {m : MethodId} {args : Array Value} {below : List Frame} {meth : Method} {c : Code} {cc : ByteArray} {nL : Nat} {H : Heap} {locs : List Loc} {cells slots mc ms : Nat} {rm : Room} {Pc : Array Value → State → Prop} {Qc : Array Value → State → Outcome → State → Prop} {free : Addr → Prop} {As rest : List Value} {pc : Nat} {ls : Array Slot},
    CallFix p m c cc nL s args BW (clsN own) → KX G s → Met l md.2.1 (wsMD md) rm Pc Qc mc ms free → (rm.cells = mc ∧ rm.slots = ms ∧ rm.frames + 1 ≤ R.frames ∧ 8 + (md.2.2.2.1 + 11) + rm.locals ≤ R.locals) → PreS s H Pc As → As.length = n → ls.size = nL → (rest.map fun v => v.category).sum ≤ 8 → decode cc pc = .ok (op, 3) → (cells + mc ≤ R.cells ∧ slots + ms ≤ R.slots) →
    va_Run p l e R s m args below meth c H locs cells slots mc ms (F0 m pc ls (As.reverse ++ rest)) rest (Qc As.toArray) free
theorem lv_room0 {m : MethodId} {pc : Nat} {ls : Array Slot} {st rest : List Value} (h : (rest.map fun v => v.category).sum ≤ 8) : 2 * (F0 m pc ls st).monitorRoom + (rest.map fun v => v.category).sum ≤ 8 := by
  show 2 * 0 + _ ≤ 8
  omega
def yok (md : MD) (n : Nat) : Bool := decide (md.2.1.cls ≠ "java/lang/invoke/MethodHandle") && (decide (md.2.1.cls ≠ "java/lang/invoke/VarHandle") && decide ((parseMethodDescriptor md.2.1.desc).map (fun d => d.parameters.length) = some n))
theorem goodIn_app {big a b : List Cond} (ha : GoodIn big a) (hb : GoodIn big b) : GoodIn big (a ++ b) := fun w h => (List.mem_append.mp h).elim (ha w) (hb w)
theorem yok_of {md : MD} {n : Nat} (h : yok md n = true) : md.2.1.cls ≠ "java/lang/invoke/MethodHandle" ∧ md.2.1.cls ≠ "java/lang/invoke/VarHandle" ∧ (parseMethodDescriptor md.2.1.desc).map (fun d => d.parameters.length) = some n := by
  simp only [yok, Bool.and_eq_true, decide_eq_true_eq] at h
  exact h
theorem cokV {own idx ci n : Nat} {md : MD} (hc : Cond.code md.2.1 md.2.2.1 md.2.2.2.1 md.2.2.2.2 ∈ BW) (hw : [Cond.methodLink (clsN own) idx md.2.1, .instanceMethod md.2.1, .selects (clsN ci) md.2.1 md.2.1, .initialized md.2.1.cls].all inB = true) (hy : yok md n = true) (hC : md.2.1.cls = clsN ci) : COKV own (.invokevirtual idx) ci n md := by
  intro G p l e R s m args below meth c cc nL H locs cells slots mc ms rm Pc Qc free As rest pc ls b S K hM hr hp hn hl hW hd hf
  have hts := S.2.2.2.2
  have ok : ∀ w ∈ [Cond.methodLink (clsN own) idx md.2.1, .instanceMethod md.2.1, .selects (clsN ci) md.2.1 md.2.1, .initialized md.2.1.cls], w.before args s = true := fun w h => hts w (inBs_ok hw w h)
  exact va_runV S hM ⟨callB_of n hts (wsMD_good hc) rfl hr.1 hr.2.1 (ok _ (by simp)) (ok _ (by simp)) (yok_of hy) hr.2.2, ok _ (by simp), ok _ (by simp)⟩ hp rfl hn hl rfl (lv_room0 hW) hd hf
theorem cokI {own idx ci n : Nat} {md : MD} (hc : Cond.code md.2.1 md.2.2.1 md.2.2.2.1 none ∈ BW) (hret : md.2.2.2.2 = none) (hw : [Cond.methodLink (clsN own) idx md.2.1, .instanceMethod md.2.1, .initialized md.2.1.cls].all inB = true) (hy : yok md n = true) (hi : md.2.1.name = "<init>") : COKV own (.invokespecial idx) ci n md := by
  intro G p l e R s m args below meth c cc nL H locs cells slots mc ms rm Pc Qc free As rest pc ls b S K hM hr hp hn hl hW hd hf
  have hts := S.2.2.2.2
  have ok : ∀ w ∈ [Cond.methodLink (clsN own) idx md.2.1, .instanceMethod md.2.1, .initialized md.2.1.cls], w.before args s = true := fun w h => hts w (inBs_ok hw w h)
  have hM' : Met l md.2.1 (Cond.code md.2.1 md.2.2.1 md.2.2.2.1 none :: BW) rm Pc Qc mc ms free := by rw [← hret]; exact hM
  exact va_runI S hM' ⟨callB_of n hts (goodIn_bw fun w hw => (List.mem_cons.mp hw).elim (fun e => e ▸ hc) id) rfl hr.1 hr.2.1 (ok _ (by simp)) (ok _ (by simp)) (yok_of hy) hr.2.2, hi, ok _ (by simp)⟩ ⟨hp.1, hp.2.2⟩ rfl hn hl rfl (lv_room0 hW) hd hf
theorem cokIN {own idx ci n : Nat} {md : MD} (hc : Cond.code md.2.1 md.2.2.1 md.2.2.2.1 none ∈ BW) (hret : md.2.2.2.2 = none) (hw : [Cond.instanceMethod md.2.1, .initialized md.2.1.cls].all inB = true) (hn0 : Cond.methodLinkNest (clsN own) idx md.2.1 RX11 ∈ nestW) (hy : yok md n = true) (hi : md.2.1.name = "<init>") : COKV own (.invokespecial idx) ci n md := by
  intro G p l e R s m args below meth c cc nL H locs cells slots mc ms rm Pc Qc free As rest pc ls b S K hM hr hp hn hl hW hd hf
  have hts := S.2.2.2.2
  have ok : ∀ w ∈ [Cond.instanceMethod md.2.1, .initialized md.2.1.cls], w.before args s = true := fun w h => hts w (inBs_ok hw w h)
  have hM' : Met l md.2.1 (Cond.code md.2.1 md.2.2.1 md.2.2.2.1 none :: BW) rm Pc Qc mc ms free := by rw [← hret]; exact hM
  exact va_runIN S hM' ⟨va_cnB n hts (goodIn_bw fun w hw => (List.mem_cons.mp hw).elim (fun e => e ▸ hc) id) rfl hr.1 hr.2.1 (K.2.1 _ hn0) (ok _ (by simp)) (yok_of hy) hr.2.2, hi, ok _ (by simp)⟩ ⟨hp.1, hp.2.2⟩ rfl hn hl rfl (lv_room0 hW) hd hf
theorem cokS {own idx n : Nat} {md : MD} (hc : Cond.code md.2.1 md.2.2.1 md.2.2.2.1 md.2.2.2.2 ∈ BW) (hw : [Cond.methodLink (clsN own) idx md.2.1, .static md.2.1, .initialized md.2.1.cls].all inB = true) (hy : yok md n = true) : COKS own (.invokestatic idx) n md := by
  intro G p l e R s m args below meth c cc nL H locs cells slots mc ms rm Pc Qc free As rest pc ls S K hM hr hp hn hl hW hd hf
  have hts := S.2.2.2.2
  have ok : ∀ w ∈ [Cond.methodLink (clsN own) idx md.2.1, .static md.2.1, .initialized md.2.1.cls], w.before args s = true := fun w h => hts w (inBs_ok hw w h)
  exact va_runS S hM ⟨callB_of n hts (wsMD_good hc) rfl hr.1 hr.2.1 (ok _ (by simp)) (ok _ (by simp)) (yok_of hy) hr.2.2, ok _ (by simp)⟩ hp rfl hn hl rfl (lv_room0 hW) hd hf
theorem cokSU {own idx ci n : Nat} {md : MD} (hc : Cond.code md.2.1 md.2.2.1 md.2.2.2.1 md.2.2.2.2 ∈ BW) (hw : [Cond.methodLink (clsN own) idx md.2.1, .sameMethod md.2.1.cls md.2.1.cls md.2.1.name md.2.1.desc, .superclass (clsN own) md.2.1.cls, .instanceMethod md.2.1, .initialized md.2.1.cls].all inB = true) (hy : yok md n = true) (hi : md.2.1.name ≠ "<init>") (hci : (vwCl[ci]?).map (fun q => q.1) = some (clsN ci)) : COKV own (.invokespecial idx) ci n md := by
  intro G p l e R s m args below meth c cc nL H locs cells slots mc ms rm Pc Qc free As rest pc ls b S K hM hr hp hn hl hW hd hf
  have hts := S.2.2.2.2
  have ok : ∀ w ∈ [Cond.methodLink (clsN own) idx md.2.1, .sameMethod md.2.1.cls md.2.1.cls md.2.1.name md.2.1.desc, .superclass (clsN own) md.2.1.cls, .instanceMethod md.2.1, .initialized md.2.1.cls], w.before args s = true := fun w h => hts w (inBs_ok hw w h)
  cases hq : vwCl[ci]? with
  | none => rw [hq] at hci; cases hci
  | some q =>
    rw [hq] at hci
    have hq1 : q.1 = clsN ci := Option.some.inj hci
    have hat : ClassAt s (clsN ci) ((gD G).1 ci) := hq1 ▸ (K.1.1 ci q hq).2
    have hlen : ∀ sig, parseMethodDescriptor md.2.1.desc = some sig → n = sig.parameters.length := fun sig h => by
      have h2 := (yok_of hy).2.2
      rw [h] at h2
      exact (Option.some.inj h2).symm
    exact va_runSU hat S hM ⟨⟨hr.1, hr.2.1, hr.2.2.1, hr.2.2.2, pay_in hts (wsMD_good hc), List.mem_cons_self⟩, ok _ (by simp), ok _ (by simp), ok _ (by simp), ok _ (by simp), ok _ (by simp), hts _ hc, hi, hlen⟩ hp rfl hn hl rfl (lv_room0 hW) hd hf
theorem cokU {own idx ci n : Nat} {x : MethodName} {md : MD} (hc : Cond.code md.2.1 md.2.2.1 md.2.2.2.1 md.2.2.2.2 ∈ BW) (hw : (va_wsU (clsN own) idx (clsN ci) md.2.1.cls x md.2.1 []).all inB = true) (hy : yok md n = true) (hx : md.2.1 = ⟨md.2.1.cls, x.name, x.desc⟩) : COKV own (.invokevirtual idx) ci n md := by
  intro G p l e R s m args below meth c cc nL H locs cells slots mc ms rm Pc Qc free As rest pc ls b S K hM hr hp hn hl hW hd hf
  have hts := S.2.2.2.2
  have hG : GoodIn BW (va_wsU (clsN own) idx (clsN ci) md.2.1.cls x md.2.1 (wsMD md)) := goodIn_app (goodIn_bw (inBs_ok (by simpa [va_wsU] using hw))) (wsMD_good hc)
  have hy' := yok_of hy
  have hdesc : md.2.1.desc = x.desc := by
    have h3 := congrArg MethodName.desc hx
    exact h3
  exact va_runU S hM (va_cwU n hts hG rfl hr.1 hr.2.1 hx ⟨hy'.1, hy'.2.1, by rw [← hdesc]; exact hy'.2.2⟩ hr.2.2) hp rfl hn hl rfl (lv_room0 hW) hd hf
theorem cokO {own idx ci n : Nat} {owner : String} {x : MethodName} {md : MD} (hc : Cond.code md.2.1 md.2.2.1 md.2.2.2.1 md.2.2.2.2 ∈ BW) {b0 : ByteArray} {m0 : Nat} {r0 : Option FieldType} (h0 : Cond.code ⟨owner, x.name, x.desc⟩ b0 m0 r0 ∈ BW) (hw : (va_wsO (clsN own) idx (clsN ci) owner x md.2.1 []).all inB = true) (ho : owner ≠ "java/lang/invoke/MethodHandle" ∧ owner ≠ "java/lang/invoke/VarHandle" ∧ (parseMethodDescriptor x.desc).map (fun d => d.parameters.length) = some n) : COKV own (.invokevirtual idx) ci n md := by
  intro G p l e R s m args below meth c cc nL H locs cells slots mc ms rm Pc Qc free As rest pc ls b S K hM hr hp hn hl hW hd hf
  have hts := S.2.2.2.2
  have hG : GoodIn BW (va_wsO (clsN own) idx (clsN ci) owner x md.2.1 (wsMD md)) := goodIn_app (goodIn_bw (inBs_ok (by simpa [va_wsO] using hw))) (wsMD_good hc)
  exact va_runU S hM (va_cwO n hts hG rfl hr.1 hr.2.1 h0 ho hr.2.2) hp rfl hn hl rfl (lv_room0 hW) hd hf
