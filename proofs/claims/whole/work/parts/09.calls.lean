/-! ===== rules that make cells, call and return ===== -/
/-- a new cell at the end -/
theorem E_grow {G : GP} {md : MD} {f : Nat × Nat} {pc pc2 : Nat} {L st st2 : List Value} {M : SMem} {P : Option Value → SMem → Prop} {c0 : SC}
    (h : ∀ {p : Program} {e : Env} {R : Room} {s : State} {m : MethodId} {args : Array Value} {below : List Frame} {meth : Method} {c : Code} {H : Heap} {locs : List Loc} {cells slots : Nat} {Q : State → Prop} {ls : Array Slot}, Cx G md f p R s m args meth c → va_P (gD G) vwCl (wsM G M) H → va_S (fun q => gB G ≤ q) s.heap H locs → H.size = gB G + M.length → cells + 1 ≤ R.cells → slots + slC c0 ≤ R.slots →
      (∀ H1 : Heap, H1[H.size]? = (match ccE G c0 with | .inl a => some (vp_cell a.1 a.2) | .inr _ => H1[H.size]?) → va_at (gD G) vwCl (H.size, ccE G c0) H1 → H1.size = H.size + 1 → (∀ q, q < H.size → H1[q]? = H[q]?) → W p (gL G) e R s m args below meth c H1 locs (cells + 1) (slots + slC c0) Q (F0 m pc2 ls (st2.map (cv G)))) →
      W p (gL G) e R s m args below meth c H locs cells slots Q (F0 m pc ls (st.map (cv G))))
    (k : E G md f pc2 L st2 (M ++ [c0]) P) : E G md f pc L st M P := by
  obtain ⟨rv, M', hP, h1, h2, hk⟩ := k
  have h1' : M.length + 1 ≤ M'.length := by simpa using h1
  have h2' : slM M + slC c0 ≤ slM M' := by rw [slM_app] at h2; exact h2
  refine ⟨rv, M', hP, by omega, by omega, ?_⟩
  intro p e R s m args below meth c H locs cells slots Q ls C hH hL hc hs kk
  refine W_size fun hu => ?_
  have hz := HR_size C.2.2.2.2.2.2.2.2.2.1 hH hu
  refine h C hH.2.1 hH.2.2 hz (by omega) (by omega) (fun H1 _ hat hsz hold => ?_)
  have e1 : cells + 1 + (M'.length - (M ++ [c0]).length) = cells + (M'.length - M.length) := by simp; omega
  have e2 : slots + slC c0 + (slM M' - slM (M ++ [c0])) = slots + (slM M' - slM M) := by rw [slM_app]; omega
  have hH1 : HR G (M ++ [c0]) s H1 locs (cells + 1) := by
    refine ⟨by have := hH.1; simp; omega, ?_, ?_⟩
    · rw [wsM_app]
      refine va_P.app (hH.2.1.kept fun k q hq => hold q.1 (hH.2.1 k q hq).lt) (fun k q hq => ?_)
      have hz0 : k < 1 := (List.getElem?_eq_some_iff.mp hq).1
      rw [show k = 0 by omega] at hq
      cases hq
      rw [← hz]
      exact hat
    · exact ⟨Nat.le_trans hH.2.2.1 (by omega), fun q h3 h4 => (hold q (Nat.lt_of_lt_of_le h3 hH.2.2.1)).trans (hH.2.2.2.1 q h3 h4), hH.2.2.2.2⟩
  exact hk C hH1 hL (by rw [e1]; exact hc) (by rw [e2]; exact hs) (by rw [e1, e2]; exact kk)
theorem E_newarrI {G : GP} {md : MD} {f : Nat × Nat} {pc : Nat} {L st : List Value} {M : SMem} {P : Option Value → SMem → Prop} {n : Int32} {N : Nat} (hN : n = nI N) (hb : N < 2 ^ 20) (hd : decode md.2.2.1 pc = .ok (.newarray .int, 2)) (k : E G md f (pc + 2) L (.ref M.length :: st) (M ++ [.inl (0, N, .inl (fun _ => 0))]) P) : E G md f pc L (.int n :: st) M P := by
  refine E_grow (c0 := .inl (0, N, .inl (fun _ => 0))) (fun {p e R s m args below meth c H locs cells slots Q ls} C hP hS hz hc hs kk => ?_) k
  have hw : (Cond.arrayClass (newarray.typeOf .int)).before args s = true := C.2.2.2.2.2.1 (.arrayClass .int) (inB_ok (by decide +kernel))
  have hn : n.toNatClampNeg = N := by rw [hN]; exact nI_clamp (by omega)
  refine va_newaK C.1 C.2.1 hw rfl hd rfl (by rw [hN]; exact nI_pos (by omega)) hn (by show N * 4 ≤ _; omega) hc hs rfl (fun H1 cA h1 h2 h3 h4 h5 => ?_)
  have hcA : cA = gA G 0 := by
    have := (C.2.2.2.2.2.2.1.1.2 0 _ (gT_at G (t := 0) (by decide))).2
    exact Option.some.inj (h5.symm.trans this)
  subst hcA
  have hat : va_at (gD G) vwCl (H.size, ccE G (.inl (0, N, .inl (fun _ => 0)))) H1 := by
    show H1[H.size]? = some (vp_cell _ _)
    rw [h1]
    rfl
  have := kk H1 (by rw [h1]; rfl) hat h2 h3
  have ez : (List.map (cv G) (Value.ref M.length :: st)) = Value.ref H.size :: st.map (cv G) := by rw [hz]; rfl
  rw [ez] at this
  exact this
theorem E_newarrL {G : GP} {md : MD} {f : Nat × Nat} {pc : Nat} {L st : List Value} {M : SMem} {P : Option Value → SMem → Prop} {n : Int32} {N : Nat} (hN : n = nI N) (hb : N < 2 ^ 20) (hd : decode md.2.2.1 pc = .ok (.newarray .long, 2)) (k : E G md f (pc + 2) L (.ref M.length :: st) (M ++ [.inl (1, N, .inr (.inl (fun _ => 0)))]) P) : E G md f pc L (.int n :: st) M P := by
  refine E_grow (c0 := .inl (1, N, .inr (.inl (fun _ => 0)))) (fun {p e R s m args below meth c H locs cells slots Q ls} C hP hS hz hc hs kk => ?_) k
  have hw : (Cond.arrayClass (newarray.typeOf .long)).before args s = true := C.2.2.2.2.2.1 (.arrayClass .long) (inB_ok (by decide +kernel))
  have hn : n.toNatClampNeg = N := by rw [hN]; exact nI_clamp (by omega)
  refine va_newaK C.1 C.2.1 hw rfl hd rfl (by rw [hN]; exact nI_pos (by omega)) hn (by show N * 8 ≤ _; omega) hc hs rfl (fun H1 cA h1 h2 h3 h4 h5 => ?_)
  have hcA : cA = gA G 1 := by
    have := (C.2.2.2.2.2.2.1.1.2 1 _ (gT_at G (t := 1) (by decide))).2
    exact Option.some.inj (h5.symm.trans this)
  subst hcA
  have hat : va_at (gD G) vwCl (H.size, ccE G (.inl (1, N, .inr (.inl (fun _ => 0))))) H1 := by
    show H1[H.size]? = some (vp_cell _ _)
    rw [h1]
    rfl
  have := kk H1 (by rw [h1]; rfl) hat h2 h3
  have ez : (List.map (cv G) (Value.ref M.length :: st)) = Value.ref H.size :: st.map (cv G) := by rw [hz]; rfl
  rw [ez] at this
  exact this
theorem E_newarrA {G : GP} {md : MD} {f : Nat × Nat} {pc : Nat} {L st : List Value} {M : SMem} {P : Option Value → SMem → Prop} {idx t : Nat} {Cn : String} {n : Int32} {N : Nat} (hl : Cond.classLink (clsN md.1) idx Cn ∈ BW) (ht : t < 6) (hC : aty t = .object Cn) (ha : Cn ∈ aoW) (hN : n = nI N) (hb : N < 2 ^ 20) (hd : decode md.2.2.1 pc = .ok (.anewarray idx, 3)) (k : E G md f (pc + 3) L (.ref M.length :: st) (M ++ [.inl (t, N, .inr (.inr (.inr (.inr (fun _ => none)))))]) P) : E G md f pc L (.int n :: st) M P := by
  refine E_grow (c0 := .inl (t, N, .inr (.inr (.inr (.inr (fun _ => none)))))) (fun {p e R s m args below meth c H locs cells slots Q ls} C hP hS hz hc hs kk => ?_) k
  have hn : n.toNatClampNeg = N := by rw [hN]; exact nI_clamp (by omega)
  have hs' : slots + n.toNatClampNeg ≤ R.slots := by rw [hn]; exact hs
  refine W.anew C.1 C.2.1 C.2.2.2.2.1 (C.2.2.2.2.2.1 _ hl) (va_AO.use (C.2.2.2.2.2.2.1.2.2.2.2 Cn ha)) rfl hd rfl (by rw [hN]; exact nI_pos (by omega)) (by rw [hn]; omega) hc hs' (fun cA kA comp f1 f2 f3 f4 => ?_)
  rw [hn]
  generalize hH1 : Array.push H ({ cls := cA, slots := Array.replicate N .null, vm := .none } : Cell) = H1
  have z1 : H1.size = H.size + 1 := by rw [← hH1, Array.size_push]
  have e1 : H1[H.size]? = some (arrV cA N (fun _ => .null)) := by rw [← hH1, Array.getElem?_push_size, ← arrV_new]
  have o1 : ∀ q : Nat, q < H.size → H1[q]? = H[q]? := fun q hq => by rw [← hH1, Array.getElem?_push, if_neg (Nat.ne_of_lt hq)]
  have hcA : cA = gA G t := by
    have h6 := (C.2.2.2.2.2.2.1.1.2 t _ (gT_at G ht)).2
    rw [hC] at h6
    obtain ⟨_, _, _, _, _, h7⟩ := h6
    exact Option.some.inj (f1.symm.trans h7)
  subst hcA
  have hat : va_at (gD G) vwCl (H.size, ccE G (.inl (t, N, .inr (.inr (.inr (.inr (fun _ => none))))))) H1 := by
    show H1[H.size]? = some (vp_cell _ _)
    rw [e1]
    rfl
  have := kk H1 (by rw [e1]; rfl) hat z1 o1
  have ez : (List.map (cv G) (Value.ref M.length :: st)) = Value.ref H.size :: st.map (cv G) := by rw [hz]; rfl
  rw [ez] at this
  exact this
def dflV (ci N : Nat) : List Value := (List.range N).map fun j => defaultValue (clT ci j)
theorem cv_dfl (G : GP) (t : FieldType) : cv G (defaultValue t) = defaultValue t := by cases t <;> rfl
theorem E_new {G : GP} {md : MD} {f : Nat × Nat} {pc : Nat} {L st : List Value} {M : SMem} {P : Option Value → SMem → Prop} {idx ci : Nat} {Cn : String} {T : u_T} {N : Nat} {fs : List Value} (hl : Cond.classLink (clsN md.1) idx Cn ∈ BW) (hci : vwCl[ci]? = some (Cn, T, N)) (hw : [Cond.instantiable Cn N, .initialized Cn].all inB = true) (hfs : dflV ci N = fs) (hd : decode md.2.2.1 pc = .ok (.new idx, 3)) (k : E G md f (pc + 3) L (.ref M.length :: st) (M ++ [.inr (ci, fs)]) P) : E G md f pc L st M P := by
  refine E_grow (c0 := .inr (ci, fs)) (fun {p e R s m args below meth c H locs cells slots Q ls} C hP hS hz hc hs kk => ?_) k
  have hk := clok hci
  have ok : ∀ w ∈ [Cond.instantiable Cn N, .initialized Cn], w ∈ BW := inBs_ok hw
  have hKn := C.2.2.2.2.2.2.1.1.1 ci _ hci
  have hs' : slots + N ≤ R.slots := by simpa [slC, hci] using hs
  refine W.newcK C.1 C.2.1 C.2.2.2.2.1 (C.2.2.2.2.2.1 _ hl) (C.2.2.2.2.2.1 _ (ok _ (by simp))) (C.2.2.2.2.2.1 _ (ok _ (by simp))) rfl hd hc hs' hKn.2.1 rfl fun H1 kC hkC e1 z1 o1 => ?_
  have hat : va_at (gD G) vwCl (H.size, ccE G (.inr (ci, fs))) H1 := by
    refine ⟨_, hci, (u_born (clT ci) C.2.2.2.2.2.1 hk.2.1 hKn hkC e1 hk.2.2.1).to (fun j hj => ?_)⟩
    rw [← hfs]
    simp [vp_V, dflV, hj, cv_dfl, List.getD_eq_getElem?_getD]
  have := kk H1 rfl hat z1 o1
  have e5 : slC (.inr (ci, fs)) = N := by simp [slC, hci]
  rw [e5] at this
  have ez : (List.map (cv G) (Value.ref M.length :: st)) = Value.ref H.size :: st.map (cv G) := by rw [hz]; rfl
  rw [ez] at this
  exact this
theorem E_objInit {G : GP} {md : MD} {f : Nat × Nat} {pc : Nat} {L st : List Value} {M : SMem} {P : Option Value → SMem → Prop} {idx a : Nat} (hw : [Cond.methodLink (clsN md.1) idx Lib.objectInit, .instanceMethod Lib.objectInit, .code Lib.objectInit ⟨#[0xb1]⟩ 1 none].all inB = true) (hf : 1 ≤ f.1 ∧ 20 ≤ f.2) (hst : (st.map fun v => v.category).sum ≤ 8) (hd : decode md.2.2.1 pc = .ok (.invokespecial idx, 3)) (k : E G md f (pc + 3) L st M P) : E G md f pc L (.ref a :: st) M P := by
  refine E_pure (fun C hL kk => ?_) k
  have ok : ∀ w ∈ [Cond.methodLink (clsN md.1) idx Lib.objectInit, .instanceMethod Lib.objectInit, .code Lib.objectInit ⟨#[0xb1]⟩ 1 none], w ∈ BW := inBs_ok hw
  have hst' : ((st.map (cv G)).map fun v => v.category).sum ≤ 8 := by
    rw [List.map_map]
    have : ((fun v : Value => v.category) ∘ cv G) = fun v => v.category := funext fun v => cv_cat' G v
    rw [this]
    exact hst
  exact W.objInit C.1 C.2.1 C.2.2.2.2.1 (C.2.2.2.2.2.1 _ (ok _ (by simp))) (C.2.2.2.2.2.1 _ (ok _ (by simp))) (C.2.2.2.2.2.1 _ (ok _ (by simp))) rfl (hL.2.1.trans C.2.2.1.symm) rfl hd (Nat.le_trans hf.1 C.2.2.2.2.2.2.2.1.1) (by have := C.2.2.2.2.2.2.2.1.2; show 2 * 0 + _ + 12 ≤ _; omega) (kk _ hL)
/-! returns -/
section RET
variable {G : GP} {md : MD} {f : Nat × Nat} {pc : Nat} {L : List Value} {M : SMem} {P : Option Value → SMem → Prop}
theorem E_retX {rv : Option Value} {i : Instr} (hr : retI md.2.2.2.2 rv i) (hd : decode md.2.2.1 pc = .ok (i, 1)) (hP : P rv M) : E G md f pc L rv.toList M P := by
  refine ⟨rv, M, hP, Nat.le_refl _, Nat.le_refl _, ?_⟩
  intro p e R s m args below meth c H locs cells slots Q ls C hH hL hc hs kk
  have := kk pc ls H locs i hr hd
  rw [Nat.sub_self, Nat.sub_self, Nat.add_zero, Nat.add_zero] at this
  exact this hH
theorem E_ireturn {x : Int32} {ty : FieldType} (hr : md.2.2.2.2 = some ty) (hn : narrow ty (.int x) = .int x) (hd : decode md.2.2.1 pc = .ok (.ireturn, 1)) (hP : P (some (.int x)) M) : E G md f pc L [.int x] M P := E_retX (rv := some (.int x)) (Or.inl ⟨x, ty, rfl, rfl, hr, hn⟩) hd hP
theorem E_lreturn {x : Int64} (hr : md.2.2.2.2 = some .long) (hd : decode md.2.2.1 pc = .ok (.lreturn, 1)) (hP : P (some (.long x)) M) : E G md f pc L [.long x] M P := E_retX (rv := some (.long x)) (Or.inr (Or.inl ⟨x, rfl, rfl, hr⟩)) hd hP
theorem E_areturn {x : Nat} {cn : String} (hr : md.2.2.2.2 = some (.object cn)) (hd : decode md.2.2.1 pc = .ok (.areturn, 1)) (hP : P (some (.ref x)) M) : E G md f pc L [.ref x] M P := E_retX (rv := some (.ref x)) (Or.inr (Or.inr (Or.inl ⟨_, _, rfl, Or.inr ⟨x, rfl⟩, rfl, hr, Or.inl ⟨cn, rfl⟩⟩))) hd hP
theorem E_areturnN {cn : String} (hr : md.2.2.2.2 = some (.object cn)) (hd : decode md.2.2.1 pc = .ok (.areturn, 1)) (hP : P (some .null) M) : E G md f pc L [.null] M P := E_retX (rv := some .null) (Or.inr (Or.inr (Or.inl ⟨_, _, rfl, Or.inl rfl, rfl, hr, Or.inl ⟨cn, rfl⟩⟩))) hd hP
theorem E_return (hr : md.2.2.2.2 = none) (hd : decode md.2.2.1 pc = .ok (.return_, 1)) (hP : P none M) : E G md f pc L [] M P := E_retX (rv := none) (Or.inr (Or.inr (Or.inr ⟨rfl, rfl, hr⟩))) hd hP
end RET
/-! a method's contract, and its call -/
def PcM (G : GP) (as : List Value) (M : SMem) : Array Value → State → Prop := va_Pc (as.map (cv G)) (fun U => U.heap.size = gB G + M.length ∧ va_P (gD G) vwCl (wsM G M) U.heap ∧ KX G U)
def QcM (G : GP) (rv : Option Value) (M' : SMem) : Array Value → State → Outcome → State → Prop := fun _ st o t => o = .returned (rv.map (cv G)) ∧ t.heap.size = gB G + M'.length ∧ va_P (gD G) vwCl (wsM G M') t.heap ∧ va_F (fun q => gB G ≤ q) st t
def mdok (md : MD) : Bool := plainName md.2.1.cls && (decide (clsN md.1 = md.2.1.cls) && decide (md.1 ≠ 13))
theorem met_of {G : GP} {md : MD} {f : Nat × Nat} {as : List Value} {M : SMem} {rv : Option Value} {M' : SMem} (hmd : mdok md = true) (hlen : (entA as).length ≤ md.2.2.2.1) (h : E0 G md f 0 (entL as md.2.2.2.1) [] M rv M') : Met (gL G) md.2.1 (wsMD md) { frames := f.1, cells := M'.length - M.length, slots := slM M' - slM M, locals := f.2 } (PcM G as M) (QcM G rv M') (M'.length - M.length) (slM M' - slM M) (fun q => gB G ≤ q) := by
  simp only [mdok, Bool.and_eq_true, decide_eq_true_eq] at hmd
  refine Met.ofW (cc := md.2.2.1) (maxL := md.2.2.2.1) (ret := md.2.2.2.2) hmd.1 rfl ?_
  intro p e s m args below meth c s₁ B hml hv
  obtain ⟨rfl, hsz, hP, hK⟩ := hv
  have hts := atoms_spec (ws := wsMD md) B.pre
  have C : Cx G md f p { frames := f.1, cells := M'.length - M.length, slots := slM M' - slM M, locals := f.2 } s m (as.map (cv G)).toArray meth c :=
    ⟨B.exec, B.bytes, hml, B.returns, by rw [hmd.2.1]; exact findClass_of_methodNamed B.named, fun w hw => hts w (List.mem_cons_of_mem _ hw), hK, ⟨Nat.le_refl _, Nat.le_refl _⟩, (name_of_methodNamed B.named B.method).1, by omega, fun h => absurd h hmd.2.2⟩
  have hR : HR G M s s.heap [] 0 := ⟨by omega, hP, va_S.rf⟩
  rw [lg_entry_eq]
  have K := h.2.2 (p := p) (e := e) (R := { frames := f.1, cells := M'.length - M.length, slots := slM M' - slM M, locals := f.2 }) (s := s) (m := m) (args := (as.map (cv G)).toArray) (below := below) (meth := meth) (c := c) (H := s.heap) (locs := []) (cells := 0) (slots := 0) (Q := MQ below (QcM G rv M') (as.map (cv G)).toArray s (M'.length - M.length) (slM M' - slM M) (fun q => gB G ≤ q)) C hR (LR.entry G as hlen) (by simp) (by simp)
  refine K ?_
  intro pc' ls' H' locs' i hret hd hH'
  rw [Nat.zero_add] at hH' ⊢
  rw [Nat.zero_add]
  refine W_size fun hu => ?_
  have hz := HR_size C.2.2.2.2.2.2.2.2.2.1 hH' hu
  have hq : ∀ (v : Option Value), rv.map (cv G) = v → ∀ t : State, t.heap = H' → s.WarmedH t.vm → QcM G rv M' (as.map (cv G)).toArray s (.returned v) t := fun v hv t ht _ => ⟨by rw [hv], by rw [ht]; exact hz, by rw [ht]; exact hH'.2.1, hH'.2.2.F ht⟩
  rcases hret with ⟨x, ty, rfl, rfl, hr, hn⟩ | ⟨x, rfl, rfl, hr⟩ | ⟨v, rt, rfl, hv, rfl, hr, ht⟩ | ⟨rfl, rfl, hr⟩
  · exact W.zret B.exec B.bytes (B.returns.trans hr) hn (hq _ rfl) (fun q hq => hH'.2.2.2.2 q hq) hd B.notSynchronized
  · exact W.lret B.exec B.bytes (B.returns.trans hr) (hq _ rfl) (fun q hq => hH'.2.2.2.2 q hq) hd B.notSynchronized
  · refine W.aret B.exec B.bytes (B.returns.trans hr) ht (v := cv G v) ?_ (hq _ rfl) (fun q hq => hH'.2.2.2.2 q hq) hd B.notSynchronized
    rcases hv with rfl | ⟨a, rfl⟩
    · exact Or.inl rfl
    · exact Or.inr ⟨_, rfl⟩
  · exact W.vret B.exec B.bytes (B.returns.trans hr) (hq _ rfl) (fun q hq => hH'.2.2.2.2 q hq) hd B.notSynchronized
theorem run_call {G : GP} {p : Program} {e : Env} {R : Room} {s : State} {m : MethodId} {args : Array Value} {below : List Frame} {meth : Method} {c : Code} {H : Heap} {locs : List Loc} {cells slots mc ms : Nat} {Q : State → Prop} {pc : Nat} {ls : Array Slot} {st0 rest : List Value} {a : Array Value} {rv : Option Value} {M1 : SMem} (hr : va_Run p (gL G) e R s m args below meth c H locs cells slots mc ms (F0 m pc ls st0) rest (QcM G rv M1 a) (fun q => gB G ≤ q)) (hS : va_S (fun q => gB G ≤ q) s.heap H locs)
    (kk : ∀ (H1 : Heap) (locs1 : List Loc), H1.size = gB G + M1.length → va_P (gD G) vwCl (wsM G M1) H1 → va_S (fun q => gB G ≤ q) s.heap H1 locs1 → W p (gL G) e R s m args below meth c H1 locs1 (cells + mc) (slots + ms) Q (F0 m (pc + 3) ls ((rv.map (cv G)).toList ++ rest))) : W p (gL G) e R s m args below meth c H locs cells slots Q (F0 m pc ls st0) := by
  intro T hT X
  obtain ⟨v, st₀, t, T', Lc, h0, X', hL, e1, e2, ⟨hv, hsz, hP, hz, hk⟩, st⟩ := hr T hT X
  cases hv
  rw [h0] at hz hk
  obtain ⟨t2, a1, b1⟩ := kk T'.heap (locs ++ Lc) (by rw [e1]; exact hsz) (by rw [e1]; exact hP)
    ⟨Nat.le_trans hS.1 (by rw [e1]; exact hz), fun q h1 h2 => by rw [e1, hk q (Nat.lt_of_lt_of_le h1 hS.1) h2]; exact hS.2.1 q h1 h2, fun q hq => by
      rcases List.mem_append.mp hq with h | h
      · exact hS.2.2 q h
      · exact hL q h⟩ T' rfl X'
  exact ⟨t2, st t2 a1, b1⟩
def pushR : Option Value → List Value → List Value
  | none, st => st
  | some v, st => v :: st
theorem pushR_map (G : GP) (rv : Option Value) (st : List Value) : (pushR rv st).map (cv G) = (rv.map (cv G)).toList ++ st.map (cv G) := by cases rv <;> rfl
theorem cat_map (G : GP) (st : List Value) : ((st.map (cv G)).map fun v => v.category).sum = (st.map fun v => v.category).sum := by
  rw [List.map_map]
  have : ((fun v : Value => v.category) ∘ cv G) = fun v => v.category := funext fun v => cv_cat' G v
  rw [this]
theorem PcM_blind (G : GP) (as : List Value) (M : SMem) : FrameBlind (PcM G as M) := fun a U g mk ⟨h1, h2, h3, h4⟩ => ⟨h1, h2, h3, h4.calling⟩
theorem E_callV {G : GP} {md mdc : MD} {f fc : Nat × Nat} {pc n ci a : Nat} {op : Instr} {L L0 st As rest : List Value} {M : SMem} {P Pc : Option Value → SMem → Prop} {fs : List Value} (hS : COKV md.1 op ci n mdc) (hmd : mdok mdc = true) (hd : decode md.2.2.1 pc = .ok (op, 3)) (hm : M[a]? = some (.inr (ci, fs))) (hst : st = As.reverse ++ .ref a :: rest) (hn : As.length = n) (hw : (rest.map fun v => v.category).sum ≤ 8) (hL0 : entL (.ref a :: As) mdc.2.2.2.1 = L0) (hlen : Nat.ble (entA (.ref a :: As)).length mdc.2.2.2.1 = true) (hf : fc.1 + 1 ≤ f.1 ∧ 8 + (mdc.2.2.2.1 + 11) + fc.2 ≤ f.2) (hc : E G mdc fc 0 L0 [] M Pc) (kk : ∀ (rv : Option Value) (M1 : SMem), Pc rv M1 → E G md f (pc + 3) L (pushR rv rest) M1 P) : E G md f pc L st M P := by
  obtain ⟨rv, M1, hPc, hE0⟩ := hc
  obtain ⟨rv2, M2, hP, h1, h2, hk⟩ := kk rv M1 hPc
  have g1 := hE0.1
  have g2 := hE0.2.1
  subst hst
  subst hL0
  have hM := met_of (as := .ref a :: As) hmd (Nat.le_of_ble_eq_true hlen) hE0
  refine ⟨rv2, M2, hP, by omega, by omega, ?_⟩
  intro p e R s m args below meth c H locs cells slots Q ls C hH hL hcl hsl kk2
  refine W_size fun hu => ?_
  have hz := HR_size C.2.2.2.2.2.2.2.2.2.1 hH hu
  have K := C.2.2.2.2.2.2.1
  have hR := C.2.2.2.2.2.2.2.1
  obtain ⟨r, hr, -⟩ := hH.2.1 a _ (wsM_at G hm)
  have hrn : r.1 = clsN ci := by
    obtain ⟨C0, T0, N0⟩ := r
    exact (clok hr).1
  have hrecv := va_recv K.1 hH.2.1 hr (wsM_at G hm)
  rw [hrn] at hrecv
  have e0 : (As.reverse ++ Value.ref a :: rest).map (cv G) = (As.map (cv G)).reverse ++ Value.ref (gB G + a) :: rest.map (cv G) := by simp [cv]
  rw [e0]
  refine run_call (G := G) (rv := rv) (M1 := M1) (hS ⟨C.1, C.2.1, C.2.2.1, C.2.2.2.2.1, C.2.2.2.2.2.1⟩ K hM ⟨rfl, rfl, Nat.le_trans hf.1 hR.1, Nat.le_trans hf.2 hR.2⟩ ⟨PcM_blind G _ M, hrecv, fun U hU hW => ⟨by simp [cv], by rw [hU]; exact hz, by rw [hU]; exact hH.2.1, KX.warm hW K⟩⟩ (by simpa using hn) hL.2.1 (by rw [cat_map]; exact hw) hd ⟨by omega, by omega⟩) hH.2.2 (fun H1 locs1 hs1 hP1 hS1 => ?_)
  rw [← pushR_map]
  have e1 : cells + (M1.length - M.length) + (M2.length - M1.length) = cells + (M2.length - M.length) := by omega
  have e2 : slots + (slM M1 - slM M) + (slM M2 - slM M1) = slots + (slM M2 - slM M) := by omega
  exact hk C ⟨by have := hH.1; omega, hP1, hS1⟩ hL (by rw [e1]; exact hcl) (by rw [e2]; exact hsl) (by rw [e1, e2]; exact kk2)
theorem E_callS {G : GP} {md mdc : MD} {f fc : Nat × Nat} {pc n : Nat} {op : Instr} {L L0 st As rest : List Value} {M : SMem} {P Pc : Option Value → SMem → Prop} (hS : COKS md.1 op n mdc) (hmd : mdok mdc = true) (hd : decode md.2.2.1 pc = .ok (op, 3)) (hst : st = As.reverse ++ rest) (hn : As.length = n) (hw : (rest.map fun v => v.category).sum ≤ 8) (hL0 : entL As mdc.2.2.2.1 = L0) (hlen : Nat.ble (entA As).length mdc.2.2.2.1 = true) (hf : fc.1 + 1 ≤ f.1 ∧ 8 + (mdc.2.2.2.1 + 11) + fc.2 ≤ f.2) (hc : E G mdc fc 0 L0 [] M Pc) (kk : ∀ (rv : Option Value) (M1 : SMem), Pc rv M1 → E G md f (pc + 3) L (pushR rv rest) M1 P) : E G md f pc L st M P := by
  obtain ⟨rv, M1, hPc, hE0⟩ := hc
  obtain ⟨rv2, M2, hP, h1, h2, hk⟩ := kk rv M1 hPc
  have g1 := hE0.1
  have g2 := hE0.2.1
  subst hst
  subst hL0
  have hM := met_of (as := As) hmd (Nat.le_of_ble_eq_true hlen) hE0
  refine ⟨rv2, M2, hP, by omega, by omega, ?_⟩
  intro p e R s m args below meth c H locs cells slots Q ls C hH hL hcl hsl kk2
  refine W_size fun hu => ?_
  have hz := HR_size C.2.2.2.2.2.2.2.2.2.1 hH hu
  have K := C.2.2.2.2.2.2.1
  have hR := C.2.2.2.2.2.2.2.1
  have e0 : (As.reverse ++ rest).map (cv G) = (As.map (cv G)).reverse ++ rest.map (cv G) := by simp
  rw [e0]
  refine run_call (G := G) (rv := rv) (M1 := M1) (hS ⟨C.1, C.2.1, C.2.2.1, C.2.2.2.2.1, C.2.2.2.2.2.1⟩ K hM ⟨rfl, rfl, Nat.le_trans hf.1 hR.1, Nat.le_trans hf.2 hR.2⟩ ⟨PcM_blind G _ M, fun U hU hW => ⟨rfl, by rw [hU]; exact hz, by rw [hU]; exact hH.2.1, KX.warm hW K⟩⟩ (by simpa using hn) hL.2.1 (by rw [cat_map]; exact hw) hd ⟨by omega, by omega⟩) hH.2.2 (fun H1 locs1 hs1 hP1 hS1 => ?_)
  rw [← pushR_map]
  have e1 : cells + (M1.length - M.length) + (M2.length - M1.length) = cells + (M2.length - M.length) := by omega
  have e2 : slots + (slM M1 - slM M) + (slM M2 - slM M1) = slots + (slM M2 - slM M) := by omega
  exact hk C ⟨by have := hH.1; omega, hP1, hS1⟩ hL (by rw [e1]; exact hcl) (by rw [e2]; exact hsl) (by rw [e1, e2]; exact kk2)
