/-! ===== one rule an instruction ===== -/
theorem E_pure {G : GP} {md : MD} {f : Nat × Nat} {pc : Nat} {L st : List Value} {M : SMem} {P : Option Value → SMem → Prop} {pc2 : Nat} {L2 st2 : List Value} (h : ∀ {p : Program} {e : Env} {R : Room} {s : State} {m : MethodId} {args : Array Value} {below : List Frame} {meth : Method} {c : Code} {H : Heap} {locs : List Loc} {cells slots : Nat} {Q : State → Prop} {ls : Array Slot}, Cx G md f p R s m args meth c → LR G md.2.2.2.1 ls L → (∀ ls2 : Array Slot, LR G md.2.2.2.1 ls2 L2 → W p (gL G) e R s m args below meth c H locs cells slots Q (F0 m pc2 ls2 (st2.map (cv G)))) → W p (gL G) e R s m args below meth c H locs cells slots Q (F0 m pc ls (st.map (cv G))))
    (k : E G md f pc2 L2 st2 M P) : E G md f pc L st M P := by
  obtain ⟨rv, M', hP, h1, h2, hk⟩ := k
  refine ⟨rv, M', hP, h1, h2, ?_⟩
  intro p e R s m args below meth c H locs cells slots Q ls C hH hL hc hs kk
  exact h C hL (fun ls2 hL2 => hk C hH hL2 hc hs kk)
theorem E_heap {G : GP} {md : MD} {f : Nat × Nat} {pc : Nat} {L st : List Value} {M : SMem} {P : Option Value → SMem → Prop} {pc2 : Nat} {st2 : List Value} {M2 : SMem} (hlen : M2.length = M.length) (hsl : slM M2 = slM M) (h : ∀ {p : Program} {e : Env} {R : Room} {s : State} {m : MethodId} {args : Array Value} {below : List Frame} {meth : Method} {c : Code} {H : Heap} {locs : List Loc} {cells slots : Nat} {Q : State → Prop} {ls : Array Slot}, Cx G md f p R s m args meth c → va_P (gD G) vwCl (wsM G M) H → va_S (fun q => gB G ≤ q) s.heap H locs → LR G md.2.2.2.1 ls L → (∀ (H1 : Heap) (locs1 : List Loc), va_P (gD G) vwCl (wsM G M2) H1 → va_S (fun q => gB G ≤ q) s.heap H1 locs1 → W p (gL G) e R s m args below meth c H1 locs1 cells slots Q (F0 m pc2 ls (st2.map (cv G)))) → W p (gL G) e R s m args below meth c H locs cells slots Q (F0 m pc ls (st.map (cv G))))
    (k : E G md f pc2 L st2 M2 P) : E G md f pc L st M P := by
  obtain ⟨rv, M', hP, h1, h2, hk⟩ := k
  refine ⟨rv, M', hP, by omega, by omega, ?_⟩
  intro p e R s m args below meth c H locs cells slots Q ls C hH hL hc hs kk
  refine h C hH.2.1 hH.2.2 hL (fun H1 locs1 hP1 hS1 => ?_)
  rw [← hlen] at hc kk
  rw [← hsl] at hs kk
  exact hk C ⟨by rw [hlen]; exact hH.1, hP1, hS1⟩ hL hc hs kk
theorem nI_ofInt (n : Nat) : Int32.ofInt (n : Int) = nI n := by
  apply Int32.toBitVec_inj.mp
  show BitVec.ofInt 32 (n : Int) = BitVec.ofNat 32 n
  exact BitVec.ofInt_natCast 32 n
theorem E_iconst {G : GP} {md : MD} {f : Nat × Nat} {pc : Nat} {L st : List Value} {M : SMem} {P : Option Value → SMem → Prop} (n : Nat) {i : Int} (hi : i = (n : Int)) (hd : decode md.2.2.1 pc = .ok (.iconst i, 1)) (k : E G md f (pc + 1) L (.int (nI n) :: st) M P) : E G md f pc L st M P :=
  E_pure (fun C hL kk => lv_iconst C.1 C.2.1 hd (by rw [hi]; exact nI_ofInt n) (kk _ hL)) k
theorem E_im1 {G : GP} {md : MD} {f : Nat × Nat} {pc : Nat} {L st : List Value} {M : SMem} {P : Option Value → SMem → Prop}  (hd : decode md.2.2.1 pc = .ok (.iconst (-1), 1)) (k : E G md f (pc + 1) L (.int (-1) :: st) M P) : E G md f pc L st M P :=
  E_pure (fun C hL kk => lv_iconst C.1 C.2.1 hd (by decide) (kk _ hL)) k
theorem E_bipush {G : GP} {md : MD} {f : Nat × Nat} {pc : Nat} {L st : List Value} {M : SMem} {P : Option Value → SMem → Prop} (v : Int32) {i : Int} (hv : (Int8.ofInt i).toInt32 = v) (hd : decode md.2.2.1 pc = .ok (.bipush i, 2)) (k : E G md f (pc + 2) L (.int v :: st) M P) : E G md f pc L st M P :=
  E_pure (fun C hL kk => lv_bipush C.1 C.2.1 hd hv (kk _ hL)) k
theorem E_sipush {G : GP} {md : MD} {f : Nat × Nat} {pc : Nat} {L st : List Value} {M : SMem} {P : Option Value → SMem → Prop} (v : Int32) {i : Int} (hv : (Int16.ofInt i).toInt32 = v) (hd : decode md.2.2.1 pc = .ok (.sipush i, 3)) (k : E G md f (pc + 3) L (.int v :: st) M P) : E G md f pc L st M P :=
  E_pure (fun C hL kk => lv_sipush C.1 C.2.1 hd hv (kk _ hL)) k
theorem E_lconst {G : GP} {md : MD} {f : Nat × Nat} {pc : Nat} {L st : List Value} {M : SMem} {P : Option Value → SMem → Prop} {n : Fin 2} (v : Int64) (hv : Int64.ofNat (n : Nat) = v) (hd : decode md.2.2.1 pc = .ok (.lconst n, 1)) (k : E G md f (pc + 1) L (.long v :: st) M P) : E G md f pc L st M P :=
  E_pure (fun C hL kk => lv_lconst C.1 C.2.1 hd hv (kk _ hL)) k
theorem E_ldc {G : GP} {md : MD} {f : Nat × Nat} {pc : Nat} {L st : List Value} {M : SMem} {P : Option Value → SMem → Prop} {idx : Nat} {v : Int32} (hq : Cond.constant (clsN md.1) idx v ∈ BW) (hd : decode md.2.2.1 pc = .ok (.ldc idx, 2)) (k : E G md f (pc + 2) L (.int v :: st) M P) : E G md f pc L st M P :=
  E_pure (fun C hL kk => lv_ldc C.1 C.2.1 C.2.2.2.2.1 (C.2.2.2.2.2.1 _ hq) hd (kk _ hL)) k
theorem E_ldcw {G : GP} {md : MD} {f : Nat × Nat} {pc : Nat} {L st : List Value} {M : SMem} {P : Option Value → SMem → Prop} {idx : Nat} {v : Int32} (hq : Cond.constant (clsN md.1) idx v ∈ BW) (hd : decode md.2.2.1 pc = .ok (.ldc_w idx, 3)) (k : E G md f (pc + 3) L (.int v :: st) M P) : E G md f pc L st M P :=
  E_pure (fun C hL kk => lv_ldcw C.1 C.2.1 C.2.2.2.2.1 (C.2.2.2.2.2.1 _ hq) hd (kk _ hL)) k
theorem E_ldc2 {G : GP} {md : MD} {f : Nat × Nat} {pc : Nat} {L st : List Value} {M : SMem} {P : Option Value → SMem → Prop} {idx : Nat} {v : Int64} (hq : Cond.constantLong (clsN md.1) idx v ∈ BW) (hd : decode md.2.2.1 pc = .ok (.ldc2_w idx, 3)) (k : E G md f (pc + 3) L (.long v :: st) M P) : E G md f pc L st M P :=
  E_pure (fun C hL kk => lv_ldc2 C.1 C.2.1 C.2.2.2.2.1 (C.2.2.2.2.2.1 _ hq) hd (kk _ hL)) k
theorem E_null {G : GP} {md : MD} {f : Nat × Nat} {pc : Nat} {L st : List Value} {M : SMem} {P : Option Value → SMem → Prop}  (hd : decode md.2.2.1 pc = .ok (.aconst_null, 1)) (k : E G md f (pc + 1) L (.null :: st) M P) : E G md f pc L st M P :=
  E_pure (fun C hL kk => lv_null C.1 C.2.1 hd (kk _ hL)) k
theorem D0_int (x : Int32) : Value.int x ≠ D0 := fun h => by cases h
theorem D0_long (x : Int64) : Value.long x ≠ D0 := fun h => by cases h
theorem D0_ref (x : Nat) : Value.ref x ≠ D0 := fun h => by cases h
theorem D0_ret (x : Nat) : Value.retAddr x ≠ D0 := fun h => by cases h
theorem D0_null : Value.null ≠ D0 := fun h => by cases h
theorem E_iload {G : GP} {md : MD} {f : Nat × Nat} {pc : Nat} {L st : List Value} {M : SMem} {P : Option Value → SMem → Prop} {i : Nat} {x : Int32} (hl : L[i]? = some (.int x)) (hd : decode md.2.2.1 pc = .ok (.iload i, 2)) (k : E G md f (pc + 2) L (.int x :: st) M P) : E G md f pc L st M P :=
  E_pure (fun C hL kk => lv_iload C.1 C.2.1 hd (hL.at hl (D0_int _)) (kk _ hL)) k
theorem E_iload_n {G : GP} {md : MD} {f : Nat × Nat} {pc : Nat} {L st : List Value} {M : SMem} {P : Option Value → SMem → Prop} {i : Fin 4} {x : Int32} (hl : L[(i : Nat)]? = some (.int x)) (hd : decode md.2.2.1 pc = .ok (.iload_n i, 1)) (k : E G md f (pc + 1) L (.int x :: st) M P) : E G md f pc L st M P :=
  E_pure (fun C hL kk => lv_iload_n C.1 C.2.1 hd rfl (hL.at hl (D0_int _)) (kk _ hL)) k
theorem E_lload {G : GP} {md : MD} {f : Nat × Nat} {pc : Nat} {L st : List Value} {M : SMem} {P : Option Value → SMem → Prop} {i : Nat} {x : Int64} (hl : L[i]? = some (.long x)) (hd : decode md.2.2.1 pc = .ok (.lload i, 2)) (k : E G md f (pc + 2) L (.long x :: st) M P) : E G md f pc L st M P :=
  E_pure (fun C hL kk => lv_lload C.1 C.2.1 hd (hL.at hl (D0_long _)) (kk _ hL)) k
theorem E_lload_n {G : GP} {md : MD} {f : Nat × Nat} {pc : Nat} {L st : List Value} {M : SMem} {P : Option Value → SMem → Prop} {i : Fin 4} {x : Int64} (hl : L[(i : Nat)]? = some (.long x)) (hd : decode md.2.2.1 pc = .ok (.lload_n i, 1)) (k : E G md f (pc + 1) L (.long x :: st) M P) : E G md f pc L st M P :=
  E_pure (fun C hL kk => lv_lload_n C.1 C.2.1 hd rfl (hL.at hl (D0_long _)) (kk _ hL)) k
theorem E_aload {G : GP} {md : MD} {f : Nat × Nat} {pc : Nat} {L st : List Value} {M : SMem} {P : Option Value → SMem → Prop} {i : Nat} {x : Nat} (hl : L[i]? = some (.ref x)) (hd : decode md.2.2.1 pc = .ok (.aload i, 2)) (k : E G md f (pc + 2) L (.ref x :: st) M P) : E G md f pc L st M P :=
  E_pure (fun C hL kk => lv_aload C.1 C.2.1 hd (hL.at hl (D0_ref _)) (kk _ hL)) k
theorem E_aload_n {G : GP} {md : MD} {f : Nat × Nat} {pc : Nat} {L st : List Value} {M : SMem} {P : Option Value → SMem → Prop} {i : Fin 4} {x : Nat} (hl : L[(i : Nat)]? = some (.ref x)) (hd : decode md.2.2.1 pc = .ok (.aload_n i, 1)) (k : E G md f (pc + 1) L (.ref x :: st) M P) : E G md f pc L st M P :=
  E_pure (fun C hL kk => lv_aload_n C.1 C.2.1 hd rfl (hL.at hl (D0_ref _)) (kk _ hL)) k
theorem E_aloadS {G : GP} {md : MD} {f : Nat × Nat} {pc : Nat} {L st : List Value} {M : SMem} {P : Option Value → SMem → Prop} {i : Fin 4} {x : Nat} (hl : L[(i : Nat)]? = some (.retAddr x)) (hd : decode md.2.2.1 pc = .ok (.aload_n i, 1)) (k : E G md f (pc + 1) L (.retAddr x :: st) M P) : E G md f pc L st M P :=
  E_pure (fun C hL kk => lv_aload_n C.1 C.2.1 hd rfl (hL.at hl (D0_ret _)) (kk _ hL)) k
theorem E_aloadN {G : GP} {md : MD} {f : Nat × Nat} {pc : Nat} {L st : List Value} {M : SMem} {P : Option Value → SMem → Prop} {i : Nat} (hl : L[i]? = some .null) (hd : decode md.2.2.1 pc = .ok (.aload i, 2)) (k : E G md f (pc + 2) L (.null :: st) M P) : E G md f pc L st M P :=
  E_pure (fun C hL kk => lv_aloadN C.1 C.2.1 hd (hL.at hl D0_null) (kk _ hL)) k
theorem E_aload_nN {G : GP} {md : MD} {f : Nat × Nat} {pc : Nat} {L st : List Value} {M : SMem} {P : Option Value → SMem → Prop} {i : Fin 4} (hl : L[(i : Nat)]? = some .null) (hd : decode md.2.2.1 pc = .ok (.aload_n i, 1)) (k : E G md f (pc + 1) L (.null :: st) M P) : E G md f pc L st M P :=
  E_pure (fun C hL kk => lv_aload_nN C.1 C.2.1 hd rfl (hL.at hl D0_null) (kk _ hL)) k
theorem E_istore {G : GP} {md : MD} {f : Nat × Nat} {pc : Nat} {L st : List Value} {M : SMem} {P : Option Value → SMem → Prop} {i : Nat} {x : Int32} {L2 : List Value} (hi : Nat.blt i L.length = true) (hL2 : lput1 L i (.int x) = L2) (hd : decode md.2.2.1 pc = .ok (.istore i, 2)) (k : E G md f (pc + 2) L2 st M P) : E G md f pc L (.int x :: st) M P :=
  E_pure (fun C hL kk => lv_istore (lv := prs G L) (nL := md.2.2.2.1) C.1 C.2.1 hd  hL.has (by rw [← hL.1]; exact Nat.blt_eq.mp hi) rfl (fun ls2 h2 => kk ls2 (hL2 ▸ hL.put1 (v := .int x) (Nat.blt_eq.mp hi) rfl h2))) k
theorem E_istore_n {G : GP} {md : MD} {f : Nat × Nat} {pc : Nat} {L st : List Value} {M : SMem} {P : Option Value → SMem → Prop} {i : Fin 4} {x : Int32} {L2 : List Value} (hi : Nat.blt (i : Nat) L.length = true) (hL2 : lput1 L (i : Nat) (.int x) = L2) (hd : decode md.2.2.1 pc = .ok (.istore_n i, 1)) (k : E G md f (pc + 1) L2 st M P) : E G md f pc L (.int x :: st) M P :=
  E_pure (fun C hL kk => lv_istore_n (lv := prs G L) (nL := md.2.2.2.1) C.1 C.2.1 hd rfl hL.has (by rw [← hL.1]; exact Nat.blt_eq.mp hi) rfl (fun ls2 h2 => kk ls2 (hL2 ▸ hL.put1 (v := .int x) (Nat.blt_eq.mp hi) rfl h2))) k
theorem E_lstore {G : GP} {md : MD} {f : Nat × Nat} {pc : Nat} {L st : List Value} {M : SMem} {P : Option Value → SMem → Prop} {i : Nat} {x : Int64} {L2 : List Value} (hi : Nat.blt (i + 1) L.length = true) (hL2 : lput2 L i (.long x) = L2) (hd : decode md.2.2.1 pc = .ok (.lstore i, 2)) (k : E G md f (pc + 2) L2 st M P) : E G md f pc L (.long x :: st) M P :=
  E_pure (fun C hL kk => lv_lstore (lv := prs G L) (nL := md.2.2.2.1) C.1 C.2.1 hd  hL.has (by rw [← hL.1]; exact Nat.blt_eq.mp hi) rfl (fun ls2 h2 => kk ls2 (hL2 ▸ hL.put2 (v := .long x) (Nat.blt_eq.mp hi) rfl h2))) k
theorem E_lstore_n {G : GP} {md : MD} {f : Nat × Nat} {pc : Nat} {L st : List Value} {M : SMem} {P : Option Value → SMem → Prop} {i : Fin 4} {x : Int64} {L2 : List Value} (hi : Nat.blt ((i : Nat) + 1) L.length = true) (hL2 : lput2 L (i : Nat) (.long x) = L2) (hd : decode md.2.2.1 pc = .ok (.lstore_n i, 1)) (k : E G md f (pc + 1) L2 st M P) : E G md f pc L (.long x :: st) M P :=
  E_pure (fun C hL kk => lv_lstore_n (lv := prs G L) (nL := md.2.2.2.1) C.1 C.2.1 hd rfl hL.has (by rw [← hL.1]; exact Nat.blt_eq.mp hi) rfl (fun ls2 h2 => kk ls2 (hL2 ▸ hL.put2 (v := .long x) (Nat.blt_eq.mp hi) rfl h2))) k
theorem E_astore {G : GP} {md : MD} {f : Nat × Nat} {pc : Nat} {L st : List Value} {M : SMem} {P : Option Value → SMem → Prop} {i : Nat} {x : Nat} {L2 : List Value} (hi : Nat.blt i L.length = true) (hL2 : lput1 L i (.ref x) = L2) (hd : decode md.2.2.1 pc = .ok (.astore i, 2)) (k : E G md f (pc + 2) L2 st M P) : E G md f pc L (.ref x :: st) M P :=
  E_pure (fun C hL kk => lv_astore (lv := prs G L) (nL := md.2.2.2.1) C.1 C.2.1 hd  hL.has (by rw [← hL.1]; exact Nat.blt_eq.mp hi) rfl (fun ls2 h2 => kk ls2 (hL2 ▸ hL.put1 (v := .ref x) (Nat.blt_eq.mp hi) rfl h2))) k
theorem E_astore_n {G : GP} {md : MD} {f : Nat × Nat} {pc : Nat} {L st : List Value} {M : SMem} {P : Option Value → SMem → Prop} {i : Fin 4} {x : Nat} {L2 : List Value} (hi : Nat.blt (i : Nat) L.length = true) (hL2 : lput1 L (i : Nat) (.ref x) = L2) (hd : decode md.2.2.1 pc = .ok (.astore_n i, 1)) (k : E G md f (pc + 1) L2 st M P) : E G md f pc L (.ref x :: st) M P :=
  E_pure (fun C hL kk => lv_astore_n (lv := prs G L) (nL := md.2.2.2.1) C.1 C.2.1 hd rfl hL.has (by rw [← hL.1]; exact Nat.blt_eq.mp hi) rfl (fun ls2 h2 => kk ls2 (hL2 ▸ hL.put1 (v := .ref x) (Nat.blt_eq.mp hi) rfl h2))) k
theorem E_astoreN {G : GP} {md : MD} {f : Nat × Nat} {pc : Nat} {L st : List Value} {M : SMem} {P : Option Value → SMem → Prop} {i : Nat} {L2 : List Value} (hi : Nat.blt i L.length = true) (hL2 : lput1 L i .null = L2) (hd : decode md.2.2.1 pc = .ok (.astore i, 2)) (k : E G md f (pc + 2) L2 st M P) : E G md f pc L (.null :: st) M P :=
  E_pure (fun C hL kk => lv_astoreN (lv := prs G L) (nL := md.2.2.2.1) C.1 C.2.1 hd  hL.has (by rw [← hL.1]; exact Nat.blt_eq.mp hi) rfl (fun ls2 h2 => kk ls2 (hL2 ▸ hL.put1 (v := .null) (Nat.blt_eq.mp hi) rfl h2))) k
theorem E_astore_nN {G : GP} {md : MD} {f : Nat × Nat} {pc : Nat} {L st : List Value} {M : SMem} {P : Option Value → SMem → Prop} {i : Fin 4} {L2 : List Value} (hi : Nat.blt (i : Nat) L.length = true) (hL2 : lput1 L (i : Nat) .null = L2) (hd : decode md.2.2.1 pc = .ok (.astore_n i, 1)) (k : E G md f (pc + 1) L2 st M P) : E G md f pc L (.null :: st) M P :=
  E_pure (fun C hL kk => lv_astore_nN (lv := prs G L) (nL := md.2.2.2.1) C.1 C.2.1 hd rfl hL.has (by rw [← hL.1]; exact Nat.blt_eq.mp hi) rfl (fun ls2 h2 => kk ls2 (hL2 ▸ hL.put1 (v := .null) (Nat.blt_eq.mp hi) rfl h2))) k
theorem E_iinc {G : GP} {md : MD} {f : Nat × Nat} {pc : Nat} {L st : List Value} {M : SMem} {P : Option Value → SMem → Prop} {i : Nat} {n : Int} {x v : Int32} {L2 : List Value} (hl : L[i]? = some (.int x)) (hv : x + Int32.ofInt n = v) (hi : Nat.blt i L.length = true) (hL2 : lput1 L i (.int v) = L2) (hd : decode md.2.2.1 pc = .ok (.iinc i n, 3)) (k : E G md f (pc + 3) L2 st M P) : E G md f pc L st M P := by
  refine E_pure (fun C hL kk => ?_) k
  obtain ⟨j, hj⟩ := List.getElem?_of_mem (prs_mem (G := G) hl (D0_int x))
  exact lv_iinc (lv := prs G L) (nL := md.2.2.2.1) (k := j) C.1 C.2.1 hd hL.has hj hv (by rw [← hL.1]; exact Nat.blt_eq.mp hi) rfl (fun ls2 h2 => kk ls2 (hL2 ▸ hL.put1 (v := .int v) (Nat.blt_eq.mp hi) rfl h2))
theorem E_iadd {G : GP} {md : MD} {f : Nat × Nat} {pc : Nat} {L st : List Value} {M : SMem} {P : Option Value → SMem → Prop} {x y : Int32} (hd : decode md.2.2.1 pc = .ok (.iadd, 1)) (k : E G md f (pc + 1) L (.int (x + y) :: st) M P) : E G md f pc L (.int y :: .int x :: st) M P :=
  E_pure (fun C hL kk => lv_iadd C.1 C.2.1 hd (kk _ hL)) k
theorem E_isub {G : GP} {md : MD} {f : Nat × Nat} {pc : Nat} {L st : List Value} {M : SMem} {P : Option Value → SMem → Prop} {x y : Int32} (hd : decode md.2.2.1 pc = .ok (.isub, 1)) (k : E G md f (pc + 1) L (.int (x - y) :: st) M P) : E G md f pc L (.int y :: .int x :: st) M P :=
  E_pure (fun C hL kk => lv_isub C.1 C.2.1 hd (kk _ hL)) k
theorem E_imul {G : GP} {md : MD} {f : Nat × Nat} {pc : Nat} {L st : List Value} {M : SMem} {P : Option Value → SMem → Prop} {x y : Int32} (hd : decode md.2.2.1 pc = .ok (.imul, 1)) (k : E G md f (pc + 1) L (.int (x * y) :: st) M P) : E G md f pc L (.int y :: .int x :: st) M P :=
  E_pure (fun C hL kk => lv_imul C.1 C.2.1 hd (kk _ hL)) k
theorem E_iand {G : GP} {md : MD} {f : Nat × Nat} {pc : Nat} {L st : List Value} {M : SMem} {P : Option Value → SMem → Prop} {x y : Int32} (hd : decode md.2.2.1 pc = .ok (.iand, 1)) (k : E G md f (pc + 1) L (.int (x &&& y) :: st) M P) : E G md f pc L (.int y :: .int x :: st) M P :=
  E_pure (fun C hL kk => lv_iand C.1 C.2.1 hd (kk _ hL)) k
theorem E_ior {G : GP} {md : MD} {f : Nat × Nat} {pc : Nat} {L st : List Value} {M : SMem} {P : Option Value → SMem → Prop} {x y : Int32} (hd : decode md.2.2.1 pc = .ok (.ior, 1)) (k : E G md f (pc + 1) L (.int (x ||| y) :: st) M P) : E G md f pc L (.int y :: .int x :: st) M P :=
  E_pure (fun C hL kk => lv_ior C.1 C.2.1 hd (kk _ hL)) k
theorem E_ixor {G : GP} {md : MD} {f : Nat × Nat} {pc : Nat} {L st : List Value} {M : SMem} {P : Option Value → SMem → Prop} {x y : Int32} (hd : decode md.2.2.1 pc = .ok (.ixor, 1)) (k : E G md f (pc + 1) L (.int (x ^^^ y) :: st) M P) : E G md f pc L (.int y :: .int x :: st) M P :=
  E_pure (fun C hL kk => lv_ixor C.1 C.2.1 hd (kk _ hL)) k
theorem E_ishl {G : GP} {md : MD} {f : Nat × Nat} {pc : Nat} {L st : List Value} {M : SMem} {P : Option Value → SMem → Prop} {x y : Int32} (hd : decode md.2.2.1 pc = .ok (.ishl, 1)) (k : E G md f (pc + 1) L (.int (x <<< (y &&& 31)) :: st) M P) : E G md f pc L (.int y :: .int x :: st) M P :=
  E_pure (fun C hL kk => lv_ishl C.1 C.2.1 hd (kk _ hL)) k
theorem E_ishr {G : GP} {md : MD} {f : Nat × Nat} {pc : Nat} {L st : List Value} {M : SMem} {P : Option Value → SMem → Prop} {x y : Int32} (hd : decode md.2.2.1 pc = .ok (.ishr, 1)) (k : E G md f (pc + 1) L (.int (x >>> (y &&& 31)) :: st) M P) : E G md f pc L (.int y :: .int x :: st) M P :=
  E_pure (fun C hL kk => lv_ishr C.1 C.2.1 hd (kk _ hL)) k
theorem E_iushr {G : GP} {md : MD} {f : Nat × Nat} {pc : Nat} {L st : List Value} {M : SMem} {P : Option Value → SMem → Prop} {x y : Int32} (hd : decode md.2.2.1 pc = .ok (.iushr, 1)) (k : E G md f (pc + 1) L (.int (x.toUInt32 >>> (y.toUInt32 &&& Int32.toUInt32 31)).toInt32 :: st) M P) : E G md f pc L (.int y :: .int x :: st) M P :=
  E_pure (fun C hL kk => lv_iushr C.1 C.2.1 hd rfl (kk _ hL)) k
theorem E_idiv {G : GP} {md : MD} {f : Nat × Nat} {pc : Nat} {L st : List Value} {M : SMem} {P : Option Value → SMem → Prop} {x y : Int32} (hne : ¬ y = 0) (hd : decode md.2.2.1 pc = .ok (.idiv, 1)) (k : E G md f (pc + 1) L (.int (x / y) :: st) M P) : E G md f pc L (.int y :: .int x :: st) M P :=
  E_pure (fun C hL kk => lv_idiv C.1 C.2.1 hd hne (kk _ hL)) k
theorem E_irem {G : GP} {md : MD} {f : Nat × Nat} {pc : Nat} {L st : List Value} {M : SMem} {P : Option Value → SMem → Prop} {x y : Int32} (hne : ¬ y = 0) (hd : decode md.2.2.1 pc = .ok (.irem, 1)) (k : E G md f (pc + 1) L (.int (x - x / y * y) :: st) M P) : E G md f pc L (.int y :: .int x :: st) M P :=
  E_pure (fun C hL kk => lv_irem C.1 C.2.1 hd hne (kk _ hL)) k
theorem E_ineg {G : GP} {md : MD} {f : Nat × Nat} {pc : Nat} {L st : List Value} {M : SMem} {P : Option Value → SMem → Prop} {x : Int32} (hd : decode md.2.2.1 pc = .ok (.ineg, 1)) (k : E G md f (pc + 1) L (.int (-x) :: st) M P) : E G md f pc L (.int x :: st) M P :=
  E_pure (fun C hL kk => lv_ineg C.1 C.2.1 hd (kk _ hL)) k
theorem E_ladd {G : GP} {md : MD} {f : Nat × Nat} {pc : Nat} {L st : List Value} {M : SMem} {P : Option Value → SMem → Prop} {x y : Int64} (hd : decode md.2.2.1 pc = .ok (.ladd, 1)) (k : E G md f (pc + 1) L (.long (x + y) :: st) M P) : E G md f pc L (.long y :: .long x :: st) M P :=
  E_pure (fun C hL kk => lv_ladd C.1 C.2.1 hd (kk _ hL)) k
theorem E_land {G : GP} {md : MD} {f : Nat × Nat} {pc : Nat} {L st : List Value} {M : SMem} {P : Option Value → SMem → Prop} {x y : Int64} (hd : decode md.2.2.1 pc = .ok (.land, 1)) (k : E G md f (pc + 1) L (.long (x &&& y) :: st) M P) : E G md f pc L (.long y :: .long x :: st) M P :=
  E_pure (fun C hL kk => lv_land C.1 C.2.1 hd (kk _ hL)) k
theorem E_lor {G : GP} {md : MD} {f : Nat × Nat} {pc : Nat} {L st : List Value} {M : SMem} {P : Option Value → SMem → Prop} {x y : Int64} (hd : decode md.2.2.1 pc = .ok (.lor, 1)) (k : E G md f (pc + 1) L (.long (x ||| y) :: st) M P) : E G md f pc L (.long y :: .long x :: st) M P :=
  E_pure (fun C hL kk => lv_lor C.1 C.2.1 hd (kk _ hL)) k
theorem E_lshl {G : GP} {md : MD} {f : Nat × Nat} {pc : Nat} {L st : List Value} {M : SMem} {P : Option Value → SMem → Prop} {x : Int64} {y : Int32} (hd : decode md.2.2.1 pc = .ok (.lshl, 1)) (k : E G md f (pc + 1) L (.long (x <<< (y.toInt64 &&& 63)) :: st) M P) : E G md f pc L (.int y :: .long x :: st) M P :=
  E_pure (fun C hL kk => lv_lshl C.1 C.2.1 hd rfl (kk _ hL)) k
theorem E_lcmp {G : GP} {md : MD} {f : Nat × Nat} {pc : Nat} {L st : List Value} {M : SMem} {P : Option Value → SMem → Prop} {x y : Int64} (hd : decode md.2.2.1 pc = .ok (.lcmp, 1)) (k : E G md f (pc + 1) L (.int (lg_cmp x y) :: st) M P) : E G md f pc L (.long y :: .long x :: st) M P :=
  E_pure (fun C hL kk => W.lcmp C.1 C.2.1 hd (kk _ hL)) k
theorem E_i2l {G : GP} {md : MD} {f : Nat × Nat} {pc : Nat} {L st : List Value} {M : SMem} {P : Option Value → SMem → Prop} {x : Int32} (hd : decode md.2.2.1 pc = .ok (.i2l, 1)) (k : E G md f (pc + 1) L (.long x.toInt64 :: st) M P) : E G md f pc L (.int x :: st) M P :=
  E_pure (fun C hL kk => lv_i2l C.1 C.2.1 hd rfl (kk _ hL)) k
theorem E_l2i {G : GP} {md : MD} {f : Nat × Nat} {pc : Nat} {L st : List Value} {M : SMem} {P : Option Value → SMem → Prop} {x : Int64} (hd : decode md.2.2.1 pc = .ok (.l2i, 1)) (k : E G md f (pc + 1) L (.int x.toInt32 :: st) M P) : E G md f pc L (.long x :: st) M P :=
  E_pure (fun C hL kk => lv_l2i C.1 C.2.1 hd rfl (kk _ hL)) k
theorem E_i2b {G : GP} {md : MD} {f : Nat × Nat} {pc : Nat} {L st : List Value} {M : SMem} {P : Option Value → SMem → Prop} {x : Int32} (hd : decode md.2.2.1 pc = .ok (.i2b, 1)) (k : E G md f (pc + 1) L (.int x.toInt8.toInt32 :: st) M P) : E G md f pc L (.int x :: st) M P :=
  E_pure (fun C hL kk => lv_i2b C.1 C.2.1 hd rfl (kk _ hL)) k
theorem E_i2s {G : GP} {md : MD} {f : Nat × Nat} {pc : Nat} {L st : List Value} {M : SMem} {P : Option Value → SMem → Prop} {x : Int32} (hd : decode md.2.2.1 pc = .ok (.i2s, 1)) (k : E G md f (pc + 1) L (.int x.toInt16.toInt32 :: st) M P) : E G md f pc L (.int x :: st) M P :=
  E_pure (fun C hL kk => lv_i2s C.1 C.2.1 hd rfl (kk _ hL)) k
theorem E_dup {G : GP} {md : MD} {f : Nat × Nat} {pc : Nat} {L st : List Value} {M : SMem} {P : Option Value → SMem → Prop} {v : Value} (hv : v.category = 1) (hd : decode md.2.2.1 pc = .ok (.dup, 1)) (k : E G md f (pc + 1) L (v :: v :: st) M P) : E G md f pc L (v :: st) M P :=
  E_pure (fun C hL kk => lv_dup C.1 C.2.1 hd ((cv_cat' G v).trans hv) (kk _ hL)) k
theorem E_dup2 {G : GP} {md : MD} {f : Nat × Nat} {pc : Nat} {L st : List Value} {M : SMem} {P : Option Value → SMem → Prop} {v w : Value} (hv : v.category = 1) (hw : w.category = 1) (hd : decode md.2.2.1 pc = .ok (.dup2, 1)) (k : E G md f (pc + 1) L (v :: w :: v :: w :: st) M P) : E G md f pc L (v :: w :: st) M P :=
  E_pure (fun C hL kk => lv_dup2_11 C.1 C.2.1 hd ((cv_cat' G v).trans hv) ((cv_cat' G w).trans hw) (kk _ hL)) k
theorem E_pop {G : GP} {md : MD} {f : Nat × Nat} {pc : Nat} {L st : List Value} {M : SMem} {P : Option Value → SMem → Prop} {v : Value} (hv : v.category = 1) (hd : decode md.2.2.1 pc = .ok (.pop, 1)) (k : E G md f (pc + 1) L st M P) : E G md f pc L (v :: st) M P :=
  E_pure (fun C hL kk => lv_pop C.1 C.2.1 hd ((cv_cat' G v).trans hv) (kk _ hL)) k
theorem E_icmp_eq {G : GP} {md : MD} {f : Nat × Nat} {pc : Nat} {L st : List Value} {M : SMem} {P : Option Value → SMem → Prop} {x y : Int32} {off : Int} (tgt : Nat) (hd : decode md.2.2.1 pc = .ok (.if_icmp .eq off, 3)) (ht : (pc : Int) + off = (tgt : Int)) (kt : x = y → E G md f tgt L st M P) (kf : ¬ (x = y) → E G md f (pc + 3) L st M P) : E G md f pc L (.int y :: .int x :: st) M P := by
  by_cases h : x = y
  · exact E_pure (fun C hL kk => lv_icmp_eq C.1 C.2.1 hd ht (fun _ => kk _ hL) (fun z => absurd h z)) (kt h)
  · exact E_pure (fun C hL kk => lv_icmp_eq C.1 C.2.1 hd ht (fun z => absurd z h) (fun _ => kk _ hL)) (kf h)
theorem E_icmp_ne {G : GP} {md : MD} {f : Nat × Nat} {pc : Nat} {L st : List Value} {M : SMem} {P : Option Value → SMem → Prop} {x y : Int32} {off : Int} (tgt : Nat) (hd : decode md.2.2.1 pc = .ok (.if_icmp .ne off, 3)) (ht : (pc : Int) + off = (tgt : Int)) (kt : ¬ x = y → E G md f tgt L st M P) (kf : x = y → E G md f (pc + 3) L st M P) : E G md f pc L (.int y :: .int x :: st) M P := by
  by_cases h : x = y
  · exact E_pure (fun C hL kk => lv_icmp_ne C.1 C.2.1 hd ht (fun z => absurd h z) (fun _ => kk _ hL)) (kf h)
  · exact E_pure (fun C hL kk => lv_icmp_ne C.1 C.2.1 hd ht (fun _ => kk _ hL) (fun z => absurd z h)) (kt h)
theorem E_icmp_lt {G : GP} {md : MD} {f : Nat × Nat} {pc : Nat} {L st : List Value} {M : SMem} {P : Option Value → SMem → Prop} {x y : Int32} {off : Int} (tgt : Nat) (hd : decode md.2.2.1 pc = .ok (.if_icmp .lt off, 3)) (ht : (pc : Int) + off = (tgt : Int)) (kt : x < y → E G md f tgt L st M P) (kf : ¬ (x < y) → E G md f (pc + 3) L st M P) : E G md f pc L (.int y :: .int x :: st) M P := by
  by_cases h : x < y
  · exact E_pure (fun C hL kk => lv_icmp_lt C.1 C.2.1 hd ht (fun _ => kk _ hL) (fun z => absurd h z)) (kt h)
  · exact E_pure (fun C hL kk => lv_icmp_lt C.1 C.2.1 hd ht (fun z => absurd z h) (fun _ => kk _ hL)) (kf h)
theorem E_icmp_ge {G : GP} {md : MD} {f : Nat × Nat} {pc : Nat} {L st : List Value} {M : SMem} {P : Option Value → SMem → Prop} {x y : Int32} {off : Int} (tgt : Nat) (hd : decode md.2.2.1 pc = .ok (.if_icmp .ge off, 3)) (ht : (pc : Int) + off = (tgt : Int)) (kt : y ≤ x → E G md f tgt L st M P) (kf : ¬ (y ≤ x) → E G md f (pc + 3) L st M P) : E G md f pc L (.int y :: .int x :: st) M P := by
  by_cases h : y ≤ x
  · exact E_pure (fun C hL kk => lv_icmp_ge C.1 C.2.1 hd ht (fun _ => kk _ hL) (fun z => absurd h z)) (kt h)
  · exact E_pure (fun C hL kk => lv_icmp_ge C.1 C.2.1 hd ht (fun z => absurd z h) (fun _ => kk _ hL)) (kf h)
theorem E_icmp_gt {G : GP} {md : MD} {f : Nat × Nat} {pc : Nat} {L st : List Value} {M : SMem} {P : Option Value → SMem → Prop} {x y : Int32} {off : Int} (tgt : Nat) (hd : decode md.2.2.1 pc = .ok (.if_icmp .gt off, 3)) (ht : (pc : Int) + off = (tgt : Int)) (kt : y < x → E G md f tgt L st M P) (kf : ¬ (y < x) → E G md f (pc + 3) L st M P) : E G md f pc L (.int y :: .int x :: st) M P := by
  by_cases h : y < x
  · exact E_pure (fun C hL kk => lv_icmp_gt C.1 C.2.1 hd ht (fun _ => kk _ hL) (fun z => absurd h z)) (kt h)
  · exact E_pure (fun C hL kk => lv_icmp_gt C.1 C.2.1 hd ht (fun z => absurd z h) (fun _ => kk _ hL)) (kf h)
theorem E_icmp_le {G : GP} {md : MD} {f : Nat × Nat} {pc : Nat} {L st : List Value} {M : SMem} {P : Option Value → SMem → Prop} {x y : Int32} {off : Int} (tgt : Nat) (hd : decode md.2.2.1 pc = .ok (.if_icmp .le off, 3)) (ht : (pc : Int) + off = (tgt : Int)) (kt : x ≤ y → E G md f tgt L st M P) (kf : ¬ (x ≤ y) → E G md f (pc + 3) L st M P) : E G md f pc L (.int y :: .int x :: st) M P := by
  by_cases h : x ≤ y
  · exact E_pure (fun C hL kk => lv_icmp_le C.1 C.2.1 hd ht (fun _ => kk _ hL) (fun z => absurd h z)) (kt h)
  · exact E_pure (fun C hL kk => lv_icmp_le C.1 C.2.1 hd ht (fun z => absurd z h) (fun _ => kk _ hL)) (kf h)
theorem E_if_eq {G : GP} {md : MD} {f : Nat × Nat} {pc : Nat} {L st : List Value} {M : SMem} {P : Option Value → SMem → Prop} {x : Int32} {off : Int} (tgt : Nat) (hd : decode md.2.2.1 pc = .ok (.ifCond .eq off, 3)) (ht : (pc : Int) + off = (tgt : Int)) (kt : x = 0 → E G md f tgt L st M P) (kf : ¬ (x = 0) → E G md f (pc + 3) L st M P) : E G md f pc L (.int x :: st) M P := by
  by_cases h : x = 0
  · exact E_pure (fun C hL kk => lv_if_eq C.1 C.2.1 hd ht (fun _ => kk _ hL) (fun z => absurd h z)) (kt h)
  · exact E_pure (fun C hL kk => lv_if_eq C.1 C.2.1 hd ht (fun z => absurd z h) (fun _ => kk _ hL)) (kf h)
theorem E_if_ne {G : GP} {md : MD} {f : Nat × Nat} {pc : Nat} {L st : List Value} {M : SMem} {P : Option Value → SMem → Prop} {x : Int32} {off : Int} (tgt : Nat) (hd : decode md.2.2.1 pc = .ok (.ifCond .ne off, 3)) (ht : (pc : Int) + off = (tgt : Int)) (kt : ¬ x = 0 → E G md f tgt L st M P) (kf : x = 0 → E G md f (pc + 3) L st M P) : E G md f pc L (.int x :: st) M P := by
  by_cases h : x = 0
  · exact E_pure (fun C hL kk => lv_if_ne C.1 C.2.1 hd ht (fun z => absurd h z) (fun _ => kk _ hL)) (kf h)
  · exact E_pure (fun C hL kk => lv_if_ne C.1 C.2.1 hd ht (fun _ => kk _ hL) (fun z => absurd z h)) (kt h)
theorem E_if_lt {G : GP} {md : MD} {f : Nat × Nat} {pc : Nat} {L st : List Value} {M : SMem} {P : Option Value → SMem → Prop} {x : Int32} {off : Int} (tgt : Nat) (hd : decode md.2.2.1 pc = .ok (.ifCond .lt off, 3)) (ht : (pc : Int) + off = (tgt : Int)) (kt : x < 0 → E G md f tgt L st M P) (kf : ¬ (x < 0) → E G md f (pc + 3) L st M P) : E G md f pc L (.int x :: st) M P := by
  by_cases h : x < 0
  · exact E_pure (fun C hL kk => lv_if_lt C.1 C.2.1 hd ht (fun _ => kk _ hL) (fun z => absurd h z)) (kt h)
  · exact E_pure (fun C hL kk => lv_if_lt C.1 C.2.1 hd ht (fun z => absurd z h) (fun _ => kk _ hL)) (kf h)
theorem E_if_ge {G : GP} {md : MD} {f : Nat × Nat} {pc : Nat} {L st : List Value} {M : SMem} {P : Option Value → SMem → Prop} {x : Int32} {off : Int} (tgt : Nat) (hd : decode md.2.2.1 pc = .ok (.ifCond .ge off, 3)) (ht : (pc : Int) + off = (tgt : Int)) (kt : 0 ≤ x → E G md f tgt L st M P) (kf : ¬ (0 ≤ x) → E G md f (pc + 3) L st M P) : E G md f pc L (.int x :: st) M P := by
  by_cases h : 0 ≤ x
  · exact E_pure (fun C hL kk => lv_if_ge C.1 C.2.1 hd ht (fun _ => kk _ hL) (fun z => absurd h z)) (kt h)
  · exact E_pure (fun C hL kk => lv_if_ge C.1 C.2.1 hd ht (fun z => absurd z h) (fun _ => kk _ hL)) (kf h)
theorem E_if_gt {G : GP} {md : MD} {f : Nat × Nat} {pc : Nat} {L st : List Value} {M : SMem} {P : Option Value → SMem → Prop} {x : Int32} {off : Int} (tgt : Nat) (hd : decode md.2.2.1 pc = .ok (.ifCond .gt off, 3)) (ht : (pc : Int) + off = (tgt : Int)) (kt : 0 < x → E G md f tgt L st M P) (kf : ¬ (0 < x) → E G md f (pc + 3) L st M P) : E G md f pc L (.int x :: st) M P := by
  by_cases h : 0 < x
  · exact E_pure (fun C hL kk => lv_if_gt C.1 C.2.1 hd ht (fun _ => kk _ hL) (fun z => absurd h z)) (kt h)
  · exact E_pure (fun C hL kk => lv_if_gt C.1 C.2.1 hd ht (fun z => absurd z h) (fun _ => kk _ hL)) (kf h)
theorem E_if_le {G : GP} {md : MD} {f : Nat × Nat} {pc : Nat} {L st : List Value} {M : SMem} {P : Option Value → SMem → Prop} {x : Int32} {off : Int} (tgt : Nat) (hd : decode md.2.2.1 pc = .ok (.ifCond .le off, 3)) (ht : (pc : Int) + off = (tgt : Int)) (kt : x ≤ 0 → E G md f tgt L st M P) (kf : ¬ (x ≤ 0) → E G md f (pc + 3) L st M P) : E G md f pc L (.int x :: st) M P := by
  by_cases h : x ≤ 0
  · exact E_pure (fun C hL kk => lv_if_le C.1 C.2.1 hd ht (fun _ => kk _ hL) (fun z => absurd h z)) (kt h)
  · exact E_pure (fun C hL kk => lv_if_le C.1 C.2.1 hd ht (fun z => absurd z h) (fun _ => kk _ hL)) (kf h)
theorem E_goto {G : GP} {md : MD} {f : Nat × Nat} {pc : Nat} {L st : List Value} {M : SMem} {P : Option Value → SMem → Prop} {off : Int} (tgt : Nat) (ht : (pc : Int) + off = (tgt : Int)) (hd : decode md.2.2.1 pc = .ok (.goto off, 3)) (k : E G md f tgt L st M P) : E G md f pc L st M P :=
  E_pure (fun C hL kk => lv_goto C.1 C.2.1 hd ht (kk _ hL)) k
theorem E_ifnull {G : GP} {md : MD} {f : Nat × Nat} {pc : Nat} {L st : List Value} {M : SMem} {P : Option Value → SMem → Prop} {x : Nat} {off : Int} (hd : decode md.2.2.1 pc = .ok (.ifnull off, 3)) (k : E G md f (pc + 3) L st M P) : E G md f pc L (.ref x :: st) M P :=
  E_pure (fun C hL kk => lv_ifnull C.1 C.2.1 hd (kk _ hL)) k
theorem E_ifnullN {G : GP} {md : MD} {f : Nat × Nat} {pc : Nat} {L st : List Value} {M : SMem} {P : Option Value → SMem → Prop} {off : Int} (tgt : Nat) (ht : (pc : Int) + off = (tgt : Int)) (hd : decode md.2.2.1 pc = .ok (.ifnull off, 3)) (k : E G md f tgt L st M P) : E G md f pc L (.null :: st) M P :=
  E_pure (fun C hL kk => lv_ifnullN C.1 C.2.1 hd ht (kk _ hL)) k
theorem E_ifnonnull {G : GP} {md : MD} {f : Nat × Nat} {pc : Nat} {L st : List Value} {M : SMem} {P : Option Value → SMem → Prop} {x : Nat} {off : Int} (tgt : Nat) (ht : (pc : Int) + off = (tgt : Int)) (hd : decode md.2.2.1 pc = .ok (.ifnonnull off, 3)) (k : E G md f tgt L st M P) : E G md f pc L (.ref x :: st) M P :=
  E_pure (fun C hL kk => lv_ifnonnull C.1 C.2.1 hd ht (kk _ hL)) k
theorem E_ifnonnullN {G : GP} {md : MD} {f : Nat × Nat} {pc : Nat} {L st : List Value} {M : SMem} {P : Option Value → SMem → Prop} {off : Int} (hd : decode md.2.2.1 pc = .ok (.ifnonnull off, 3)) (k : E G md f (pc + 3) L st M P) : E G md f pc L (.null :: st) M P :=
  E_pure (fun C hL kk => lv_ifnonnullN C.1 C.2.1 hd (kk _ hL)) k
theorem E_tblIn {G : GP} {md : MD} {f : Nat × Nat} {pc : Nat} {L st : List Value} {M : SMem} {P : Option Value → SMem → Prop} {dflt lo hi : Int} {offs : Array Int} {len : Nat} {x : Int32} {off : Int} (tgt : Nat) (h1 : ¬ x.toInt < lo) (h2 : ¬ hi < x.toInt) (ho : offs[(x.toInt - lo).toNat]? = some off) (ht : (pc : Int) + off = (tgt : Int)) (hd : decode md.2.2.1 pc = .ok (.tableswitch dflt lo hi offs, len)) (k : E G md f tgt L st M P) : E G md f pc L (.int x :: st) M P :=
  E_pure (fun C hL kk => lv_tableIn C.1 C.2.1 hd h1 h2 ho ht (kk _ hL)) k
theorem E_tblOut {G : GP} {md : MD} {f : Nat × Nat} {pc : Nat} {L st : List Value} {M : SMem} {P : Option Value → SMem → Prop} {dflt lo hi : Int} {offs : Array Int} {len : Nat} {x : Int32} (tgt : Nat) (h : x.toInt < lo ∨ hi < x.toInt) (ht : (pc : Int) + dflt = (tgt : Int)) (hd : decode md.2.2.1 pc = .ok (.tableswitch dflt lo hi offs, len)) (k : E G md f tgt L st M P) : E G md f pc L (.int x :: st) M P :=
  E_pure (fun C hL kk => lv_tableOut C.1 C.2.1 hd h ht (kk _ hL)) k
theorem E_lkp {G : GP} {md : MD} {f : Nat × Nat} {pc : Nat} {L st : List Value} {M : SMem} {P : Option Value → SMem → Prop} {dflt : Int} {ps : Array (Int × Int)} {len : Nat} {x : Int32} {off : Int} (tgt : Nat) (hp : (ps.toList.zip (ps.toList.drop 1)).all (fun (a, next) => a.1 < next.1) = true) (ho : Op.lookupswitch.offset ps.toList dflt x.toInt = off) (ht : (pc : Int) + off = (tgt : Int)) (hd : decode md.2.2.1 pc = .ok (.lookupswitch dflt ps, len)) (k : E G md f tgt L st M P) : E G md f pc L (.int x :: st) M P :=
  E_pure (fun C hL kk => lv_lookup C.1 C.2.1 hd hp ho ht (kk _ hL)) k
