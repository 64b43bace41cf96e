/-! ===== rules for the JDK's own members that are reached, and instanceof ===== -/
section MORE
variable {G : GP} {md : MD} {f : Nat × Nat} {pc : Nat} {L st : List Value} {M : SMem} {P : Option Value → SMem → Prop}
theorem E_pureR {pc2 : Nat} {L2 st2 : List Value} (h : ∀ {p : Program} {e : Env} {R : Room} {s : State} {m : MethodId} {args : Array Value} {below : List Frame} {meth : Method} {c : Code} {H : Heap} {locs : List Loc} {cells slots : Nat} {Q : State → Prop} {ls : Array Slot}, Cx G md f p R s m args meth c → LR G md.2.2.2.1 ls L → cells ≤ R.cells → slots ≤ R.slots → (∀ ls2 : Array Slot, LR G md.2.2.2.1 ls2 L2 → W p (gL G) e R s m args below meth c H locs cells slots Q (F0 m pc2 ls2 (st2.map (cv G)))) → W p (gL G) e R s m args below meth c H locs cells slots Q (F0 m pc ls (st.map (cv G))))
    (k : E G md f pc2 L2 st2 M P) : E G md f pc L st M P := by
  obtain ⟨rv, M', hP, h1, h2, hk⟩ := k
  refine ⟨rv, M', hP, h1, h2, ?_⟩
  intro p e R s m args below meth c H locs cells slots Q ls C hH hL hc hs kk
  exact h C hL (by omega) (by omega) (fun ls2 hL2 => hk C hH hL2 hc hs kk)
theorem E_mmax {idx : Nat} {x y : Int32} (hw : [Cond.methodLink (clsN md.1) idx Lib.Math.max.name, .static Lib.Math.max.name, .initialized "java/lang/Math", .code Lib.Math.max.name Lib.Math.max.code 2 (some .int)].all inB = true) (hf : 1 ≤ f.1 ∧ 22 ≤ f.2) (hst : (st.map fun v => v.category).sum ≤ 8) (hd : decode md.2.2.1 pc = .ok (.invokestatic idx, 3)) (k : E G md f (pc + 3) L (.int (if x < y then y else x) :: st) M P) : E G md f pc L (.int y :: .int x :: st) M P := by
  have ok := inBs_ok hw
  refine E_pureR (fun C hL hc hs kk => ?_) k
  exact va_mmax C.1 C.2.1 (C.2.2.1.trans hL.2.1.symm) C.2.2.2.2.1 (C.2.2.2.2.2.1 _ (ok _ (by simp))) (C.2.2.2.2.2.1 _ (ok _ (by simp))) (C.2.2.2.2.2.1 _ (ok _ (by simp))) (C.2.2.2.2.2.1 _ (ok _ (by simp))) (Nat.le_trans hf.1 C.2.2.2.2.2.2.2.1.1) (by have := C.2.2.2.2.2.2.2.1.2; have := cat_map G st; omega) hc hs hd (kk _ hL)
theorem E_mmin {idx : Nat} {x y : Int32} (hw : [Cond.methodLink (clsN md.1) idx Lib.Math.min.name, .static Lib.Math.min.name, .initialized "java/lang/Math", .code Lib.Math.min.name Lib.Math.min.code 2 (some .int)].all inB = true) (hf : 1 ≤ f.1 ∧ 22 ≤ f.2) (hst : (st.map fun v => v.category).sum ≤ 8) (hd : decode md.2.2.1 pc = .ok (.invokestatic idx, 3)) (k : E G md f (pc + 3) L (.int (if y < x then y else x) :: st) M P) : E G md f pc L (.int y :: .int x :: st) M P := by
  have ok := inBs_ok hw
  refine E_pureR (fun C hL hc hs kk => ?_) k
  exact va_mmin C.1 C.2.1 (C.2.2.1.trans hL.2.1.symm) C.2.2.2.2.1 (C.2.2.2.2.2.1 _ (ok _ (by simp))) (C.2.2.2.2.2.1 _ (ok _ (by simp))) (C.2.2.2.2.2.1 _ (ok _ (by simp))) (C.2.2.2.2.2.1 _ (ok _ (by simp))) (Nat.le_trans hf.1 C.2.2.2.2.2.2.2.1.1) (by have := C.2.2.2.2.2.2.2.1.2; have := cat_map G st; omega) hc hs hd (kk _ hL)
theorem E_mminL {idx : Nat} {x y : Int64} (hw : [Cond.methodLink (clsN md.1) idx Lib.MathLoose.min_long.x, .static Lib.MathLoose.min_long.x, .initialized "java/lang/Math", .code Lib.MathLoose.min_long.x Lib.MathLoose.min_long.code 4 (some .long)].all inB = true) (hf : 1 ≤ f.1 ∧ 24 ≤ f.2) (hst : (st.map fun v => v.category).sum ≤ 8) (hd : decode md.2.2.1 pc = .ok (.invokestatic idx, 3)) (k : E G md f (pc + 3) L (.long (if y < x then y else x) :: st) M P) : E G md f pc L (.long y :: .long x :: st) M P := by
  have ok := inBs_ok hw
  refine E_pureR (fun C hL hc hs kk => ?_) k
  exact va_mmin_long C.1 C.2.1 (C.2.2.1.trans hL.2.1.symm) C.2.2.2.2.1 (C.2.2.2.2.2.1 _ (ok _ (by simp))) (C.2.2.2.2.2.1 _ (ok _ (by simp))) (C.2.2.2.2.2.1 _ (ok _ (by simp))) (C.2.2.2.2.2.1 _ (ok _ (by simp))) (Nat.le_trans hf.1 C.2.2.2.2.2.2.2.1.1) (by have := C.2.2.2.2.2.2.2.1.2; have := cat_map G st; omega) hc hs hd (kk _ hL)
def copyW (own idx : Nat) : List Cond := [Cond.methodLink (clsN own) idx arraycopyName, .native arraycopyName, .static arraycopyName, .initialized "java/lang/System"]
theorem E_copyI {idx a0 a n0 n1 : Nat} {sp dp n : Int32} {g0 g1 : Nat → Int32} {spN dpN nN : Nat} (hw : (copyW md.1 idx).all inB = true) (hm0 : M[a0]? = some (.inl (0, n0, .inl g0))) (hm1 : M[a]? = some (.inl (0, n1, .inl g1))) (h1 : sp = nI spN) (h2 : dp = nI dpN) (h3 : n = nI nN) (h4 : spN + nN ≤ n0) (h5 : dpN + nN ≤ n1) (h6 : n0 < 2 ^ 20 ∧ n1 < 2 ^ 20) (hf : 1 ≤ f.1 ∧ 8 + (nativeFrameWords "java/lang/System" "arraycopy" 5 + 11) ≤ f.2) (hst : (st.map fun v => v.category).sum ≤ 8) (hd : decode md.2.2.1 pc = .ok (.invokestatic idx, 3)) (k : E G md f (pc + 3) L st (M.set a (.inl (0, n1, .inl (va_cpy g0 g1 spN dpN nN)))) P) : E G md f pc L (.int n :: .int dp :: .ref a :: .int sp :: .ref a0 :: st) M P := by
  have ok := inBs_ok hw
  refine E_heap (M2 := M.set a (.inl (0, n1, .inl (va_cpy g0 g1 spN dpN nN)))) (by simp) (slM_set hm1 rfl) (fun C hP hS hL kk => ?_) k
  have c1 : sp.toNatClampNeg = spN := by rw [h1]; exact nI_clamp (by omega)
  have c2 : dp.toNatClampNeg = dpN := by rw [h2]; exact nI_clamp (by omega)
  have c3 : n.toNatClampNeg = nN := by rw [h3]; exact nI_clamp (by omega)
  refine va_copyi C.1 C.2.1 (C.2.2.1.trans hL.2.1.symm) C.2.2.2.2.1 (C.2.2.2.2.2.1 _ (ok _ (by simp [copyW]))) (C.2.2.2.2.2.1 _ (ok _ (by simp [copyW]))) (C.2.2.2.2.2.1 _ (ok _ (by simp [copyW]))) (C.2.2.2.2.2.1 _ (ok _ (by simp [copyW]))) C.2.2.2.2.2.2.1.1 hP (wsM_D G M) hS a0 a 0 0 (wsM_at G hm0) (wsM_at G hm1) (gT_at G (t := 0) (by decide)) (gT_at G (t := 0) (by decide)) rfl (by rw [h1]; exact nI_pos (by omega)) (by rw [h2]; exact nI_pos (by omega)) (by rw [h3]; exact nI_pos (by omega)) (by omega) (by omega) (fun i _ => rfl) (Nat.le_trans hf.1 C.2.2.2.2.2.2.2.1.1) (by have := C.2.2.2.2.2.2.2.1.2; have := cat_map G st; omega) hd (fun H1 locs1 hP1 _ hS1 => kk H1 locs1 ?_ hS1)
  rw [wsM_set]
  rw [c1, c2, c3] at hP1
  exact hP1
theorem E_copyL {idx a0 a n0 n1 : Nat} {sp dp n : Int32} {g0 g1 : Nat → Int64} {spN dpN nN : Nat} (hw : (copyW md.1 idx).all inB = true) (hm0 : M[a0]? = some (.inl (1, n0, .inr (.inl g0)))) (hm1 : M[a]? = some (.inl (1, n1, .inr (.inl g1)))) (h1 : sp = nI spN) (h2 : dp = nI dpN) (h3 : n = nI nN) (h4 : spN + nN ≤ n0) (h5 : dpN + nN ≤ n1) (h6 : n0 < 2 ^ 20 ∧ n1 < 2 ^ 20) (hf : 1 ≤ f.1 ∧ 8 + (nativeFrameWords "java/lang/System" "arraycopy" 5 + 11) ≤ f.2) (hst : (st.map fun v => v.category).sum ≤ 8) (hd : decode md.2.2.1 pc = .ok (.invokestatic idx, 3)) (k : E G md f (pc + 3) L st (M.set a (.inl (1, n1, .inr (.inl (va_cpy g0 g1 spN dpN nN))))) P) : E G md f pc L (.int n :: .int dp :: .ref a :: .int sp :: .ref a0 :: st) M P := by
  have ok := inBs_ok hw
  refine E_heap (M2 := M.set a (.inl (1, n1, .inr (.inl (va_cpy g0 g1 spN dpN nN))))) (by simp) (slM_set hm1 rfl) (fun C hP hS hL kk => ?_) k
  have c1 : sp.toNatClampNeg = spN := by rw [h1]; exact nI_clamp (by omega)
  have c2 : dp.toNatClampNeg = dpN := by rw [h2]; exact nI_clamp (by omega)
  have c3 : n.toNatClampNeg = nN := by rw [h3]; exact nI_clamp (by omega)
  refine va_copyl C.1 C.2.1 (C.2.2.1.trans hL.2.1.symm) C.2.2.2.2.1 (C.2.2.2.2.2.1 _ (ok _ (by simp [copyW]))) (C.2.2.2.2.2.1 _ (ok _ (by simp [copyW]))) (C.2.2.2.2.2.1 _ (ok _ (by simp [copyW]))) (C.2.2.2.2.2.1 _ (ok _ (by simp [copyW]))) C.2.2.2.2.2.2.1.1 hP (wsM_D G M) hS a0 a 1 1 (wsM_at G hm0) (wsM_at G hm1) (gT_at G (t := 1) (by decide)) (gT_at G (t := 1) (by decide)) rfl (by rw [h1]; exact nI_pos (by omega)) (by rw [h2]; exact nI_pos (by omega)) (by rw [h3]; exact nI_pos (by omega)) (by omega) (by omega) (fun i _ => rfl) (Nat.le_trans hf.1 C.2.2.2.2.2.2.2.1.1) (by have := C.2.2.2.2.2.2.2.1.2; have := cat_map G st; omega) hd (fun H1 locs1 hP1 _ hS1 => kk H1 locs1 ?_ hS1)
  rw [wsM_set]
  rw [c1, c2, c3] at hP1
  exact hP1
/-- instanceof: the object's class is that class, stands under it, or doesn't -/
theorem E_inst {idx a ci cj : Nat} {fs : List Value} {Cn : String} {r : Int32} (hl : Cond.classLink (clsN md.1) idx Cn ∈ BW) (hm : M[a]? = some (.inr (ci, fs))) (hr : (Cn = clsN ci ∧ r = 1) ∨ ((clsN ci, Cn) ∈ castW ∧ r = 1) ∨ ((clsN ci, Cn) ∈ ncW ∧ r = 0)) (hd : decode md.2.2.1 pc = .ok (.instanceof idx, 3)) (k : E G md f (pc + 3) L (.int r :: st) M P) : E G md f pc L (.ref a :: st) M P := by
  refine E_heap rfl rfl (fun C hP hS hL kk => ?_) k
  have K := C.2.2.2.2.2.2.1
  obtain ⟨q, hq, -⟩ := hP a _ (wsM_at G hm)
  have hrn : q.1 = clsN ci := by
    obtain ⟨C0, T0, N0⟩ := q
    exact (clok hq).1
  have hrecv := va_recv K.1 hP hq (wsM_at G hm)
  rw [hrn] at hrecv
  rcases hr with ⟨rfl, rfl⟩ | ⟨h1, rfl⟩ | ⟨h1, rfl⟩
  · exact va_instS C.1 C.2.1 C.2.2.2.2.1 (C.2.2.2.2.2.1 _ hl) (hrn ▸ (K.1.1 ci q hq).2) hrecv hd (kk _ _ hP hS)
  · exact va_instY C.1 C.2.1 C.2.2.2.2.1 (C.2.2.2.2.2.1 _ hl) (K.2.2.1 _ h1) hrecv hd (kk _ _ hP hS)
  · exact va_instNo C.1 C.2.1 C.2.2.2.2.1 (C.2.2.2.2.2.1 _ hl) (K.2.2.2.1 _ h1) hrecv hd (kk _ _ hP hS)
end MORE
