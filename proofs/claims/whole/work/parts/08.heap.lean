/-! ===== rules that read and write cells ===== -/
/-- what the tables say of a class of ours -/
theorem clok {ci : Nat} {C : String} {T : u_T} {N : Nat} (h : vwCl[ci]? = some (C, T, N)) : C = clsN ci ∧ (∀ w ∈ u_ws C T N, w ∈ BW) ∧ (∀ k, k < N → parseFieldDescriptor (T k).2.2.1 = some (clT ci k)) ∧ (∀ a, a < N → ∀ b, b < N → a ≠ b → (T a).2.1 ≠ (T b).2.1) := by
  match ci, h with
  | 0, h => cases h; exact ⟨rfl, uX0, tyX0_ok, nmX0⟩
  | 1, h => cases h; exact ⟨rfl, uX1, tyX1_ok, nmX1⟩
  | 2, h => cases h; exact ⟨rfl, uX2, tyX2_ok, nmX2⟩
  | 3, h => cases h; exact ⟨rfl, uX3, tyX3_ok, nmX3⟩
  | 4, h => cases h; exact ⟨rfl, uX4, tyX4_ok, nmX4⟩
  | 5, h => cases h; exact ⟨rfl, uX5, tyX5_ok, nmX5⟩
  | 6, h => cases h; exact ⟨rfl, uX6, tyX6_ok, nmX6⟩
  | 7, h => cases h; exact ⟨rfl, uX7, tyX7_ok, nmX7⟩
  | 8, h => cases h; exact ⟨rfl, uX8, tyX8_ok, nmX8⟩
  | 9, h => cases h; exact ⟨rfl, uX9, tyX9_ok, nmX9⟩
  | 10, h => cases h; exact ⟨rfl, uX10, tyX10_ok, nmX10⟩
  | 11, h => cases h; exact ⟨rfl, uX11, tyX11_ok, nmX11⟩
  | 12, h => cases h; exact ⟨rfl, uX12, tyX12_ok, nmX12⟩
  | n + 13, h => exact absurd h (by simp)
theorem slM_set {M : SMem} {a : Nat} {c c' : SC} (h : M[a]? = some c) (hs : slC c' = slC c) : slM (M.set a c') = slM M := by
  unfold slM
  induction M generalizing a with
  | nil => rfl
  | cons x xs ih =>
    cases a with
    | zero => cases h; simp [hs]
    | succ a => simp only [List.set_cons_succ, List.map_cons, List.sum_cons]; rw [ih h]
theorem E_getf {G : GP} {md : MD} {f : Nat × Nat} {pc : Nat} {L st : List Value} {M : SMem} {P : Option Value → SMem → Prop} {idx k a ci : Nat} {ref : String} {cs : List Nat} {fs : List Value} {v : Value} (hf : FOK md.1 idx k ref cs) (hm : M[a]? = some (.inr (ci, fs))) (hc : ci ∈ cs) (hv : fs[k]? = some v) (hd : decode md.2.2.1 pc = .ok (.getfield idx, 3)) (k' : E G md f (pc + 3) L (v :: st) M P) : E G md f pc L (.ref a :: st) M P := by
  obtain ⟨C, T, N, h1, h2, h3, h4⟩ := hf ci hc
  have hk := clok h1
  refine E_heap rfl rfl (fun Cx hP hS hL kk => ?_) k'
  refine va_get (fs := fs.map (cv G)) Cx.1 Cx.2.1 Cx.2.2.2.2.2.1 hk.2.1 Cx.2.2.2.2.1 Cx.2.2.2.2.2.2.1.1 hP a (wsM_at G hm) h1 k h2 (Cx.2.2.2.2.2.1 _ h3) (fun x hx => ?_) (v := cv G v) (by rw [List.getElem?_map, hv]; rfl) hd (kk _ _ hP hS)
  rcases h4 with rfl | h4
  · exact hx
  · exact u_same (Cx.2.2.2.2.2.1 _ h4) x hx
def finF (ci k : Nat) : Bool := ((vwCl[ci]?).map fun q => (q.2.1 k).2.2.2).getD true
def dclF (ci k : Nat) : String := ((vwCl[ci]?).map fun q => (q.2.1 k).1).getD ""
theorem E_putf {G : GP} {md : MD} {f : Nat × Nat} {pc : Nat} {L st : List Value} {M : SMem} {P : Option Value → SMem → Prop} {idx k a ci : Nat} {ref : String} {cs : List Nat} {fs : List Value} {v : Value} (hf : FOK md.1 idx k ref cs) (hm : M[a]? = some (.inr (ci, fs))) (hc : ci ∈ cs) (hl : Nat.blt k fs.length = true) (hfin : finF ci k = false) (hn : narrow (clT ci k) (cv G v) = cv G v) (hfit : fits (clT ci k) (cv G v) = true) (hd : decode md.2.2.1 pc = .ok (.putfield idx, 3)) (k' : E G md f (pc + 3) L st (M.set a (.inr (ci, fs.set k v))) P) : E G md f pc L (v :: .ref a :: st) M P := by
  obtain ⟨C, T, N, h1, h2, h3, h4⟩ := hf ci hc
  have hk := clok h1
  have hfin' : (T k).2.2.2 = false := by simpa [finF, h1] using hfin
  have hmm : M.set a (.inr (ci, fs.set k v)) = M.set a (.inr (ci, fs.set k v)) := rfl
  refine E_heap (M2 := M.set a (.inr (ci, fs.set k v))) (by simp) (slM_set hm rfl) (fun Cx hP hS hL kk => ?_) k'
  refine va_put (fs := fs.map (cv G)) Cx.1 Cx.2.1 Cx.2.2.2.2.2.1 hk.2.1 (clT ci) hk.2.2.1 hk.2.2.2 Cx.2.2.2.2.1 Cx.2.2.2.2.2.2.1.1 hP (wsM_D G M) hS a (wsM_at G hm) h1 k h2 (Cx.2.2.2.2.2.1 _ h3) (fun x hx => ?_) hfin' (hk.2.2.1 k h2) hn hfit (by simpa using Nat.blt_eq.mp hl) hd (fun H1 locs1 hP1 _ hS1 => kk H1 locs1 ?_ hS1)
  · rcases h4 with rfl | h4
    · exact hx
    · exact u_same (Cx.2.2.2.2.2.1 _ h4) x hx
  · rw [wsM_set]
    simpa [ccE, List.map_set] using hP1
theorem E_putF {G : GP} {md : MD} {f : Nat × Nat} {pc : Nat} {L st : List Value} {M : SMem} {P : Option Value → SMem → Prop} {idx k a ci : Nat} {ref : String} {cs : List Nat} {fs : List Value} {v : Value} (hf : FOK md.1 idx k ref cs) (hm : M[a]? = some (.inr (ci, fs))) (hc : ci ∈ cs) (hl : Nat.blt k fs.length = true) (hfin : finF ci k = true) (hin : md.2.1.name = "<init>") (hdc : dclF ci k = clsN md.1) (hn : narrow (clT ci k) (cv G v) = cv G v) (hfit : fits (clT ci k) (cv G v) = true) (hd : decode md.2.2.1 pc = .ok (.putfield idx, 3)) (k' : E G md f (pc + 3) L st (M.set a (.inr (ci, fs.set k v))) P) : E G md f pc L (v :: .ref a :: st) M P := by
  obtain ⟨C, T, N, h1, h2, h3, h4⟩ := hf ci hc
  have hk := clok h1
  have hfin' : (T k).2.2.2 = true := by simpa [finF, h1] using hfin
  have hdc' : (T k).1 = clsN md.1 := by simpa [dclF, h1] using hdc
  refine E_heap (M2 := M.set a (.inr (ci, fs.set k v))) (by simp) (slM_set hm rfl) (fun Cx hP hS hL kk => ?_) k'
  refine va_putF (fs := fs.map (cv G)) Cx.1 Cx.2.1 Cx.2.2.2.2.2.1 hk.2.1 (clT ci) hk.2.2.1 hk.2.2.2 Cx.2.2.2.2.1 Cx.2.2.2.2.2.2.1.1 hP (wsM_D G M) hS a (wsM_at G hm) h1 k h2 (Cx.2.2.2.2.2.1 _ h3) (fun x hx => ?_) hfin' (Cx.2.2.2.2.2.2.2.2.1.trans hin) hdc' (hk.2.2.1 k h2) hn hfit (by simpa using Nat.blt_eq.mp hl) hd (fun H1 locs1 hP1 _ hS1 => kk H1 locs1 ?_ hS1)
  · rcases h4 with rfl | h4
    · exact hx
    · exact u_same (Cx.2.2.2.2.2.1 _ h4) x hx
  · rw [wsM_set]
    simpa [ccE, List.map_set] using hP1
section ARR
variable {G : GP} {md : MD} {f : Nat × Nat} {pc : Nat} {L st : List Value} {M : SMem} {P : Option Value → SMem → Prop} {a n j : Nat} {x : Int32}
theorem in_nI {j n : Nat} {i : Int32} (hi : i = nI j) (hj : j < n) (hn : n < 2 ^ 31) : vp_in i n := by
  rw [hi]
  exact vp_in_nI hj hn
theorem cl_nI {j n : Nat} {i : Int32} (hi : i = nI j) (hj : j < n) (hn : n < 2 ^ 31) : i.toNatClampNeg = j := by
  rw [hi]
  exact nI_clamp (by omega)
theorem E_iaload {i : Int32} {g : Nat → Int32} (hm : M[a]? = some (.inl (0, n, .inl g))) (hi : i = nI j) (hj : j < n) (hn : n < 2 ^ 31) (hd : decode md.2.2.1 pc = .ok (.iaload, 1)) (k : E G md f (pc + 1) L (.int (g j) :: st) M P) : E G md f pc L (.int i :: .ref a :: st) M P := by
  refine E_heap rfl rfl (fun Cx hP hS hL kk => ?_) k
  refine va_iald Cx.1 Cx.2.1 Cx.2.2.2.2.2.2.1.1 hP a 0 (wsM_at G hm) (gT_at G (t := 0) (by decide)) (in_nI hi hj hn) hd ?_
  rw [cl_nI hi hj hn]
  exact kk _ _ hP hS
theorem E_laload {i : Int32} {g : Nat → Int64} (hm : M[a]? = some (.inl (1, n, .inr (.inl g)))) (hi : i = nI j) (hj : j < n) (hn : n < 2 ^ 31) (hd : decode md.2.2.1 pc = .ok (.laload, 1)) (k : E G md f (pc + 1) L (.long (g j) :: st) M P) : E G md f pc L (.int i :: .ref a :: st) M P := by
  refine E_heap rfl rfl (fun Cx hP hS hL kk => ?_) k
  refine va_lald Cx.1 Cx.2.1 Cx.2.2.2.2.2.2.1.1 hP a 1 (wsM_at G hm) (gT_at G (t := 1) (by decide)) (in_nI hi hj hn) hd ?_
  rw [cl_nI hi hj hn]
  exact kk _ _ hP hS
theorem E_iastore {i : Int32} {g : Nat → Int32} (hm : M[a]? = some (.inl (0, n, .inl g))) (hi : i = nI j) (hj : j < n) (hn : n < 2 ^ 31) (hd : decode md.2.2.1 pc = .ok (.iastore, 1)) (k : E G md f (pc + 1) L st (M.set a (.inl (0, n, .inl (upd g j x)))) P) : E G md f pc L (.int x :: .int i :: .ref a :: st) M P := by
  refine E_heap (M2 := M.set a (.inl (0, n, .inl (upd g j x)))) (by simp) (slM_set hm rfl) (fun Cx hP hS hL kk => ?_) k
  refine va_iast Cx.1 Cx.2.1 Cx.2.2.2.2.2.2.1.1 hP (wsM_D G M) hS a 0 (wsM_at G hm) (gT_at G (t := 0) (by decide)) (in_nI hi hj hn) hd (fun H1 locs1 hP1 _ hS1 => kk H1 locs1 ?_ hS1)
  rw [wsM_set]
  rw [cl_nI hi hj hn] at hP1
  exact hP1
theorem E_lastore {i : Int32} {y : Int64} {g : Nat → Int64} (hm : M[a]? = some (.inl (1, n, .inr (.inl g)))) (hi : i = nI j) (hj : j < n) (hn : n < 2 ^ 31) (hd : decode md.2.2.1 pc = .ok (.lastore, 1)) (k : E G md f (pc + 1) L st (M.set a (.inl (1, n, .inr (.inl (vp_updL g j y))))) P) : E G md f pc L (.long y :: .int i :: .ref a :: st) M P := by
  refine E_heap (M2 := M.set a (.inl (1, n, .inr (.inl (vp_updL g j y))))) (by simp) (slM_set hm rfl) (fun Cx hP hS hL kk => ?_) k
  refine va_last Cx.1 Cx.2.1 Cx.2.2.2.2.2.2.1.1 hP (wsM_D G M) hS a 1 (wsM_at G hm) (gT_at G (t := 1) (by decide)) (in_nI hi hj hn) hd (fun H1 locs1 hP1 _ hS1 => kk H1 locs1 ?_ hS1)
  rw [wsM_set]
  rw [cl_nI hi hj hn] at hP1
  exact hP1
theorem E_aaload {i : Int32} {t : Nat} {C : String} {g : Nat → Option Nat} (hm : M[a]? = some (.inl (t, n, .inr (.inr (.inr (.inr g)))))) (ht : t < 6) (hC : aty t = .object C) (hi : i = nI j) (hj : j < n) (hn : n < 2 ^ 31) (hd : decode md.2.2.1 pc = .ok (.aaload, 1)) (k : E G md f (pc + 1) L (va_rf (g j) :: st) M P) : E G md f pc L (.int i :: .ref a :: st) M P := by
  refine E_heap rfl rfl (fun Cx hP hS hL kk => ?_) k
  have hz := gT_at G ht
  rw [hC] at hz
  refine va_aldq (f := fun i => (g i).map (fun k => gB G + k)) Cx.1 Cx.2.1 Cx.2.2.2.2.2.2.1.1 hP a t (wsM_at G hm) hz (in_nI hi hj hn) hd ?_
  rw [cl_nI hi hj hn]
  have hq := kk _ _ hP hS
  cases hg : g j with
  | none => rw [hg] at hq; exact hq
  | some y => rw [hg] at hq; exact hq
theorem E_aastore {i : Int32} {t v ci : Nat} {fs : List Value} {g : Nat → Option Nat} (hm : M[a]? = some (.inl (t, n, .inr (.inr (.inr (.inr g)))))) (ht : t < 6) (hC : aty t = .object (clsN ci)) (hv : M[v]? = some (.inr (ci, fs))) (hi : i = nI j) (hj : j < n) (hn : n < 2 ^ 31) (hd : decode md.2.2.1 pc = .ok (.aastore, 1)) (k : E G md f (pc + 1) L st (M.set a (.inl (t, n, .inr (.inr (.inr (.inr (va_up g j (some v)))))))) P) : E G md f pc L (.ref v :: .int i :: .ref a :: st) M P := by
  refine E_heap (M2 := M.set a (.inl (t, n, .inr (.inr (.inr (.inr (va_up g j (some v)))))))) (by simp) (slM_set hm rfl) (fun Cx hP hS hL kk => ?_) k
  have hz := gT_at G ht
  rw [hC] at hz
  obtain ⟨r, hr, -⟩ := hP v _ (wsM_at G hv)
  have h1 : r.1 = clsN ci := by
    obtain ⟨C, T, N⟩ := r
    exact (clok hr).1
  rw [← h1] at hz
  refine va_astq (f := fun i => (g i).map (fun k => gB G + k)) (vs := fs.map (cv G)) Cx.1 Cx.2.1 Cx.2.2.2.2.2.2.1.1 hP (wsM_D G M) hS a t v ci (wsM_at G hm) hz (wsM_at G hv) hr (in_nI hi hj hn) hd (fun H1 locs1 hP1 _ hS1 => kk H1 locs1 ?_ hS1)
  rw [wsM_set]
  rw [cl_nI hi hj hn] at hP1
  have e : va_up (fun i => (g i).map (fun k => gB G + k)) j (some (gB G + v)) = fun i => (va_up g j (some v) i).map (fun k => gB G + k) := by
    funext q
    unfold va_up
    by_cases h : q = j <;> simp [h]
  rw [e] at hP1
  exact hP1
theorem E_aastoreO {i : Int32} {t v ci : Nat} {C : String} {fs : List Value} {g : Nat → Option Nat} (hm : M[a]? = some (.inl (t, n, .inr (.inr (.inr (.inr g)))))) (ht : t < 6) (hC : aty t = .object C) (hcs : (clsN ci, C) ∈ castW) (hv : M[v]? = some (.inr (ci, fs))) (hi : i = nI j) (hj : j < n) (hn : n < 2 ^ 31) (hd : decode md.2.2.1 pc = .ok (.aastore, 1)) (k : E G md f (pc + 1) L st (M.set a (.inl (t, n, .inr (.inr (.inr (.inr (va_up g j (some v)))))))) P) : E G md f pc L (.ref v :: .int i :: .ref a :: st) M P := by
  refine E_heap (M2 := M.set a (.inl (t, n, .inr (.inr (.inr (.inr (va_up g j (some v)))))))) (by simp) (slM_set hm rfl) (fun Cx hP hS hL kk => ?_) k
  have hz := gT_at G ht
  rw [hC] at hz
  obtain ⟨r, hr, -⟩ := hP v _ (wsM_at G hv)
  have h1 : r.1 = clsN ci := by
    obtain ⟨C, T, N⟩ := r
    exact (clok hr).1
  refine va_astqO (E := C) (f := fun i => (g i).map (fun k => gB G + k)) (vs := fs.map (cv G)) Cx.1 Cx.2.1 Cx.2.2.2.2.2.2.1.1 hP (wsM_D G M) hS a t v ci (wsM_at G hm) hz (by rw [h1]; exact Cx.2.2.2.2.2.2.1.2.2.1 _ hcs) (wsM_at G hv) hr (in_nI hi hj hn) hd (fun H1 locs1 hP1 _ hS1 => kk H1 locs1 ?_ hS1)
  rw [wsM_set]
  rw [cl_nI hi hj hn] at hP1
  have e : va_up (fun i => (g i).map (fun k => gB G + k)) j (some (gB G + v)) = fun i => (va_up g j (some v) i).map (fun k => gB G + k) := by
    funext q
    unfold va_up
    by_cases h : q = j <;> simp [h]
  rw [e] at hP1
  exact hP1
theorem E_alen {t : Nat} {y : vp_A} {v : Int32} (hm : M[a]? = some (.inl (t, y))) (ht : t < 6) (hv : nI y.1 = v) (hd : decode md.2.2.1 pc = .ok (.arraylength, 1)) (k : E G md f (pc + 1) L (.int v :: st) M P) : E G md f pc L (.ref a :: st) M P := by
  refine E_heap rfl rfl (fun Cx hP hS hL kk => ?_) k
  refine va_alen Cx.1 Cx.2.1 Cx.2.2.2.2.2.2.1.1 hP a t (wsM_at G hm) (gT_at G ht) (v := v) ?_ hd (kk _ _ hP hS)
  rw [← hv]
  obtain ⟨n, g | g | g | g | g⟩ := y <;> rfl
/-- the script, that only the law's own text reads -/
theorem E_sload {i : Int32} {q : Nat} (h13 : md.1 = 13) (hi : i = nI j) (hj : j < gN G) (hn : gN G < 2 ^ 31) (hd : decode md.2.2.1 pc = .ok (.iaload, 1)) (k : E G md f (pc + 1) L (.int (gX G j) :: st) M P) : E G md f pc L (.int i :: .retAddr q :: st) M P := by
  refine E_heap rfl rfl (fun Cx hP hS hL kk => ?_) k
  obtain ⟨hX, hlt⟩ := Cx.2.2.2.2.2.2.2.2.2.2 h13
  refine va_sld Cx.1 Cx.2.1 hX (by have := Cx.2.2.2.2.2.2.2.2.2.1; omega) (by omega) hS (in_nI hi hj hn) hd ?_
  rw [cl_nI hi hj hn]
  exact kk _ _ hP hS
theorem E_slen {q : Nat} (h13 : md.1 = 13) (hd : decode md.2.2.1 pc = .ok (.arraylength, 1)) (k : E G md f (pc + 1) L (.int (nI (gN G)) :: st) M P) : E G md f pc L (.retAddr q :: st) M P := by
  refine E_heap rfl rfl (fun Cx hP hS hL kk => ?_) k
  obtain ⟨hX, hlt⟩ := Cx.2.2.2.2.2.2.2.2.2.2 h13
  exact va_slen Cx.1 Cx.2.1 hX (by have := Cx.2.2.2.2.2.2.2.2.2.1; omega) (by omega) hS hd (kk _ _ hP hS)
end ARR
theorem HR_low {G : GP} {M : SMem} {s : State} {H : Heap} {locs : List Loc} {cells : Nat} (hb : gB G ≤ s.heap.size) (h : HR G M s H locs cells) : gB G + M.length ≤ H.size := by
  by_cases hz : M.length = 0
  · have h1 := h.1
    have h2 := h.2.2.1
    omega
  · have hl : M.length - 1 < M.length := by omega
    have h1 := (h.2.1 (M.length - 1) _ (wsM_at G (List.getElem?_eq_getElem hl))).lt
    have h2 : gB G + (M.length - 1) < H.size := h1
    omega
theorem HR_size {G : GP} {M : SMem} {s : State} {H : Heap} {locs : List Loc} {cells : Nat} (hb : gB G ≤ s.heap.size) (h : HR G M s H locs cells) (hu : H.size ≤ s.heap.size + cells) : H.size = gB G + M.length := by
  have h1 := HR_low hb h
  have h2 := h.1
  omega
theorem W_size {p : Program} {l : Launch} {e : Env} {R : Room} {s : State} {m : MethodId} {args : Array Value} {below : List Frame} {meth : Method} {c : Code} {H : Heap} {locs : List Loc} {cells slots : Nat} {Q : State → Prop} {g : JFrame} (h : H.size ≤ s.heap.size + cells → W p l e R s m args below meth c H locs cells slots Q g) : W p l e R s m args below meth c H locs cells slots Q g :=
  fun T hT X => h (by rw [← hT]; exact X.heapSize) T hT X
