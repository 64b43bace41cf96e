/-! ===== the judgement E: a method's text walked over a list of cells, once for all ===== -/
abbrev SC : Type := (Nat × vp_A) ⊕ (Nat × List Value)
abbrev SMem : Type := List SC
/-- a method: its own class's number, its name, its bytes, its locals, its answer's type -/
abbrev MD : Type := Nat × MethodName × ByteArray × Nat × Option FieldType
/-- what a whole run holds fixed: launch, classes and slots, array classes, first new address, script's address, length, ints -/
abbrev GP : Type := Launch × va_G × (Nat → ClassId) × Nat × Nat × Nat × (Nat → Int32)
abbrev gL (G : GP) : Launch := G.1
abbrev gD (G : GP) : va_G := G.2.1
abbrev gA (G : GP) : Nat → ClassId := G.2.2.1
abbrev gB (G : GP) : Nat := G.2.2.2.1
abbrev gS (G : GP) : Nat := G.2.2.2.2.1
abbrev gN (G : GP) : Nat := G.2.2.2.2.2.1
abbrev gX (G : GP) : Nat → Int32 := G.2.2.2.2.2.2
def BW : List Cond := lw_tbl.filter goodWord
theorem bw_good : ∀ w ∈ BW, goodWord w = true := fun w h => (List.mem_filter.mp h).2
theorem bw_in : ∀ w ∈ BW, w ∈ lw_tbl := fun w h => (List.mem_filter.mp h).1
theorem goodIn_bw {ws : List Cond} (h : ∀ w ∈ ws, w ∈ BW) : GoodIn BW ws := fun w hw => ⟨h w hw, good_of_word (bw_good w (h w hw))⟩
def clsN (k : Nat) : String := [RX0, RX1, RX2, RX3, RX4, RX5, RX6, RX7, RX8, RX9, RX10, RX11, RX12, RL, RJ6, RJ7].getD k ""
def clT (k : Nat) : Nat → FieldType := [tyX0, tyX1, tyX2, tyX3, tyX4, tyX5, tyX6, tyX7, tyX8, tyX9, tyX10, tyX11, tyX12].getD k (fun _ => .int)
def aty (t : Nat) : FieldType := [FieldType.int, .long, .object RX7, .object RX1, .object RX3, .object RX6].getD t .int
def gT (G : GP) : List (ClassId × FieldType) := [(gA G 0, aty 0), (gA G 1, aty 1), (gA G 2, aty 2), (gA G 3, aty 3), (gA G 4, aty 4), (gA G 5, aty 5)]
theorem gT_at (G : GP) {t : Nat} (h : t < 6) : (gT G)[t]? = some (gA G t, aty t) := by
  match t, h with
  | 0, _ => rfl
  | 1, _ => rfl
  | 2, _ => rfl
  | 3, _ => rfl
  | 4, _ => rfl
  | 5, _ => rfl
  | n + 6, h => omega
def D0 : Value := .float 0
def cv (G : GP) : Value → Value
  | .ref k => .ref (gB G + k)
  | .retAddr _ => .ref (gS G)
  | v => v
theorem cv_cat (G : GP) (v : Value) (h : ∀ k, v ≠ .retAddr k) : (cv G v).category = v.category := by
  cases v <;> rfl
theorem cv_cat' (G : GP) (v : Value) : (cv G v).category = v.category := by
  cases v <;> rfl
def cvA (G : GP) : vp_A → vp_A
  | (n, .inr (.inr (.inr (.inr f)))) => (n, .inr (.inr (.inr (.inr (fun i => (f i).map (fun k => gB G + k))))))
  | a => a
def ccE (G : GP) : SC → va_E
  | .inl (t, a) => .inl (gA G t, cvA G a)
  | .inr (ci, fs) => .inr (ci, fs.map (cv G))
def wsM (G : GP) (M : SMem) : va_W := M.mapIdx fun k c => (gB G + k, ccE G c)
theorem wsM_at (G : GP) {M : SMem} {k : Nat} {c : SC} (h : M[k]? = some c) : (wsM G M)[k]? = some (gB G + k, ccE G c) := by
  unfold wsM
  rw [List.getElem?_mapIdx, h]
  rfl
theorem wsM_of (G : GP) {M : SMem} {k : Nat} {q : Nat × va_E} (h : (wsM G M)[k]? = some q) : ∃ c, M[k]? = some c ∧ q = (gB G + k, ccE G c) := by
  unfold wsM at h
  rw [List.getElem?_mapIdx] at h
  cases hc : M[k]? with
  | none => rw [hc] at h; cases h
  | some c => rw [hc] at h; exact ⟨c, rfl, (Option.some.inj h).symm⟩
theorem wsM_set (G : GP) (M : SMem) (k : Nat) (c : SC) : wsM G (M.set k c) = (wsM G M).set k (gB G + k, ccE G c) := by
  apply List.ext_getElem?
  intro i
  unfold wsM
  rw [List.getElem?_mapIdx, List.getElem?_set, List.getElem?_set, List.length_mapIdx, List.getElem?_mapIdx]
  by_cases h : k = i
  · subst h
    by_cases hl : k < M.length <;> simp [hl]
  · simp [h]
theorem wsM_app (G : GP) (M : SMem) (c : SC) : wsM G (M ++ [c]) = wsM G M ++ [(gB G + M.length, ccE G c)] := by
  unfold wsM
  rw [List.mapIdx_append]
  simp
theorem wsM_D (G : GP) (M : SMem) : va_D (fun q => gB G ≤ q) (wsM G M) := by
  refine ⟨fun i j p q hp hq e => ?_, fun k q hq => ?_⟩
  · obtain ⟨c, -, rfl⟩ := wsM_of G hp
    obtain ⟨d, -, rfl⟩ := wsM_of G hq
    exact Nat.add_left_cancel e
  · obtain ⟨c, -, rfl⟩ := wsM_of G hq
    exact Nat.le_add_right _ _
/-- the words that only the tables' own laws carry -/
def nestW : List Cond := [.methodLinkNest RX10 52 yX1_init RX11, .methodLinkNest RX10 53 yX3_init RX11, .methodLinkNest RX3 9 yX1_init RX11, .methodLinkNest RX5 11 yX3_init RX11, .methodLinkNest RX11 75 yX7_init RX11]
def castW : List (String × String) := [(RX4, RX8), (RX8, RX6), (RX9, RX6), (RX4, RX6)]
def ncW : List (String × String) := [(RX6, RX8), (RX6, RX9), (RX6, RX4), (RX8, RX9), (RX8, RX4), (RX9, RX8), (RX9, RX4), (RX4, RX9)]
def aoW : List String := [RX7, RX1, RX3, RX6]
def KX (G : GP) (U : State) : Prop := va_K (gD G) vwCl (gT G) U ∧ (∀ w ∈ nestW, va_Nw w U) ∧ (∀ q ∈ castW, va_Nw (.castable q.1 q.2) U) ∧ (∀ q ∈ ncW, va_Nc q.1 q.2 U) ∧ (∀ C ∈ aoW, va_AO C U)
theorem KX.warm {G : GP} {s U : State} (hW : s.WarmedH U.vm) (h : KX G s) : KX G U := by
  obtain ⟨h1, h2, h3, h4, h5⟩ := h
  refine ⟨h1.moved hW.alike, fun w hw => ?_, fun q hq => va_Nw.warmC hW (h3 q hq), fun q hq => (h4 q hq).moved hW.alike, fun C hC => (h5 C hC).moved hW.alike⟩
  have hz := h2 w hw
  simp only [nestW, List.mem_cons, List.not_mem_nil, or_false] at hw
  rcases hw with rfl | rfl | rfl | rfl | rfl <;> exact va_Nw.warmM hW hz
theorem KX.calling {G : GP} {U : State} {g : JFrame} {mk : MethodId} {a : Array Value} (h : KX G U) : KX G (U.calling g mk a) := by
  obtain ⟨h1, h2, h3, h4, h5⟩ := h
  refine ⟨va_K.moved (u := U) (U := U.calling g mk a) (Vm.Alike.refl U.vm) h1, fun w hw => ?_, fun q hq => va_Nw.same rfl rfl (h3 q hq), fun q hq => va_Nc.moved (u := U) (U := U.calling g mk a) (Vm.Alike.refl U.vm) (h4 q hq), fun C hC => va_AO.moved (u := U) (U := U.calling g mk a) (Vm.Alike.refl U.vm) (h5 C hC)⟩
  have hz := h2 w hw
  simp only [nestW, List.mem_cons, List.not_mem_nil, or_false] at hw
  rcases hw with rfl | rfl | rfl | rfl | rfl <;> exact va_Nw.same rfl rfl hz
/-- the slots that cells take -/
def slC (c : SC) : Nat := match c with
  | .inl (_, a) => a.1
  | .inr (ci, _) => ((vwCl[ci]?).map fun q => q.2.2).getD 0
def slM (M : SMem) : Nat := (M.map slC).sum
theorem slM_app (M : SMem) (c : SC) : slM (M ++ [c]) = slM M + slC c := by
  unfold slM
  rw [List.map_append, List.sum_append]
  rfl
/-- the locals, by places; a place that says nothing holds D0 -/
def LR (G : GP) (n : Nat) (ls : Array Slot) (L : List Value) : Prop := L.length = n ∧ ls.size = n ∧ lv_wf ls ∧ ∀ (i : Nat) (v : Value), L[i]? = some v → v ≠ D0 → ls[i]? = some (.val (cv G v))
def lput1 (L : List Value) (i : Nat) (v : Value) : List Value := match i with
  | 0 => L.set 0 v
  | j + 1 => if (L.getD j D0).category = 2 then (L.set (j + 1) v).set j D0 else L.set (j + 1) v
def lput2 (L : List Value) (i : Nat) (v : Value) : List Value := match i with
  | 0 => (L.set 0 v).set 1 D0
  | j + 1 => if (L.getD j D0).category = 2 then ((L.set (j + 1) v).set (j + 2) D0).set j D0 else (L.set (j + 1) v).set (j + 2) D0
def prs (G : GP) (L : List Value) : List (Nat × Value) := (List.range L.length).filterMap fun i => (L[i]?).bind fun v => if v = D0 then none else some (i, cv G v)
theorem prs_mem {G : GP} {L : List Value} {i : Nat} {v : Value} (h : L[i]? = some v) (hv : v ≠ D0) : (i, cv G v) ∈ prs G L := by
  unfold prs
  refine List.mem_filterMap.mpr ⟨i, List.mem_range.mpr (List.getElem?_eq_some_iff.mp h).1, ?_⟩
  rw [h]
  simp [hv]
theorem prs_of {G : GP} {L : List Value} {q : Nat × Value} (h : q ∈ prs G L) : ∃ v, L[q.1]? = some v ∧ v ≠ D0 ∧ q.2 = cv G v := by
  unfold prs at h
  obtain ⟨i, -, hi⟩ := List.mem_filterMap.mp h
  cases hv : L[i]? with
  | none => rw [hv] at hi; cases hi
  | some v =>
    rw [hv] at hi
    simp only [Option.bind_some] at hi
    by_cases e : v = D0
    · rw [if_pos e] at hi; cases hi
    · rw [if_neg e] at hi
      cases hi
      exact ⟨v, hv, e, rfl⟩
theorem LR.has {G : GP} {n : Nat} {ls : Array Slot} {L : List Value} (h : LR G n ls L) : lv_has ls n (prs G L) := by
  refine ⟨h.2.1, h.2.2.1, fun q hq => ?_⟩
  obtain ⟨v, h1, h2, h3⟩ := prs_of hq
  rw [h3]
  exact h.2.2.2 q.1 v h1 h2
theorem LR.at {G : GP} {n : Nat} {ls : Array Slot} {L : List Value} (h : LR G n ls L) {i : Nat} {v : Value} (hv : L[i]? = some v) (hd : v ≠ D0) : ls[i]? = some (.val (cv G v)) := h.2.2.2 i v hv hd
theorem lput1_len (L : List Value) (i : Nat) (v : Value) : (lput1 L i v).length = L.length := by
  unfold lput1
  split
  · simp
  · split <;> simp
theorem lput1_at {L : List Value} {i j : Nat} {v w : Value} (h : (lput1 L i v)[j]? = some w) (hw : w ≠ D0) : (j = i ∧ w = v) ∨ (j ≠ i ∧ L[j]? = some w ∧ ¬ (j + 1 = i ∧ w.category = 2)) := by
  unfold lput1 at h
  split at h
  · rw [List.getElem?_set] at h
    by_cases e : 0 = j
    · subst e
      rw [if_pos rfl] at h
      split at h
      · exact Or.inl ⟨rfl, (Option.some.inj h).symm⟩
      · cases h
    · rw [if_neg e] at h
      exact Or.inr ⟨fun q => e q.symm, h, fun q => by omega⟩
  · rename_i k
    by_cases hc : (L.getD k D0).category = 2
    · rw [if_pos hc, List.getElem?_set] at h
      by_cases e : k = j
      · subst e
        rw [if_pos rfl] at h
        split at h
        · exact absurd (Option.some.inj h).symm hw
        · cases h
      · rw [if_neg e, List.getElem?_set] at h
        by_cases e2 : k + 1 = j
        · subst e2
          rw [if_pos rfl] at h
          split at h
          · exact Or.inl ⟨rfl, (Option.some.inj h).symm⟩
          · cases h
        · rw [if_neg e2] at h
          exact Or.inr ⟨fun q => e2 q.symm, h, fun q => by omega⟩
    · rw [if_neg hc, List.getElem?_set] at h
      by_cases e2 : k + 1 = j
      · subst e2
        rw [if_pos rfl] at h
        split at h
        · exact Or.inl ⟨rfl, (Option.some.inj h).symm⟩
        · cases h
      · rw [if_neg e2] at h
        refine Or.inr ⟨fun q => e2 q.symm, h, fun q => ?_⟩
        obtain ⟨q1, q2⟩ := q
        have hj : j = k := by omega
        subst hj
        rw [List.getD_eq_getElem?_getD, h] at hc
        exact hc q2
theorem lput2_len (L : List Value) (i : Nat) (v : Value) : (lput2 L i v).length = L.length := by
  unfold lput2
  split
  · simp
  · split <;> simp
theorem lset_at {L : List Value} {i j : Nat} {v w : Value} (h : (L.set i v)[j]? = some w) : (j = i ∧ w = v) ∨ (j ≠ i ∧ L[j]? = some w) := by
  rw [List.getElem?_set] at h
  by_cases e : i = j
  · subst e
    rw [if_pos rfl] at h
    split at h
    · exact Or.inl ⟨rfl, (Option.some.inj h).symm⟩
    · cases h
  · rw [if_neg e] at h
    exact Or.inr ⟨fun q => e q.symm, h⟩
theorem lput2_at {L : List Value} {i j : Nat} {v w : Value} (h : (lput2 L i v)[j]? = some w) (hw : w ≠ D0) : (j = i ∧ w = v) ∨ (j ≠ i ∧ j ≠ i + 1 ∧ L[j]? = some w ∧ ¬ (j + 1 = i ∧ w.category = 2)) := by
  unfold lput2 at h
  split at h
  · rcases lset_at h with ⟨-, e⟩ | ⟨e, h⟩
    · exact absurd e hw
    · rcases lset_at h with e2 | ⟨e2, h⟩
      · exact Or.inl e2
      · exact Or.inr ⟨e2, e, h, fun q => by omega⟩
  · rename_i k
    by_cases hc : (L.getD k D0).category = 2
    · rw [if_pos hc] at h
      rcases lset_at h with ⟨-, e⟩ | ⟨e0, h⟩
      · exact absurd e hw
      · rcases lset_at h with ⟨-, e⟩ | ⟨e, h⟩
        · exact absurd e hw
        · rcases lset_at h with e2 | ⟨e2, h⟩
          · exact Or.inl e2
          · exact Or.inr ⟨e2, e, h, fun q => by omega⟩
    · rw [if_neg hc] at h
      rcases lset_at h with ⟨-, e⟩ | ⟨e, h2⟩
      · exact absurd e hw
      · rcases lset_at h2 with e2 | ⟨e2, h3⟩
        · exact Or.inl e2
        · refine Or.inr ⟨e2, e, h3, fun q => ?_⟩
          obtain ⟨q1, q2⟩ := q
          have hj : j = k := by omega
          subst hj
          rw [List.getD_eq_getElem?_getD, h3] at hc
          exact hc q2
theorem LR.put1 {G : GP} {n : Nat} {ls : Array Slot} {L : List Value} (h : LR G n ls L) {i : Nat} {v : Value} (hi : i < L.length) (hc : v.category = 1) {ls' : Array Slot} (h' : lv_has ls' n ((i, cv G v) :: (prs G L).filter (fun q => !(q.1 == i) && !(q.1 + 1 == i && q.2.category == 2)))) : LR G n ls' (lput1 L i v) := by
  refine ⟨(lput1_len L i v).trans h.1, h'.1, h'.2.1, fun j w hj hw => ?_⟩
  rcases lput1_at hj hw with ⟨rfl, rfl⟩ | ⟨e, hl, hn⟩
  · exact h'.2.2 (j, cv G w) List.mem_cons_self
  · refine h'.2.2 (j, cv G w) (List.mem_cons_of_mem _ (List.mem_filter.mpr ⟨prs_mem hl hw, ?_⟩))
    simp only [Bool.and_eq_true, Bool.not_eq_true', beq_eq_false_iff_ne, ne_eq, Bool.and_eq_false_iff, cv_cat']
    refine ⟨e, ?_⟩
    by_cases q : j + 1 = i
    · exact Or.inr (fun z => hn ⟨q, z⟩)
    · exact Or.inl q
theorem LR.put2 {G : GP} {n : Nat} {ls : Array Slot} {L : List Value} (h : LR G n ls L) {i : Nat} {v : Value} (hi : i + 1 < L.length) (hc : v.category = 2) {ls' : Array Slot} (h' : lv_has ls' n ((i, cv G v) :: (prs G L).filter (fun q => !(q.1 == i) && (!(q.1 == i + 1) && !(q.1 + 1 == i && q.2.category == 2))))) : LR G n ls' (lput2 L i v) := by
  refine ⟨(lput2_len L i v).trans h.1, h'.1, h'.2.1, fun j w hj hw => ?_⟩
  rcases lput2_at hj hw with ⟨rfl, rfl⟩ | ⟨e, e2, hl, hn⟩
  · exact h'.2.2 (j, cv G w) List.mem_cons_self
  · refine h'.2.2 (j, cv G w) (List.mem_cons_of_mem _ (List.mem_filter.mpr ⟨prs_mem hl hw, ?_⟩))
    simp only [Bool.and_eq_true, Bool.not_eq_true', beq_eq_false_iff_ne, ne_eq, Bool.and_eq_false_iff, cv_cat']
    refine ⟨e, e2, ?_⟩
    by_cases q : j + 1 = i
    · exact Or.inr (fun z => hn ⟨q, z⟩)
    · exact Or.inl q
/-- the locals with which a method begins -/
def entA : List Value → List Value
  | [] => []
  | .long x :: vs => .long x :: D0 :: entA vs
  | .double x :: vs => .double x :: D0 :: entA vs
  | v :: vs => v :: entA vs
def entL (vs : List Value) (n : Nat) : List Value := entA vs ++ List.replicate (n - (entA vs).length) D0
theorem entA_len (G : GP) (vs : List Value) : (lg_sl (vs.map (cv G))).length = (entA vs).length := by
  induction vs with
  | nil => rfl
  | cons v vs ih =>
    have e : lg_sl ((v :: vs).map (cv G)) = (if (cv G v).category = 2 then [Slot.val (cv G v), .second] else [.val (cv G v)]) ++ lg_sl (vs.map (cv G)) := by simp [lg_sl]
    rw [e, List.length_append, ih]
    cases v <;> simp [cv, Value.category, entA] <;> omega
theorem entA_at (G : GP) (vs : List Value) : ∀ (o i : Nat) (v : Value), (entA vs)[i]? = some v → v ≠ D0 → (o + i, cv G v) ∈ lv_args o (vs.map (cv G)) := by
  induction vs with
  | nil => intro o i v h; simp [entA] at h
  | cons w vs ih =>
    intro o i v h hv
    have one : ∀ x : Value, entA (x :: vs) = x :: entA vs → (cv G x).category ≠ 2 → (entA (x :: vs))[i]? = some v → (o + i, cv G v) ∈ lv_args o ((x :: vs).map (cv G)) := by
      intro x e hc h
      rw [e] at h
      simp only [List.map_cons, lv_args, if_neg hc]
      cases i with
      | zero => cases h; exact List.mem_cons_self
      | succ i => exact List.mem_cons_of_mem _ (by have := ih (o + 1) i v h hv; rwa [show o + 1 + i = o + (i + 1) by omega] at this)
    have two : ∀ x : Value, entA (x :: vs) = x :: D0 :: entA vs → (cv G x).category = 2 → (entA (x :: vs))[i]? = some v → (o + i, cv G v) ∈ lv_args o ((x :: vs).map (cv G)) := by
      intro x e hc h
      rw [e] at h
      simp only [List.map_cons, lv_args, if_pos hc]
      match i, h with
      | 0, h => cases h; exact List.mem_cons_self
      | 1, h => exact absurd (Option.some.inj h).symm hv
      | i + 2, h => exact List.mem_cons_of_mem _ (by have := ih (o + 2) i v h hv; rwa [show o + 2 + i = o + (i + 2) by omega] at this)
    cases w with
    | long x => exact two _ rfl rfl h
    | double x => exact two _ rfl rfl h
    | int x => exact one _ rfl (by simp [cv, Value.category]) h
    | float x => exact one _ rfl (by simp [cv, Value.category]) h
    | null => exact one _ rfl (by simp [cv, Value.category]) h
    | ref x => exact one _ rfl (by simp [cv, Value.category]) h
    | retAddr x => exact one _ rfl (by simp [cv, Value.category]) h
theorem LR.entry (G : GP) (vs : List Value) {n : Nat} (h : (entA vs).length ≤ n) : LR G n ((lg_sl (vs.map (cv G)) ++ List.replicate (n - (lg_sl (vs.map (cv G))).length) Slot.unset).toArray) (entL vs n) := by
  have hl := lv_entry (vs.map (cv G)) (n := n) (by rw [entA_len]; exact h)
  refine ⟨by simp [entL]; omega, hl.1, hl.2.1, fun i v hv hd => ?_⟩
  unfold entL at hv
  by_cases hi : i < (entA vs).length
  · rw [List.getElem?_append_left hi] at hv
    have := entA_at G vs 0 i v hv hd
    rw [Nat.zero_add] at this
    exact hl.2.2 (i, cv G v) this
  · rw [List.getElem?_append_right (by omega)] at hv
    exact absurd (List.eq_of_mem_replicate (List.mem_of_getElem? hv)) hd
/-- what a method's walk stands on -/
def Cx (G : GP) (md : MD) (f : Nat × Nat) (p : Program) (R : Room) (s : State) (m : MethodId) (args : Array Value) (meth : Method) (c : Code) : Prop :=
  p.tables.exec = Jvm.exec ∧ c.code = md.2.2.1 ∧ c.maxLocals = md.2.2.2.1 ∧ meth.sig.returnType = md.2.2.2.2 ∧ s.vm.findClass (clsN md.1) = some m.cls ∧ (∀ w ∈ BW, w.before args s = true) ∧ KX G s ∧ (f.1 ≤ R.frames ∧ f.2 ≤ R.locals) ∧ meth.name = md.2.1.name ∧ gB G ≤ s.heap.size ∧
  (md.1 = 13 → va_X (gS G) (gN G) (gX G) s s.heap ∧ gS G < gB G)
/-- what the heap is -/
def HR (G : GP) (M : SMem) (s : State) (H : Heap) (locs : List Loc) (cells : Nat) : Prop :=
  s.heap.size + cells = gB G + M.length ∧ va_P (gD G) vwCl (wsM G M) H ∧ va_S (fun q => gB G ≤ q) s.heap H locs
/-- the instruction that ends a method with an answer -/
def retI (ret : Option FieldType) (rv : Option Value) (i : Instr) : Prop :=
  (∃ x ty, rv = some (.int x) ∧ i = .ireturn ∧ ret = some ty ∧ narrow ty (.int x) = .int x) ∨ (∃ x, rv = some (.long x) ∧ i = .lreturn ∧ ret = some .long) ∨
  (∃ v rt, rv = some v ∧ (v = .null ∨ ∃ a, v = .ref a) ∧ i = .areturn ∧ ret = some rt ∧ ((∃ n, rt = .object n) ∨ ∃ t, rt = .array t)) ∨ (rv = none ∧ i = .return_ ∧ ret = none)
def EB (G : GP) (md : MD) (f : Nat × Nat) (pc : Nat) (L st : List Value) (M : SMem) (rv : Option Value) (M' : SMem) : Prop :=
  ∀ {p : Program} {e : Env} {R : Room} {s : State} {m : MethodId} {args : Array Value} {below : List Frame} {meth : Method} {c : Code} {H : Heap} {locs : List Loc} {cells slots : Nat} {Q : State → Prop} {ls : Array Slot},
    Cx G md f p R s m args meth c → HR G M s H locs cells → LR G md.2.2.2.1 ls L → cells + (M'.length - M.length) ≤ R.cells → slots + (slM M' - slM M) ≤ R.slots →
    (∀ (pc' : Nat) (ls' : Array Slot) (H' : Heap) (locs' : List Loc) (i : Instr), retI md.2.2.2.2 rv i → decode md.2.2.1 pc' = .ok (i, 1) → HR G M' s H' locs' (cells + (M'.length - M.length)) →
      W p (gL G) e R s m args below meth c H' locs' (cells + (M'.length - M.length)) (slots + (slM M' - slM M)) Q (F0 m pc' ls' (rv.toList.map (cv G)))) →
    W p (gL G) e R s m args below meth c H locs cells slots Q (F0 m pc ls (st.map (cv G)))
def E0 (G : GP) (md : MD) (f : Nat × Nat) (pc : Nat) (L st : List Value) (M : SMem) (rv : Option Value) (M' : SMem) : Prop :=
  M.length ≤ M'.length ∧ slM M ≤ slM M' ∧ EB G md f pc L st M rv M'
/-- from here the method ends with an answer and cells of which P says what it says -/
def E (G : GP) (md : MD) (f : Nat × Nat) (pc : Nat) (L st : List Value) (M : SMem) (P : Option Value → SMem → Prop) : Prop :=
  ∃ (rv : Option Value) (M' : SMem), P rv M' ∧ E0 G md f pc L st M rv M'
theorem E.weaken {G : GP} {md : MD} {f : Nat × Nat} {pc : Nat} {L st : List Value} {M : SMem} {P P' : Option Value → SMem → Prop} (h : E G md f pc L st M P) (hp : ∀ rv M', P rv M' → P' rv M') : E G md f pc L st M P' := by
  obtain ⟨rv, M', h1, h2⟩ := h
  exact ⟨rv, M', hp rv M' h1, h2⟩
