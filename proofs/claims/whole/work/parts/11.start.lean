/-! ===== from the law's own judgement to the walk that the claim asks ===== -/
/-- what is to be shown of the law: from its entry it ends with 1, with no more cells than the room has -/
def LawE : Prop := ∀ G : GP, gN G ≤ 3072 → E G mL_law (11, 406) 0 [.retAddr 0, D0, D0, D0] [] [] (fun rv M' => rv = some (.int 1) ∧ M'.length ≤ 600000 ∧ slM M' ≤ 7302250)
theorem inst_ok {ci : Nat} {q : vw_C} (h : vwCl[ci]? = some q) : Cond.instantiable q.1 q.2.2 ∈ BW ∧ (∀ w ∈ u_ws q.1 q.2.1 q.2.2, w ∈ BW) := by
  match ci, h with
  | 0, h => cases h; exact ⟨inB_ok (by decide +kernel), uX0⟩
  | 1, h => cases h; exact ⟨inB_ok (by decide +kernel), uX1⟩
  | 2, h => cases h; exact ⟨inB_ok (by decide +kernel), uX2⟩
  | 3, h => cases h; exact ⟨inB_ok (by decide +kernel), uX3⟩
  | 4, h => cases h; exact ⟨inB_ok (by decide +kernel), uX4⟩
  | 5, h => cases h; exact ⟨inB_ok (by decide +kernel), uX5⟩
  | 6, h => cases h; exact ⟨inB_ok (by decide +kernel), uX6⟩
  | 7, h => cases h; exact ⟨inB_ok (by decide +kernel), uX7⟩
  | 8, h => cases h; exact ⟨inB_ok (by decide +kernel), uX8⟩
  | 9, h => cases h; exact ⟨inB_ok (by decide +kernel), uX9⟩
  | 10, h => cases h; exact ⟨inB_ok (by decide +kernel), uX10⟩
  | 11, h => cases h; exact ⟨inB_ok (by decide +kernel), uX11⟩
  | 12, h => cases h; exact ⟨inB_ok (by decide +kernel), uX12⟩
  | n + 13, h => exact absurd h (by simp)
theorem nest_in : ∀ w ∈ nestW, w ∈ lw_tbl := by decide +kernel
theorem cast_in : ∀ q ∈ castW, Cond.castable q.1 q.2 ∈ lw_tbl := by decide +kernel
theorem ao_in : ∀ C ∈ aoW, Cond.arrayOver (.object C) ∈ lw_tbl := by decide +kernel
theorem arr_start {args : Array Value} {s : State} (hts : ∀ w ∈ lw_tbl, w.before args s = true) : ∀ t : Nat, ∃ cA : ClassId, t < 6 → ArrOfT s cA (aty t) ∧ va_RA s cA (aty t) := by
  intro t
  have pr : ∀ ty : FieldType, Cond.arrayClass ty ∈ lw_tbl → (∀ cA, s.vm.findClass ("[" ++ ty.toString) = some cA → va_RA s cA ty) → ∃ cA : ClassId, ArrOfT s cA ty ∧ va_RA s cA ty := by
    intro ty hw hra
    obtain ⟨cA, k, comp, h1, h2, h3⟩ := Cond.arrayClass_spec (hts _ hw)
    exact ⟨cA, fun N z => ⟨(fun k h => by cases h), k, h2, comp, h3⟩, hra cA h1⟩
  have ob : ∀ C : String, C ∈ aoW → ∃ cA : ClassId, ArrOfT s cA (.object C) ∧ va_RA s cA (.object C) := by
    intro C hC
    obtain ⟨comp, cA, k, h1, -, h3, h4, h5⟩ := Cond.arrayOver_spec (hts _ (ao_in C hC))
    exact ⟨cA, fun N z => ⟨(fun k h => by cases h), k, h3, comp, h4⟩, k, comp, h3, h4, h1, h5⟩
  match t with
  | 0 => obtain ⟨c, h⟩ := pr .int (by decide +kernel) (fun _ h => h); exact ⟨c, fun _ => h⟩
  | 1 => obtain ⟨c, h⟩ := pr .long (by decide +kernel) (fun _ h => h); exact ⟨c, fun _ => h⟩
  | 2 => obtain ⟨c, h⟩ := ob RX7 (by decide +kernel); exact ⟨c, fun _ => h⟩
  | 3 => obtain ⟨c, h⟩ := ob RX1 (by decide +kernel); exact ⟨c, fun _ => h⟩
  | 4 => obtain ⟨c, h⟩ := ob RX3 (by decide +kernel); exact ⟨c, fun _ => h⟩
  | 5 => obtain ⟨c, h⟩ := ob RX6 (by decide +kernel); exact ⟨c, fun _ => h⟩
  | n + 6 => exact ⟨0, fun h => by omega⟩
theorem K_start {args : Array Value} {s : State} (hts : ∀ w ∈ lw_tbl, w.before args s = true) (hgv : (Jvm.Cond.and given_1 narrow_1).before args s = true) (hnc : ∀ q ∈ ncW, (Cond.not (.castable q.1 q.2)).before args s = true) : ∃ (D : va_G) (cA : Nat → ClassId), ∀ (l : Launch) (B b N : Nat) (xs : Nat → Int32), KX (l, D, cA, B, b, N, xs) s := by
  have H : ∀ k : Nat, ∃ (cC : ClassId) (iS : Nat → Nat), ∀ q : vw_C, vwCl[k]? = some q → u_Kn s q.1 q.2.1 q.2.2 cC iS := by
    intro k
    cases hq : vwCl[k]? with
    | none => exact ⟨0, fun _ => 0, fun q h => by cases h⟩
    | some q =>
      obtain ⟨h1, h2⟩ := inst_ok hq
      obtain ⟨cC, iS, h3⟩ := u_known (C := q.1) (T := q.2.1) (N := q.2.2) hts (fun w hw => bw_in w (h2 w hw)) (hts _ (bw_in _ h1))
      exact ⟨cC, iS, fun q' h => by cases h; exact h3⟩
  have HA := arr_start hts
  refine ⟨(fun k => (H k).choose, fun k => (H k).choose_spec.choose), fun t => (HA t).choose, fun l B b N xs => ?_⟩
  refine ⟨⟨fun c q hq => (H c).choose_spec.choose_spec q hq, fun k q hq => ?_⟩, fun w hw => ?_, fun q hq => va_Nw.of rfl (hts _ (cast_in q hq)), fun q hq => va_Nc.of (hnc q hq), fun C hC => va_AO.of (hts _ (ao_in C hC))⟩
  · have hk : k < 6 := (List.getElem?_eq_some_iff.mp hq).1
    rw [gT_at _ hk] at hq
    cases hq
    exact (HA k).choose_spec hk
  · have hz := hts w (nest_in w hw)
    simp only [nestW, List.mem_cons, List.not_mem_nil, or_false] at hw
    rcases hw with rfl | rfl | rfl | rfl | rfl <;> exact va_Nw.of rfl hz
