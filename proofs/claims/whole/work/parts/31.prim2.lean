/-! ===== more of what a function is made of ===== -/
theorem WO_of {a : Nat} (h : a = 2 ∨ a = 95) : WO a := by
  rcases h with rfl | rfl
  · exact WO2
  · exact WO95
section T2
variable {G : GP} {md : MD} {f : Nat × Nat} {pc : Nat} {L st : List Value} {σ : ST} {P : Option Value → SMem → Prop} {idx k a a0 ci n0 n1 j t0 t1 : Nat} {ref : String} {cs refs0 refs1 : List Nat} {γ : Type} {r : γ}
theorem mem_cpI {sp dp n : Nat} (ho : (ent σ)[a]? = some (0, n1, refs1)) : (mem σ).set a (.inl (0, n1, .inl (va_cpy (σ.1 a0) (σ.1 a) sp dp n))) = mem (cpSI σ a0 a sp dp n) := by
  refine mem_set ho ?_ rfl (fun x hx => ⟨?_, rfl, rfl⟩)
  · simp [cellS, cpSI]
  · simp [cpSI, hx]
theorem mem_cpJ {sp dp n : Nat} (ho : (ent σ)[a]? = some (1, n1, refs1)) : (mem σ).set a (.inl (1, n1, .inr (.inl (va_cpy (σ.2.1 a0) (σ.2.1 a) sp dp n)))) = mem (cpSJ σ a0 a sp dp n) := by
  refine mem_set ho ?_ rfl (fun x hx => ⟨rfl, ?_, rfl⟩)
  · simp [cellS, cpSJ]
  · simp [cpSJ, hx]
theorem T_copyI {sp dp n : Int32} {K : ST → Option γ} (hw : (copyW md.1 idx).all inB = true) (hf : 1 ≤ f.1 ∧ 8 + (nativeFrameWords "java/lang/System" "arraycopy" 5 + 11) ≤ f.2) (hst : (st.map fun v => v.category).sum ≤ 8) (hd : decode md.2.2.1 pc = .ok (.invokestatic idx, 3)) (h0 : (ent σ)[a0]? = some (0, n0, refs0)) (h1 : (ent σ)[a]? = some (0, n1, refs1)) (h6 : n0 < 2 ^ 20 ∧ n1 < 2 ^ 20) (h : (cpI σ a0 n0 a n1 sp dp n).bind K = some r) (kk : ∀ s, K s = some r → E G md f (pc + 3) L st (mem s) P) : E G md f pc L (.int n :: .int dp :: .ref a :: .int sp :: .ref a0 :: st) (mem σ) P := by
  unfold cpI at h
  split at h
  · rename_i hc
    obtain ⟨⟨c1, c2, c3⟩, c4, c5⟩ := hc
    obtain ⟨j1, g1, rfl, e1⟩ := nI_nn c1
    obtain ⟨j2, g2, rfl, e2⟩ := nI_nn c2
    obtain ⟨j3, g3, rfl, e3⟩ := nI_nn c3
    rw [e1, e2, e3] at h
    rw [e1, e3] at c4
    rw [e2, e3] at c5
    refine E_copyI hw (mem_at h0) (mem_at h1) rfl rfl rfl c4 c5 h6 hf hst hd ?_
    rw [mem_cpI h1]
    exact kk _ h
  · cases h
theorem T_copyJ {sp dp n : Int32} {K : ST → Option γ} (hw : (copyW md.1 idx).all inB = true) (hf : 1 ≤ f.1 ∧ 8 + (nativeFrameWords "java/lang/System" "arraycopy" 5 + 11) ≤ f.2) (hst : (st.map fun v => v.category).sum ≤ 8) (hd : decode md.2.2.1 pc = .ok (.invokestatic idx, 3)) (h0 : (ent σ)[a0]? = some (1, n0, refs0)) (h1 : (ent σ)[a]? = some (1, n1, refs1)) (h6 : n0 < 2 ^ 20 ∧ n1 < 2 ^ 20) (h : (cpJ σ a0 n0 a n1 sp dp n).bind K = some r) (kk : ∀ s, K s = some r → E G md f (pc + 3) L st (mem s) P) : E G md f pc L (.int n :: .int dp :: .ref a :: .int sp :: .ref a0 :: st) (mem σ) P := by
  unfold cpJ at h
  split at h
  · rename_i hc
    obtain ⟨⟨c1, c2, c3⟩, c4, c5⟩ := hc
    obtain ⟨j1, g1, rfl, e1⟩ := nI_nn c1
    obtain ⟨j2, g2, rfl, e2⟩ := nI_nn c2
    obtain ⟨j3, g3, rfl, e3⟩ := nI_nn c3
    rw [e1, e2, e3] at h
    rw [e1, e3] at c4
    rw [e2, e3] at c5
    refine E_copyL hw (mem_at h0) (mem_at h1) rfl rfl rfl c4 c5 h6 hf hst hd ?_
    rw [mem_cpJ h1]
    exact kk _ h
  · cases h
theorem mem_len (σ : ST) : (mem σ).length = 296 + σ.2.2.2.length := by
  unfold mem ent
  rw [List.length_mapIdx, List.length_append, List.length_map, slT_len]
theorem mem_newP (h7 : nF ci = 7 ∧ ∀ k, k < 7 → fk ci k = 0) : mem (newP σ ci) = mem σ ++ [.inr (ci, dflV ci 7)] := by
  have he : ent (newP σ ci) = ent σ ++ [(ci + 10, 0, [])] := by
    unfold ent newP
    simp
  have hl : (ent σ).length = 296 + σ.2.2.2.length := by
    have := mem_len σ
    unfold mem at this
    rwa [List.length_mapIdx] at this
  unfold mem
  rw [he, List.mapIdx_append]
  congr 1
  · apply List.ext_getElem?
    intro i
    rw [List.getElem?_mapIdx, List.getElem?_mapIdx]
    cases hi : (ent σ)[i]? with
    | none => rfl
    | some e =>
      have hlt := (List.getElem?_eq_some_iff.mp hi).1
      refine congrArg some (cellS_congr (σ := newP σ ci) (σ' := σ) ?_ rfl rfl e)
      unfold newP
      simp only
      rw [if_neg (by omega)]
  · simp only [List.mapIdx_cons, List.mapIdx_nil, Nat.zero_add]
    rw [cellS_ob]
    congr 3
    unfold fl dflV
    rw [h7.1]
    apply List.map_congr_left
    intro j hj
    have hj7 := List.mem_range.mp hj
    have h0 := h7.2 j hj7
    unfold fv
    rw [h0, if_pos (by decide), clT_fk0 h0, hl]
    unfold newP
    simp [defaultValue]
theorem T_new {K : Nat → ST → Option γ} {Cn : String} {T : u_T} (hl : Cond.classLink (clsN md.1) idx Cn ∈ BW) (hci : vwCl[ci]? = some (Cn, T, 7)) (hw : [Cond.instantiable Cn 7, .initialized Cn].all inB = true) (h7 : nF ci = 7 ∧ ∀ k, k < 7 → fk ci k = 0) (hd : decode md.2.2.1 pc = .ok (.new idx, 3)) (h : bd2 (nwP σ ci) K = some r) (kk : ∀ p s, K p s = some r → E G md f (pc + 3) L (.ref p :: st) (mem s) P) : E G md f pc L st (mem σ) P := by
  refine E_new hl hci hw rfl hd ?_
  rw [← mem_newP h7, mem_len]
  exact kk _ _ h
def rdX (xs : Nat → Int32) (N : Nat) (i : Int32) : Option Int32 := if inR i N = true then some (xs i.toNatClampNeg) else none
theorem T_sload {M : SMem} {i : Int32} {q : Nat} {K : Int32 → Option γ} (h13 : md.1 = 13) (hN : gN G ≤ 3072) (hd : decode md.2.2.1 pc = .ok (.iaload, 1)) (h : (rdX (gX G) (gN G) i).bind K = some r) (kk : ∀ v, K v = some r → E G md f (pc + 1) L (.int v :: st) M P) : E G md f pc L (.int i :: .retAddr q :: st) M P := by
  unfold rdX at h
  split at h
  · rename_i hi
    obtain ⟨j, hj, rfl, he⟩ := inR_cl hi (by omega)
    rw [he] at h
    exact E_sload h13 rfl hj (by omega) hd (kk _ h)
  · cases h
end T2
theorem T_lkpD {x : Int32} (u1 : ¬ x.toInt = ((98 : Nat) : Int)) (u2 : ¬ x.toInt = ((101 : Nat) : Int)) (u3 : ¬ x.toInt = ((122 : Nat) : Int)) {d : Int} {o1 o2 o3 : Int} : Op.lookupswitch.offset [(98, o1), (101, o2), (122, o3)] d x.toInt = d := by
  have h1 : ¬ (98 : Int) = x.toInt := fun h => u1 h.symm
  have h2 : ¬ (101 : Int) = x.toInt := fun h => u2 h.symm
  have h3 : ¬ (122 : Int) = x.toInt := fun h => u3 h.symm
  have g1 : ¬ x.toInt = 98 := u1
  have g2 : ¬ x.toInt = 101 := u2
  have g3 : ¬ x.toInt = 122 := u3
  simp [Op.lookupswitch.offset, h1, h2, h3, g1, g2, g3]
