/-! ===== the registers: every int, long and changing reference of the cells by address and place ===== -/
abbrev ST : Type := (Nat → Nat → Int32) × (Nat → Nat → Int64) × (Nat → Nat → Option Nat) × List Nat
def slT0 : List (Nat × Nat × List Nat) := [(21, 0, [1, 2, 95, 188, 195, 196, 197, 213, 229, 230, 0, 0, 0, 0]), (2, 8, [231, 233, 235, 237, 239, 241, 243, 245]), (20, 0, [0, 0, 0, 0, 3, 4, 5, 6, 7, 8]), (0, 10, []), (0, 10, []), (3, 10, [9, 14, 19, 24, 29, 34, 39, 44, 49, 54]), (4, 6, [59, 65, 71, 77, 83, 89]), (5, 16, []), (0, 6, []), (11, 0, [0, 10, 11, 12, 13]), (0, 30, []), (0, 30, []), (0, 30, []), (0, 30, []), (11, 0, [0, 15, 16, 17, 18]), (0, 30, []), (0, 30, []), (0, 30, []), (0, 30, []), (11, 0, [0, 20, 21, 22, 23]), (0, 30, []), (0, 30, []), (0, 30, []), (0, 30, []), (11, 0, [0, 25, 26, 27, 28]), (0, 30, []), (0, 30, []), (0, 30, []), (0, 30, []), (11, 0, [0, 30, 31, 32, 33]), (0, 30, []), (0, 30, []), (0, 30, []), (0, 30, []), (11, 0, [0, 35, 36, 37, 38]), (0, 30, []), (0, 30, [])]
def slT1 : List (Nat × Nat × List Nat) := [(0, 30, []), (0, 30, []), (11, 0, [0, 40, 41, 42, 43]), (0, 30, []), (0, 30, []), (0, 30, []), (0, 30, []), (11, 0, [0, 45, 46, 47, 48]), (0, 30, []), (0, 30, []), (0, 30, []), (0, 30, []), (11, 0, [0, 50, 51, 52, 53]), (0, 30, []), (0, 30, []), (0, 30, []), (0, 30, []), (11, 0, [0, 55, 56, 57, 58]), (0, 30, []), (0, 30, []), (0, 30, []), (0, 30, []), (13, 0, [60, 0, 0, 0, 0, 0]), (11, 0, [0, 61, 62, 63, 64]), (0, 30, []), (0, 30, []), (0, 30, []), (0, 30, []), (13, 0, [66, 0, 0, 0, 0, 0]), (11, 0, [0, 67, 68, 69, 70]), (0, 30, []), (0, 30, []), (0, 30, []), (0, 30, []), (13, 0, [72, 0, 0, 0, 0, 0]), (11, 0, [0, 73, 74, 75, 76]), (0, 30, [])]
def slT2 : List (Nat × Nat × List Nat) := [(0, 30, []), (0, 30, []), (0, 30, []), (13, 0, [78, 0, 0, 0, 0, 0]), (11, 0, [0, 79, 80, 81, 82]), (0, 30, []), (0, 30, []), (0, 30, []), (0, 30, []), (13, 0, [84, 0, 0, 0, 0, 0]), (11, 0, [0, 85, 86, 87, 88]), (0, 30, []), (0, 30, []), (0, 30, []), (0, 30, []), (13, 0, [90, 0, 0, 0, 0, 0]), (11, 0, [0, 91, 92, 93, 94]), (0, 30, []), (0, 30, []), (0, 30, []), (0, 30, []), (20, 0, [0, 0, 0, 0, 96, 97, 98, 99, 100, 101]), (0, 10, []), (0, 10, []), (3, 10, [102, 107, 112, 117, 122, 127, 132, 137, 142, 147]), (4, 6, [152, 158, 164, 170, 176, 182]), (5, 16, []), (0, 6, []), (11, 0, [0, 103, 104, 105, 106]), (0, 30, []), (0, 30, []), (0, 30, []), (0, 30, []), (11, 0, [0, 108, 109, 110, 111]), (0, 30, []), (0, 30, []), (0, 30, [])]
def slT3 : List (Nat × Nat × List Nat) := [(0, 30, []), (11, 0, [0, 113, 114, 115, 116]), (0, 30, []), (0, 30, []), (0, 30, []), (0, 30, []), (11, 0, [0, 118, 119, 120, 121]), (0, 30, []), (0, 30, []), (0, 30, []), (0, 30, []), (11, 0, [0, 123, 124, 125, 126]), (0, 30, []), (0, 30, []), (0, 30, []), (0, 30, []), (11, 0, [0, 128, 129, 130, 131]), (0, 30, []), (0, 30, []), (0, 30, []), (0, 30, []), (11, 0, [0, 133, 134, 135, 136]), (0, 30, []), (0, 30, []), (0, 30, []), (0, 30, []), (11, 0, [0, 138, 139, 140, 141]), (0, 30, []), (0, 30, []), (0, 30, []), (0, 30, []), (11, 0, [0, 143, 144, 145, 146]), (0, 30, []), (0, 30, []), (0, 30, []), (0, 30, []), (11, 0, [0, 148, 149, 150, 151])]
def slT4 : List (Nat × Nat × List Nat) := [(0, 30, []), (0, 30, []), (0, 30, []), (0, 30, []), (13, 0, [153, 0, 0, 0, 0, 0]), (11, 0, [0, 154, 155, 156, 157]), (0, 30, []), (0, 30, []), (0, 30, []), (0, 30, []), (13, 0, [159, 0, 0, 0, 0, 0]), (11, 0, [0, 160, 161, 162, 163]), (0, 30, []), (0, 30, []), (0, 30, []), (0, 30, []), (13, 0, [165, 0, 0, 0, 0, 0]), (11, 0, [0, 166, 167, 168, 169]), (0, 30, []), (0, 30, []), (0, 30, []), (0, 30, []), (13, 0, [171, 0, 0, 0, 0, 0]), (11, 0, [0, 172, 173, 174, 175]), (0, 30, []), (0, 30, []), (0, 30, []), (0, 30, []), (13, 0, [177, 0, 0, 0, 0, 0]), (11, 0, [0, 178, 179, 180, 181]), (0, 30, []), (0, 30, []), (0, 30, []), (0, 30, []), (13, 0, [183, 0, 0, 0, 0, 0]), (11, 0, [0, 184, 185, 186, 187]), (0, 30, [])]
def slT5 : List (Nat × Nat × List Nat) := [(0, 30, []), (0, 30, []), (0, 30, []), (15, 0, [2, 189, 0, 0, 0, 0, 0]), (13, 0, [190, 0, 0, 0, 0, 0]), (11, 0, [0, 191, 192, 193, 194]), (0, 30, []), (0, 30, []), (0, 30, []), (0, 30, []), (0, 1024, []), (0, 7168, []), (12, 0, [2, 195, 196, 205, 198, 199, 200, 0, 0, 0, 0, 0, 0, 0, 201, 202, 203, 204]), (0, 13312, []), (1, 2048, []), (0, 1024, []), (0, 12, []), (0, 12, []), (0, 12, []), (0, 12, []), (10, 0, [2, 206, 207, 208, 209, 210, 211, 212, 0]), (0, 12, []), (0, 12, []), (0, 12, []), (0, 12, []), (0, 12, []), (0, 84, []), (0, 12, []), (12, 0, [2, 195, 196, 221, 214, 215, 216, 0, 0, 0, 0, 0, 0, 0, 217, 218, 219, 220]), (0, 13312, []), (1, 2048, []), (0, 1024, []), (0, 12, []), (0, 12, []), (0, 12, []), (0, 12, []), (10, 0, [2, 222, 223, 224, 225, 226, 227, 228, 0])]
def slT6 : List (Nat × Nat × List Nat) := [(0, 12, []), (0, 12, []), (0, 12, []), (0, 12, []), (0, 12, []), (0, 84, []), (0, 12, []), (0, 8, []), (0, 21, []), (17, 0, [0, 0, 232]), (1, 60, []), (17, 0, [0, 0, 234]), (1, 60, []), (17, 0, [0, 0, 236]), (1, 60, []), (17, 0, [0, 0, 238]), (1, 60, []), (17, 0, [0, 0, 240]), (1, 60, []), (17, 0, [0, 0, 242]), (1, 60, []), (17, 0, [0, 0, 244]), (1, 60, []), (17, 0, [0, 0, 246]), (1, 60, []), (22, 0, [0, 248, 249, 250, 0, 251, 252, 253, 254, 0, 255, 256, 257, 258, 259, 260, 261, 262, 263, 264, 265, 0, 0, 266, 267, 268, 269, 0, 0, 0, 270, 271, 272, 273, 274, 275, 0, 276, 277, 0, 0, 278, 279, 280, 281, 282, 283, 284, 285, 286, 287, 288, 0, 0, 289, 290, 291, 292, 293, 294, 0, 295]), (0, 10, []), (0, 10, []), (0, 600, []), (0, 6, []), (0, 360, []), (0, 6, []), (0, 6, []), (0, 16, []), (0, 16, []), (0, 16, []), (0, 16, [])]
def slT7 : List (Nat × Nat × List Nat) := [(0, 16, []), (0, 16, []), (0, 16, []), (0, 6, []), (0, 8, []), (0, 8, []), (1, 480, []), (0, 10, []), (0, 1024, []), (0, 1024, []), (0, 7168, []), (0, 12, []), (0, 12, []), (0, 12, []), (0, 12, []), (0, 12, []), (0, 2, []), (0, 13312, []), (0, 13312, []), (0, 28, []), (0, 28, []), (0, 28, []), (0, 28, []), (0, 1024, []), (0, 1024, []), (0, 1024, []), (0, 1024, []), (1, 1024, []), (1, 1024, []), (0, 20, []), (0, 3, []), (0, 620, []), (0, 378, []), (0, 112, []), (0, 6, []), (0, 8, []), (0, 12, [])]
def slT : List (Nat × Nat × List Nat) := [slT0, slT1, slT2, slT3, slT4, slT5, slT6, slT7].flatten
def nF (ci : Nat) : Nat := [9, 5, 18, 6, 7, 7, 7, 3, 7, 7, 10, 14, 62].getD ci 0
/-- the cell's kind by its class: int, long or reference -/
def fk (ci k : Nat) : Nat := match clT ci k with
  | .int => 0
  | .boolean => 1
  | .long => 2
  | _ => 3
def fv (σ : ST) (a ci : Nat) (refs : List Nat) (k : Nat) : Value := if fk ci k < 2 then .int (σ.1 a k) else if fk ci k = 2 then .long (σ.2.1 a k) else .ref (refs.getD k 0)
def fl (σ : ST) (a ci : Nat) (refs : List Nat) : List Value := (List.range (nF ci)).map (fv σ a ci refs)
def cellS (σ : ST) (a : Nat) (e : Nat × Nat × List Nat) : SC := match e.1 with
  | 0 => .inl (0, e.2.1, .inl (σ.1 a))
  | 1 => .inl (1, e.2.1, .inr (.inl (σ.2.1 a)))
  | 2 => .inl (2, e.2.1, .inr (.inr (.inr (.inr (fun j => e.2.2[j]?)))))
  | 3 => .inl (3, e.2.1, .inr (.inr (.inr (.inr (fun j => e.2.2[j]?)))))
  | 4 => .inl (4, e.2.1, .inr (.inr (.inr (.inr (fun j => e.2.2[j]?)))))
  | 5 => .inl (5, e.2.1, .inr (.inr (.inr (.inr (σ.2.2.1 a)))))
  | n + 6 => .inr (n - 4, fl σ a (n - 4) e.2.2)
def ent (σ : ST) : List (Nat × Nat × List Nat) := slT ++ σ.2.2.2.map (fun ci => (ci + 10, 0, []))
def mem (σ : ST) : SMem := (ent σ).mapIdx (cellS σ)
theorem ent_st {σ : ST} {a : Nat} {e : Nat × Nat × List Nat} (h : slT[a]? = some e) : (ent σ)[a]? = some e := by
  unfold ent
  rw [List.getElem?_append_left (List.getElem?_eq_some_iff.mp h).1]
  exact h
theorem slT_len : slT.length = 296 := by decide +kernel
theorem ent_dy {σ : ST} {j ci : Nat} (h : σ.2.2.2[j]? = some ci) : (ent σ)[296 + j]? = some (ci + 10, 0, []) := by
  unfold ent
  rw [List.getElem?_append_right (by rw [slT_len]; omega), slT_len, show 296 + j - 296 = j by omega, List.getElem?_map, h]
  rfl
theorem mem_at {σ : ST} {a : Nat} {e : Nat × Nat × List Nat} (h : (ent σ)[a]? = some e) : (mem σ)[a]? = some (cellS σ a e) := by
  unfold mem
  rw [List.getElem?_mapIdx, h]
  rfl
def setI (σ : ST) (a k : Nat) (v : Int32) : ST := (fun x => if x = a then upd (σ.1 x) k v else σ.1 x, σ.2)
def setJ (σ : ST) (a k : Nat) (v : Int64) : ST := (σ.1, fun x => if x = a then vp_updL (σ.2.1 x) k v else σ.2.1 x, σ.2.2)
def setT (σ : ST) (a k : Nat) (v : Option Nat) : ST := (σ.1, σ.2.1, fun x => if x = a then va_up (σ.2.2.1 x) k v else σ.2.2.1 x, σ.2.2.2)
theorem cellS_congr {σ σ' : ST} {a : Nat} (h1 : σ.1 a = σ'.1 a) (h2 : σ.2.1 a = σ'.2.1 a) (h3 : σ.2.2.1 a = σ'.2.2.1 a) (e : Nat × Nat × List Nat) : cellS σ a e = cellS σ' a e := by
  unfold cellS fl
  have : ∀ ci refs, fv σ a ci refs = fv σ' a ci refs := fun ci refs => by
    funext k
    unfold fv
    rw [h1, h2]
  simp only [this, h1, h2, h3]
theorem mem_set {σ σ' : ST} {a : Nat} {e : Nat × Nat × List Nat} {c : SC} (he : (ent σ)[a]? = some e) (hc : cellS σ' a e = c) (hd : σ'.2.2.2 = σ.2.2.2) (ho : ∀ x, x ≠ a → σ.1 x = σ'.1 x ∧ σ.2.1 x = σ'.2.1 x ∧ σ.2.2.1 x = σ'.2.2.1 x) : (mem σ).set a c = mem σ' := by
  apply List.ext_getElem?
  intro i
  have hent : ent σ' = ent σ := by unfold ent; rw [hd]
  unfold mem
  rw [hent, List.getElem?_set, List.getElem?_mapIdx, List.getElem?_mapIdx, List.length_mapIdx]
  by_cases h : a = i
  · subst h
    rw [if_pos rfl, if_pos (List.getElem?_eq_some_iff.mp he).1, he, ← hc]
    rfl
  · rw [if_neg h]
    obtain ⟨h1, h2, h3⟩ := ho i (fun q => h q.symm)
    cases (ent σ)[i]? with
    | none => rfl
    | some x => exact congrArg some (cellS_congr h1 h2 h3 x)
theorem fl_at {σ : ST} {a ci k : Nat} {refs : List Nat} (hk : k < nF ci) : (fl σ a ci refs)[k]? = some (fv σ a ci refs k) := by
  unfold fl
  rw [List.getElem?_map, List.getElem?_range hk]
  rfl
theorem fl_len {σ : ST} {a ci : Nat} {refs : List Nat} : (fl σ a ci refs).length = nF ci := by simp [fl]
/-- field k of the class ci is an int (or a boolean), a long, a reference -/
def fI (ci k : Nat) : Bool := Nat.blt k (nF ci) && Nat.blt (fk ci k) 2
def fJ (ci k : Nat) : Bool := Nat.blt k (nF ci) && (fk ci k == 2)
def fR (ci k : Nat) : Bool := Nat.blt k (nF ci) && (fk ci k == 3)
theorem fI_of {ci k : Nat} (h : fI ci k = true) : k < nF ci ∧ fk ci k < 2 := by
  simp only [fI, Bool.and_eq_true] at h
  exact ⟨Nat.blt_eq.mp h.1, Nat.blt_eq.mp h.2⟩
theorem fJ_of {ci k : Nat} (h : fJ ci k = true) : k < nF ci ∧ fk ci k = 2 := by
  simp only [fJ, Bool.and_eq_true, beq_iff_eq] at h
  exact ⟨Nat.blt_eq.mp h.1, h.2⟩
theorem fR_of {ci k : Nat} (h : fR ci k = true) : k < nF ci ∧ fk ci k = 3 := by
  simp only [fR, Bool.and_eq_true, beq_iff_eq] at h
  exact ⟨Nat.blt_eq.mp h.1, h.2⟩
theorem cellS_ob (σ : ST) (a ci n : Nat) (refs : List Nat) : cellS σ a (ci + 10, n, refs) = .inr (ci, fl σ a ci refs) := by
  show (Sum.inr (ci + 4 - 4, fl σ a (ci + 4 - 4) refs) : SC) = _
  rw [Nat.add_sub_cancel]
theorem mem_ob {σ : ST} {a ci n : Nat} {refs : List Nat} (h : (ent σ)[a]? = some (ci + 10, n, refs)) : (mem σ)[a]? = some (.inr (ci, fl σ a ci refs)) := by
  rw [mem_at h, cellS_ob]
theorem set_ob {σ σ' : ST} {a ci n k : Nat} {refs : List Nat} {v : Value} (h : (ent σ)[a]? = some (ci + 10, n, refs)) (hk : k < nF ci) (hv : fv σ' a ci refs k = v) (hs : ∀ j, j ≠ k → fv σ' a ci refs j = fv σ a ci refs j) (hd : σ'.2.2.2 = σ.2.2.2) (ho : ∀ x, x ≠ a → σ.1 x = σ'.1 x ∧ σ.2.1 x = σ'.2.1 x ∧ σ.2.2.1 x = σ'.2.2.1 x) : (mem σ).set a (.inr (ci, (fl σ a ci refs).set k v)) = mem σ' := by
  refine mem_set h ?_ hd ho
  rw [cellS_ob]
  congr 2
  apply List.ext_getElem?
  intro j
  rw [List.getElem?_set, fl_len]
  by_cases e : k = j
  · subst e
    rw [if_pos rfl, if_pos hk, fl_at hk, hv]
  · rw [if_neg e]
    by_cases hj : j < nF ci
    · rw [fl_at hj, fl_at hj, hs j (fun q => e q.symm)]
    · rw [List.getElem?_eq_none (by rw [fl_len]; omega), List.getElem?_eq_none (by rw [fl_len]; omega)]
section RR
variable {G : GP} {md : MD} {f : Nat × Nat} {pc : Nat} {L st : List Value} {σ : ST} {P : Option Value → SMem → Prop} {idx k a ci n j t : Nat} {ref : String} {cs refs : List Nat}
theorem R_getI (hf : FOK md.1 idx k ref cs) (hd : decode md.2.2.1 pc = .ok (.getfield idx, 3)) (ho : (ent σ)[a]? = some (ci + 10, n, refs)) (hc : ci ∈ cs) (hk : fI ci k = true) (kk : E G md f (pc + 3) L (.int (σ.1 a k) :: st) (mem σ) P) : E G md f pc L (.ref a :: st) (mem σ) P := by
  obtain ⟨h1, h2⟩ := fI_of hk
  exact E_getf hf (mem_ob ho) hc (by rw [fl_at h1]; unfold fv; rw [if_pos h2]) hd kk
theorem R_getJ (hf : FOK md.1 idx k ref cs) (hd : decode md.2.2.1 pc = .ok (.getfield idx, 3)) (ho : (ent σ)[a]? = some (ci + 10, n, refs)) (hc : ci ∈ cs) (hk : fJ ci k = true) (kk : E G md f (pc + 3) L (.long (σ.2.1 a k) :: st) (mem σ) P) : E G md f pc L (.ref a :: st) (mem σ) P := by
  obtain ⟨h1, h2⟩ := fJ_of hk
  exact E_getf hf (mem_ob ho) hc (by rw [fl_at h1]; unfold fv; rw [if_neg (by omega), if_pos h2]) hd kk
theorem R_getR {b : Nat} (hf : FOK md.1 idx k ref cs) (hd : decode md.2.2.1 pc = .ok (.getfield idx, 3)) (ho : (ent σ)[a]? = some (ci + 10, n, refs)) (hc : ci ∈ cs) (hk : fR ci k = true) (hb : refs.getD k 0 = b) (kk : E G md f (pc + 3) L (.ref b :: st) (mem σ) P) : E G md f pc L (.ref a :: st) (mem σ) P := by
  obtain ⟨h1, h2⟩ := fR_of hk
  exact E_getf hf (mem_ob ho) hc (by rw [fl_at h1]; unfold fv; rw [if_neg (by omega), if_neg (by omega), hb]) hd kk
theorem clT_fk0 {ci k : Nat} (h : fk ci k = 0) : clT ci k = .int := by
  unfold fk at h
  split at h <;> first | assumption | (exact absurd h (by decide))
theorem clT_fk1 {ci k : Nat} (h : fk ci k = 1) : clT ci k = .boolean := by
  unfold fk at h
  split at h <;> first | assumption | (exact absurd h (by decide))
theorem clT_fk2 {ci k : Nat} (h : fk ci k = 2) : clT ci k = .long := by
  unfold fk at h
  split at h <;> first | assumption | (exact absurd h (by decide))
theorem putI_mem {v : Int32} (ho : (ent σ)[a]? = some (ci + 10, n, refs)) (hk : fI ci k = true) : (mem σ).set a (.inr (ci, (fl σ a ci refs).set k (.int v))) = mem (setI σ a k v) := by
  obtain ⟨h1, h2⟩ := fI_of hk
  refine set_ob ho h1 ?_ (fun j hj => ?_) rfl (fun x hx => ⟨?_, rfl, rfl⟩)
  · unfold fv
    rw [if_pos h2]
    simp [setI, upd]
  · unfold fv
    simp [setI, upd, hj]
  · simp [setI, hx]
theorem R_putI {v : Int32} (hf : FOK md.1 idx k ref cs) (hd : decode md.2.2.1 pc = .ok (.putfield idx, 3)) (ho : (ent σ)[a]? = some (ci + 10, n, refs)) (hc : ci ∈ cs) (hk : fI ci k = true) (hk0 : fk ci k = 0 ∧ finF ci k = false) (kk : E G md f (pc + 3) L st (mem (setI σ a k v)) P) : E G md f pc L (.int v :: .ref a :: st) (mem σ) P := by
  refine E_putf hf (mem_ob ho) hc (by rw [fl_len]; exact Nat.blt_eq.mpr (fI_of hk).1) hk0.2 (by rw [clT_fk0 hk0.1]; rfl) (by rw [clT_fk0 hk0.1]; rfl) hd ?_
  rw [putI_mem ho hk]
  exact kk
theorem R_putZ {v : Int32} (hv : v = 0 ∨ v = 1) (hf : FOK md.1 idx k ref cs) (hd : decode md.2.2.1 pc = .ok (.putfield idx, 3)) (ho : (ent σ)[a]? = some (ci + 10, n, refs)) (hc : ci ∈ cs) (hk : fI ci k = true) (hk0 : fk ci k = 1 ∧ finF ci k = false) (kk : E G md f (pc + 3) L st (mem (setI σ a k v)) P) : E G md f pc L (.int v :: .ref a :: st) (mem σ) P := by
  have hn : narrow .boolean (.int v) = .int v ∧ fits .boolean (.int v) = true := by
    rcases hv with rfl | rfl <;> exact ⟨rfl, rfl⟩
  refine E_putf hf (mem_ob ho) hc (by rw [fl_len]; exact Nat.blt_eq.mpr (fI_of hk).1) hk0.2 (by rw [clT_fk1 hk0.1]; exact hn.1) (by rw [clT_fk1 hk0.1]; exact hn.2) hd ?_
  rw [putI_mem ho hk]
  exact kk
theorem R_putJ {v : Int64} (hf : FOK md.1 idx k ref cs) (hd : decode md.2.2.1 pc = .ok (.putfield idx, 3)) (ho : (ent σ)[a]? = some (ci + 10, n, refs)) (hc : ci ∈ cs) (hk : fJ ci k = true) (hk0 : finF ci k = false) (kk : E G md f (pc + 3) L st (mem (setJ σ a k v)) P) : E G md f pc L (.long v :: .ref a :: st) (mem σ) P := by
  obtain ⟨h1, h2⟩ := fJ_of hk
  refine E_putf hf (mem_ob ho) hc (by rw [fl_len]; exact Nat.blt_eq.mpr h1) hk0 (by rw [clT_fk2 h2]; rfl) (by rw [clT_fk2 h2]; rfl) hd ?_
  rw [set_ob (σ' := setJ σ a k v) ho h1 ?_ (fun j hj => ?_) rfl (fun x hx => ⟨rfl, ?_, rfl⟩)]
  · exact kk
  · unfold fv
    rw [if_neg (by omega), if_pos h2]
    simp [setJ, vp_updL]
  · unfold fv
    simp [setJ, vp_updL, hj]
  · simp [setJ, hx]
theorem R_iald {i : Int32} (hd : decode md.2.2.1 pc = .ok (.iaload, 1)) (ho : (ent σ)[a]? = some (0, n, refs)) (hi : i = nI j) (hj : j < n) (hn : n < 2 ^ 31) (kk : E G md f (pc + 1) L (.int (σ.1 a j) :: st) (mem σ) P) : E G md f pc L (.int i :: .ref a :: st) (mem σ) P :=
  E_iaload (mem_at ho) hi hj hn hd kk
theorem R_jald {i : Int32} (hd : decode md.2.2.1 pc = .ok (.laload, 1)) (ho : (ent σ)[a]? = some (1, n, refs)) (hi : i = nI j) (hj : j < n) (hn : n < 2 ^ 31) (kk : E G md f (pc + 1) L (.long (σ.2.1 a j) :: st) (mem σ) P) : E G md f pc L (.int i :: .ref a :: st) (mem σ) P :=
  E_laload (mem_at ho) hi hj hn hd kk
theorem R_iast {i v : Int32} (hd : decode md.2.2.1 pc = .ok (.iastore, 1)) (ho : (ent σ)[a]? = some (0, n, refs)) (hi : i = nI j) (hj : j < n) (hn : n < 2 ^ 31) (kk : E G md f (pc + 1) L st (mem (setI σ a j v)) P) : E G md f pc L (.int v :: .int i :: .ref a :: st) (mem σ) P := by
  refine E_iastore (mem_at ho) hi hj hn hd ?_
  rw [mem_set (σ' := setI σ a j v) ho ?_ rfl (fun x hx => ⟨?_, rfl, rfl⟩)]
  · exact kk
  · simp [cellS, setI]
  · simp [setI, hx]
theorem R_jast {i : Int32} {v : Int64} (hd : decode md.2.2.1 pc = .ok (.lastore, 1)) (ho : (ent σ)[a]? = some (1, n, refs)) (hi : i = nI j) (hj : j < n) (hn : n < 2 ^ 31) (kk : E G md f (pc + 1) L st (mem (setJ σ a j v)) P) : E G md f pc L (.long v :: .int i :: .ref a :: st) (mem σ) P := by
  refine E_lastore (mem_at ho) hi hj hn hd ?_
  rw [mem_set (σ' := setJ σ a j v) ho ?_ rfl (fun x hx => ⟨rfl, ?_, rfl⟩)]
  · exact kk
  · simp [cellS, setJ]
  · simp [setJ, hx]
theorem R_rald {i : Int32} {b : Nat} {C : String} (hd : decode md.2.2.1 pc = .ok (.aaload, 1)) (ho : (ent σ)[a]? = some (t, n, refs)) (ht : t = 2 ∨ t = 3 ∨ t = 4) (hi : i = nI j) (hj : j < n) (hn : n < 2 ^ 31) (hb : refs[j]? = some b) (kk : E G md f (pc + 1) L (.ref b :: st) (mem σ) P) : E G md f pc L (.int i :: .ref a :: st) (mem σ) P := by
  have h0 := mem_at ho
  rcases ht with rfl | rfl | rfl
  · refine E_aaload (C := RX7) h0 (by decide) rfl hi hj hn hd ?_
    rw [hb]
    exact kk
  · refine E_aaload (C := RX1) h0 (by decide) rfl hi hj hn hd ?_
    rw [hb]
    exact kk
  · refine E_aaload (C := RX3) h0 (by decide) rfl hi hj hn hd ?_
    rw [hb]
    exact kk
theorem R_tald {i : Int32} (hd : decode md.2.2.1 pc = .ok (.aaload, 1)) (ho : (ent σ)[a]? = some (5, n, refs)) (hi : i = nI j) (hj : j < n) (hn : n < 2 ^ 31) (kk : E G md f (pc + 1) L (va_rf (σ.2.2.1 a j) :: st) (mem σ) P) : E G md f pc L (.int i :: .ref a :: st) (mem σ) P :=
  E_aaload (C := RX6) (mem_at ho) (by decide) rfl hi hj hn hd kk
theorem R_tast {i : Int32} {v cj n2 : Nat} {refs2 : List Nat} (hd : decode md.2.2.1 pc = .ok (.aastore, 1)) (ho : (ent σ)[a]? = some (5, n, refs)) (hv : (ent σ)[v]? = some (cj + 10, n2, refs2)) (hcj : cj = 6 ∨ cj = 4 ∨ cj = 8 ∨ cj = 9) (hi : i = nI j) (hj : j < n) (hn : n < 2 ^ 31) (kk : E G md f (pc + 1) L st (mem (setT σ a j (some v))) P) : E G md f pc L (.ref v :: .int i :: .ref a :: st) (mem σ) P := by
  have hs : (mem σ).set a (.inl (5, n, .inr (.inr (.inr (.inr (va_up (σ.2.2.1 a) j (some v))))))) = mem (setT σ a j (some v)) := by
    refine mem_set ho ?_ rfl (fun x hx => ⟨rfl, rfl, ?_⟩)
    · simp [cellS, setT]
    · simp [setT, hx]
  rw [← hs] at kk
  rcases hcj with rfl | hcj
  · exact E_aastore (mem_at ho) (by decide) rfl (mem_ob hv) hi hj hn hd kk
  · refine E_aastoreO (C := RX6) (mem_at ho) (by decide) rfl ?_ (mem_ob hv) hi hj hn hd kk
    rcases hcj with rfl | rfl | rfl <;> decide +kernel
theorem R_alen {v : Int32} (hd : decode md.2.2.1 pc = .ok (.arraylength, 1)) (ho : (ent σ)[a]? = some (t, n, refs)) (ht : t = 0 ∨ t = 1) (hv : nI n = v) (kk : E G md f (pc + 1) L (.int v :: st) (mem σ) P) : E G md f pc L (.ref a :: st) (mem σ) P := by
  have h0 := mem_at ho
  rcases ht with rfl | rfl
  · exact E_alen h0 (by decide) hv hd kk
  · exact E_alen h0 (by decide) hv hd kk
end RR
/-! reading behind writing -/
theorem I_setI (σ : ST) (a k : Nat) (v : Int32) (x y : Nat) : (setI σ a k v).1 x y = if x = a ∧ y = k then v else σ.1 x y := by
  unfold setI
  by_cases h : x = a
  · subst h
    by_cases h2 : y = k <;> simp [upd, h2]
  · simp [h]
theorem I_setI_eq (σ : ST) (a k : Nat) (v : Int32) : (setI σ a k v).1 a k = v := by rw [I_setI, if_pos ⟨rfl, rfl⟩]
theorem I_setI_ne (σ : ST) {a k : Nat} (v : Int32) {x y : Nat} (h : x ≠ a ∨ y ≠ k) : (setI σ a k v).1 x y = σ.1 x y := by
  rw [I_setI, if_neg]
  rintro ⟨h1, h2⟩
  rcases h with h | h
  · exact h h1
  · exact h h2
theorem J_setJ (σ : ST) (a k : Nat) (v : Int64) (x y : Nat) : (setJ σ a k v).2.1 x y = if x = a ∧ y = k then v else σ.2.1 x y := by
  unfold setJ
  by_cases h : x = a
  · subst h
    by_cases h2 : y = k <;> simp [vp_updL, h2]
  · simp [h]
theorem T_setT (σ : ST) (a k : Nat) (v : Option Nat) (x y : Nat) : (setT σ a k v).2.2.1 x y = if x = a ∧ y = k then v else σ.2.2.1 x y := by
  unfold setT
  by_cases h : x = a
  · subst h
    by_cases h2 : y = k <;> simp [va_up, h2]
  · simp [h]
theorem ent_setI (σ : ST) (a k : Nat) (v : Int32) : ent (setI σ a k v) = ent σ := rfl
theorem ent_setJ (σ : ST) (a k : Nat) (v : Int64) : ent (setJ σ a k v) = ent σ := rfl
theorem ent_setT (σ : ST) (a k : Nat) (v : Option Nat) : ent (setT σ a k v) = ent σ := rfl

