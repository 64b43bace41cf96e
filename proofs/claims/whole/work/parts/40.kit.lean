/-! ===== reckoning with the functions ===== -/
theorem b2_z (b : Bool) : (b2 b = 0) = (b = false) := by cases b <;> simp [b2]
theorem nI_zero : nI 0 = 0 := rfl
theorem nI_one : nI 1 = 1 := rfl
theorem nI_eqz {a : Nat} (h : a < 2 ^ 31) : (nI a = 0) = (a = 0) := propext (nI_eq (b := 0) h (by omega))
theorem nI_eqq {a b : Nat} (h : a < 2 ^ 31) (h2 : b < 2 ^ 31) : (nI a = nI b) = (a = b) := propext (nI_eq h h2)
theorem nI_ltq {a b : Nat} (h : a < 2 ^ 31) (h2 : b < 2 ^ 31) : (nI a < nI b) = (a < b) := propext (nI_ltI h h2)
theorem nI_ltz {a : Nat} (h : a < 2 ^ 31) : (nI a < 0) = False := eq_false (nI_pos h)
theorem nI_zlt {a : Nat} (h : a < 2 ^ 31) : ((0 : Int32) < nI a) = (0 < a) := propext (nI_ltI (a := 0) (by omega) h)
theorem nI_leq {a b : Nat} (h : a < 2 ^ 31) (h2 : b < 2 ^ 31) : (nI a ≤ nI b) = (a ≤ b) := propext (nI_leI h h2)
theorem nI_nm1 {a : Nat} (h : a < 2 ^ 31) : (nI a = -1) = False := by
  refine eq_false fun e => ?_
  have := nI_toInt h
  rw [e] at this
  have h3 : (-1 : Int32).toInt = -1 := by decide
  omega
theorem rdI_ok {σ : ST} {a n j : Nat} (h : j < n) (hn : n < 2 ^ 31) : rdI σ a n (nI j) = some (σ.1 a j) := by
  unfold rdI
  rw [inR_nI (by omega) hn, decide_eq_true h, nI_cl (by omega)]
  rfl
theorem rdJ_ok {σ : ST} {a n j : Nat} (h : j < n) (hn : n < 2 ^ 31) : rdJ σ a n (nI j) = some (σ.2.1 a j) := by
  unfold rdJ
  rw [inR_nI (by omega) hn, decide_eq_true h, nI_cl (by omega)]
  rfl
theorem rdT_ok {σ : ST} {a n j : Nat} (h : j < n) (hn : n < 2 ^ 31) : rdT σ a n (nI j) = some (σ.2.2.1 a j) := by
  unfold rdT
  rw [inR_nI (by omega) hn, decide_eq_true h, nI_cl (by omega)]
  rfl
theorem ixR_ok {n j : Nat} (h : j < n) (hn : n < 2 ^ 31) : ixR n (nI j) = some j := by
  unfold ixR
  rw [inR_nI (by omega) hn, decide_eq_true h, nI_cl (by omega)]
  rfl
theorem wrI_ok {σ : ST} {a n j : Nat} {v : Int32} (h : j < n) (hn : n < 2 ^ 31) : wrI σ a n (nI j) v = some (setI σ a j v) := by
  unfold wrI
  rw [inR_nI (by omega) hn, decide_eq_true h, nI_cl (by omega)]
  rfl
theorem wrJ_ok {σ : ST} {a n j : Nat} {v : Int64} (h : j < n) (hn : n < 2 ^ 31) : wrJ σ a n (nI j) v = some (setJ σ a j v) := by
  unfold wrJ
  rw [inR_nI (by omega) hn, decide_eq_true h, nI_cl (by omega)]
  rfl
theorem wrT_none {σ : ST} {a n j : Nat} (h : j < n) (hn : n < 2 ^ 31) : wrT σ a n (nI j) none = some (setT σ a j none) := by
  unfold wrT
  rw [inR_nI (by omega) hn, decide_eq_true h, nI_cl (by omega)]
  rfl
theorem bind_s {α β : Type} (x : α) (K : α → Option β) : (some x).bind K = K x := id rfl
theorem bd2_s {α β γ : Type} (v : α) (s : β) (K : α → β → Option γ) : bd2 (some (v, s)) K = K v s := id rfl
theorem pfI_s (σ : ST) (a k : Nat) (v : Int32) : pfI σ a k v = some (setI σ a k v) := id rfl
theorem pfJ_s (σ : ST) (a k : Nat) (v : Int64) : pfJ σ a k v = some (setJ σ a k v) := id rfl
theorem pfZ_s (σ : ST) (a k : Nat) {v : Int32} (h : v = 0 ∨ v = 1) : pfZ σ a k v = some (setI σ a k v) := by
  unfold pfZ
  rw [if_pos h]
theorem pfZ_0 (σ : ST) (a k : Nat) : pfZ σ a k (nI 0) = some (setI σ a k 0) := pfZ_s σ a k (Or.inl rfl)
theorem pfZ_1 (σ : ST) (a k : Nat) : pfZ σ a k (nI 1) = some (setI σ a k 1) := pfZ_s σ a k (Or.inr rfl)
theorem zr_s {x : Int32} (h : x = 0 ∨ x = 1) (σ : ST) : zr x σ = some (x, σ) := by
  unfold zr
  rw [if_pos h]
theorem nl_n {β : Type} (A : Option β) (B : Nat → Option β) : nl none A B = A := id rfl
theorem nl_s {β : Type} (q : Nat) (A : Option β) (B : Nat → Option β) : nl (some q) A B = B q := id rfl
/-! reading behind writing, with addresses that differ or not -/
theorem J_setI (σ : ST) (a k : Nat) (v : Int32) : (setI σ a k v).2 = σ.2 := id rfl
theorem I_setJ (σ : ST) (a k : Nat) (v : Int64) : (setJ σ a k v).1 = σ.1 := id rfl
theorem T_setJ (σ : ST) (a k : Nat) (v : Int64) : (setJ σ a k v).2.2 = σ.2.2 := id rfl
theorem I_setT (σ : ST) (a k : Nat) (v : Option Nat) : (setT σ a k v).1 = σ.1 := id rfl
theorem J_setT (σ : ST) (a k : Nat) (v : Option Nat) : (setT σ a k v).2.1 = σ.2.1 := id rfl
theorem D_setT (σ : ST) (a k : Nat) (v : Option Nat) : (setT σ a k v).2.2.2 = σ.2.2.2 := id rfl
/-- rows outside W are left as they are; so are the made pieces -/
def Fr (W : Nat → Prop) (σ s : ST) : Prop := (∀ x, ¬ W x → s.1 x = σ.1 x ∧ s.2.1 x = σ.2.1 x ∧ s.2.2.1 x = σ.2.2.1 x) ∧ s.2.2.2 = σ.2.2.2
theorem Fr.rf (W : Nat → Prop) (σ : ST) : Fr W σ σ := ⟨fun _ _ => ⟨rfl, rfl, rfl⟩, rfl⟩
theorem Fr.tr {W : Nat → Prop} {σ s u : ST} (h : Fr W σ s) (g : Fr W s u) : Fr W σ u := ⟨fun x hx => ⟨(g.1 x hx).1.trans (h.1 x hx).1, (g.1 x hx).2.1.trans (h.1 x hx).2.1, (g.1 x hx).2.2.trans (h.1 x hx).2.2⟩, g.2.trans h.2⟩
theorem Fr.mono {W V : Nat → Prop} {σ s : ST} (h : Fr V σ s) (hs : ∀ x, V x → W x) : Fr W σ s := ⟨fun x hx => h.1 x (fun q => hx (hs x q)), h.2⟩
theorem Fr_setI {W : Nat → Prop} {σ : ST} {a k : Nat} {v : Int32} (h : W a) : Fr W σ (setI σ a k v) := by
  refine ⟨fun x hx => ⟨?_, rfl, rfl⟩, rfl⟩
  show (if x = a then _ else _) = _
  rw [if_neg]
  rintro rfl
  exact hx h
theorem Fr_setJ {W : Nat → Prop} {σ : ST} {a k : Nat} {v : Int64} (h : W a) : Fr W σ (setJ σ a k v) := by
  refine ⟨fun x hx => ⟨rfl, ?_, rfl⟩, rfl⟩
  show (if x = a then _ else _) = _
  rw [if_neg]
  rintro rfl
  exact hx h
theorem Fr_setT {W : Nat → Prop} {σ : ST} {a k : Nat} {v : Option Nat} (h : W a) : Fr W σ (setT σ a k v) := by
  refine ⟨fun x hx => ⟨rfl, rfl, ?_⟩, rfl⟩
  show (if x = a then _ else _) = _
  rw [if_neg]
  rintro rfl
  exact hx h
theorem Fr_wrI {W : Nat → Prop} {σ s : ST} {a n : Nat} {i v : Int32} (h : W a) (hw : wrI σ a n i v = some s) : Fr W σ s := by
  unfold wrI at hw
  split at hw
  · cases hw; exact Fr_setI h
  · cases hw
theorem Fr_wrJ {W : Nat → Prop} {σ s : ST} {a n : Nat} {i : Int32} {v : Int64} (h : W a) (hw : wrJ σ a n i v = some s) : Fr W σ s := by
  unfold wrJ at hw
  split at hw
  · cases hw; exact Fr_setJ h
  · cases hw
theorem Fr_wrT {W : Nat → Prop} {σ s : ST} {a n : Nat} {i : Int32} {v : Option Nat} (h : W a) (hw : wrT σ a n i v = some s) : Fr W σ s := by
  unfold wrT at hw
  split at hw
  · cases v with
    | none => cases hw; exact Fr_setT h
    | some p =>
      obtain ⟨_, -, hw⟩ := bd_some hw
      cases hw; exact Fr_setT h
  · cases hw
theorem Fr_pfI {W : Nat → Prop} {σ s : ST} {a k : Nat} {v : Int32} (h : W a) (hw : pfI σ a k v = some s) : Fr W σ s := by
  cases hw; exact Fr_setI h
theorem Fr_pfJ {W : Nat → Prop} {σ s : ST} {a k : Nat} {v : Int64} (h : W a) (hw : pfJ σ a k v = some s) : Fr W σ s := by
  cases hw; exact Fr_setJ h
theorem Fr_pfZ {W : Nat → Prop} {σ s : ST} {a k : Nat} {v : Int32} (h : W a) (hw : pfZ σ a k v = some s) : Fr W σ s := by
  unfold pfZ at hw
  split at hw
  · cases hw; exact Fr_setI h
  · cases hw
theorem Fr_pfP {W : Nat → Prop} {σ s : ST} {cs : List Nat} {p k : Nat} {v : Int32} (h : W p) (hw : pfP cs σ p k v = some s) : Fr W σ s := by
  obtain ⟨_, -, hw⟩ := bd_some hw
  cases hw; exact Fr_setI h
theorem Fr_cpI {W : Nat → Prop} {σ s : ST} {a0 n0 a n1 : Nat} {sp dp n : Int32} (h : W a) (hw : cpI σ a0 n0 a n1 sp dp n = some s) : Fr W σ s := by
  unfold cpI at hw
  split at hw
  · cases hw
    refine ⟨fun x hx => ⟨?_, rfl, rfl⟩, rfl⟩
    show (if x = a then _ else _) = _
    rw [if_neg]
    rintro rfl
    exact hx h
  · cases hw
theorem Fr_cpJ {W : Nat → Prop} {σ s : ST} {a0 n0 a n1 : Nat} {sp dp n : Int32} (h : W a) (hw : cpJ σ a0 n0 a n1 sp dp n = some s) : Fr W σ s := by
  unfold cpJ at hw
  split at hw
  · cases hw
    refine ⟨fun x hx => ⟨rfl, ?_, rfl⟩, rfl⟩
    show (if x = a then _ else _) = _
    rw [if_neg]
    rintro rfl
    exact hx h
  · cases hw
theorem ite_or {β : Type} {c : Prop} [Decidable c] {A B : Option β} {r : β} (h : (if c then A else B) = some r) : A = some r ∨ B = some r := by
  by_cases hc : c
  · rw [if_pos hc] at h; exact Or.inl h
  · rw [if_neg hc] at h; exact Or.inr h
theorem nl_or {β : Type} {v : Option Nat} {A : Option β} {B : Nat → Option β} {r : β} (h : nl v A B = some r) : A = some r ∨ ∃ q, B q = some r := by
  cases v with
  | none => exact Or.inl h
  | some q => exact Or.inr ⟨q, h⟩
theorem ixR_bd {γ : Type} {n : Nat} {i : Int32} {K : Nat → Option γ} {r : γ} (h : (ixR n i).bind K = some r) : ∃ j, j < n ∧ K j = some r := by
  unfold ixR at h
  split at h
  · rename_i hi
    refine ⟨i.toNatClampNeg, ?_, h⟩
    unfold inR at hi
    simp only [Bool.and_eq_true, decide_eq_true_eq] at hi
    obtain ⟨j, hj, rfl⟩ := nI_of (Int32.not_lt.mpr hi.1)
    rw [nI_cl hj]
    have h2 := Int32.lt_iff_toInt_lt.mp hi.2
    rw [nI_toInt hj] at h2
    by_cases hn : n < 2 ^ 31
    · rw [nI_toInt hn] at h2; omega
    · omega
  · cases h
theorem zr_st {x v : Int32} {σ s : ST} (h : zr x σ = some (v, s)) : s = σ := by
  unfold zr at h
  split at h
  · cases h; rfl
  · cases h
