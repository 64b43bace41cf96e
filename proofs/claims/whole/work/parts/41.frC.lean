/-! ===== what a function leaves as it is ===== -/
def W_J7_fill_53178_5 (a0 : Nat) (n0 : Nat) (x : Nat) : Prop := x = a0
theorem fr_J7_fill_53178_5 {a0 : Nat} {n0 : Nat} {W : Nat → Prop} (hW : ∀ x, W_J7_fill_53178_5 a0 n0 x → W x) : ∀ (n : Nat) {x1 : Int32} {x2 : Int32} {x3 : Int32} {sg : ST} {s : ST}, f_J7_fill_53178_5 a0 n0 n x1 x2 x3 sg = some s → Fr W sg s := by
  intro n
  induction n with
  | zero => intro _ _ _ _ _ h; rw [f_J7_fill_53178_5] at h; cases h
  | succ n ih =>
    intro x1 x2 x3 sg s h
    rw [f_J7_fill_53178_5] at h
    have F := Fr.rf W sg
    rcases ite_or h with h | h
    · obtain ⟨s1, hw, h⟩ := bd_some h
      replace F := F.tr (Fr_wrI (hW _ (by unfold W_J7_fill_53178_5; omega)) hw)
      exact F.tr (ih h)
    · cases h; exact F
def W_J7_fill_53178 (a0 : Nat) (n0 : Nat) (x : Nat) : Prop := x = a0
theorem fr_J7_fill_53178 {a0 : Nat} {n0 : Nat} {x1 : Int32} {σ : ST} {s : ST} (h : f_J7_fill_53178 a0 n0 x1 σ = some s) : Fr (W_J7_fill_53178 a0 n0) σ s := by
  unfold f_J7_fill_53178 at h
  have F := Fr.rf (W_J7_fill_53178 a0 n0) σ
  refine F.tr (fr_J7_fill_53178_5 (fun x hx => by unfold W_J7_fill_53178_5 at hx; unfold W_J7_fill_53178; omega) FU h)
def W_X0_addSeen (a0 : Nat) (x : Nat) : Prop := x = a0 + 4 ∨ x = a0 + 5
theorem fr_X0_addSeen {a0 : Nat} {x1 : Int32} {x2 : Int32} {σ : ST} {s : ST} (h : f_X0_addSeen a0 x1 x2 σ = some s) : Fr (W_X0_addSeen a0) σ s := by
  unfold f_X0_addSeen at h
  have F := Fr.rf (W_X0_addSeen a0) σ
  obtain ⟨v1, -, h⟩ := bd_some h
  obtain ⟨s2, hw, h⟩ := bd_some h
  replace F := F.tr (Fr_wrI (by unfold W_X0_addSeen; omega) hw)
  obtain ⟨v3, -, h⟩ := bd_some h
  obtain ⟨s4, hw, h⟩ := bd_some h
  replace F := F.tr (Fr_wrI (by unfold W_X0_addSeen; omega) hw)
  cases h; exact F
def W_X0_addSpan_31 (a0 : Nat) (x : Nat) : Prop := x = a0 + 6
theorem fr_X0_addSpan_31 {a0 : Nat} {k63 : Nat → Int32 → ST → Option ST} {W : Nat → Prop} (hW : ∀ x, W_X0_addSpan_31 a0 x → W x) (hk63 : ∀ {u0 : Nat} {u1 : Int32} {sg : ST} {s : ST}, k63 u0 u1 sg = some s → Fr W sg s) : ∀ (n : Nat) {p1 : Nat} {x2 : Int32} {x3 : Int32} {sg : ST} {s : ST}, f_X0_addSpan_31 a0 k63 n p1 x2 x3 sg = some s → Fr W sg s := by
  intro n
  induction n with
  | zero => intro _ _ _ _ _ h; rw [f_X0_addSpan_31] at h; cases h
  | succ n ih =>
    intro p1 x2 x3 sg s h
    rw [f_X0_addSpan_31] at h
    have F := Fr.rf W sg
    obtain ⟨v3, -, h⟩ := bd_some h
    rcases ite_or h with h | h
    · exact F.tr (hk63 h)
    · obtain ⟨v4, -, h⟩ := bd_some h
      obtain ⟨v5, -, h⟩ := bd_some h
      obtain ⟨s6, hw, h⟩ := bd_some h
      replace F := F.tr (Fr_wrI (hW _ (by unfold W_X0_addSpan_31; omega)) hw)
      exact F.tr (ih h)
def W_X0_addSpan (a0 : Nat) (p1 : Nat) (x : Nat) : Prop := x = a0 ∨ x = a0 + 6 ∨ x = a0 + 7
theorem fr_X0_addSpan {a0 : Nat} {p1 : Nat} {σ : ST} {s : ST} (h : f_X0_addSpan a0 p1 σ = some s) : Fr (W_X0_addSpan a0 p1) σ s := by
  unfold f_X0_addSpan at h
  have F := Fr.rf (W_X0_addSpan a0 p1) σ
  rcases ite_or h with h | h
  · obtain ⟨s1, hw, h⟩ := bd_some h
    replace F := F.tr (Fr_pfI (by unfold W_X0_addSpan; omega) hw)
    obtain ⟨v2, -, h⟩ := bd_some h
    refine F.tr (fr_X0_addSpan_31 (fun x hx => by unfold W_X0_addSpan_31 at hx; unfold W_X0_addSpan; omega) ?_ FU h)
    · intro p1_7 x2_8 s9 _ h
      have F := Fr.rf (W_X0_addSpan a0 p1) s9
      obtain ⟨v10, -, h⟩ := bd_some h
      obtain ⟨v11, -, h⟩ := bd_some h
      obtain ⟨s12, hw, h⟩ := bd_some h
      replace F := F.tr (Fr_wrI (by unfold W_X0_addSpan; omega) hw)
      cases h; exact F
  · cases h; exact F
def W_X0_addWas_27 (a0 : Nat) (x : Nat) : Prop := x = a0 + 1 ∨ x = a0 + 2 ∨ x = a0 + 3
theorem fr_X0_addWas_27 {a0 : Nat} {W : Nat → Prop} (hW : ∀ x, W_X0_addWas_27 a0 x → W x) : ∀ (n : Nat) {p1 : Nat} {x2 : Int32} {x3 : Int32} {sg : ST} {s : ST}, f_X0_addWas_27 a0 n p1 x2 x3 sg = some s → Fr W sg s := by
  intro n
  induction n with
  | zero => intro _ _ _ _ _ h; rw [f_X0_addWas_27] at h; cases h
  | succ n ih =>
    intro p1 x2 x3 sg s h
    rw [f_X0_addWas_27] at h
    have F := Fr.rf W sg
    obtain ⟨v4, -, h⟩ := bd_some h
    rcases ite_or h with h | h
    · cases h; exact F
    · rcases ite_or h with h | h
      · obtain ⟨v5, -, h⟩ := bd_some h
        rcases ite_or h with h | h
        · obtain ⟨v9, -, h⟩ := bd_some h
          obtain ⟨v10, -, h⟩ := bd_some h
          obtain ⟨s11, hw, h⟩ := bd_some h
          replace F := F.tr (Fr_wrI (hW _ (by unfold W_X0_addWas_27; omega)) hw)
          exact F.tr (ih h)
        · obtain ⟨v6, -, h⟩ := bd_some h
          obtain ⟨v7, -, h⟩ := bd_some h
          obtain ⟨s8, hw, h⟩ := bd_some h
          replace F := F.tr (Fr_wrI (hW _ (by unfold W_X0_addWas_27; omega)) hw)
          exact F.tr (ih h)
      · obtain ⟨v12, -, h⟩ := bd_some h
        obtain ⟨v13, -, h⟩ := bd_some h
        obtain ⟨s14, hw, h⟩ := bd_some h
        replace F := F.tr (Fr_wrI (hW _ (by unfold W_X0_addWas_27; omega)) hw)
        exact F.tr (ih h)
def W_X0_addWas_21 (a0 : Nat) (x : Nat) : Prop := x = a0 + 1 ∨ x = a0 + 2 ∨ x = a0 + 3
theorem fr_X0_addWas_21 {a0 : Nat} {W : Nat → Prop} (hW : ∀ x, W_X0_addWas_21 a0 x → W x) {p1 : Nat} {z0 : Int32} {sg : ST} {s : ST} (h : f_X0_addWas_21 a0 p1 z0 sg = some s) : Fr W sg s := by
  unfold f_X0_addWas_21 at h
  have F := Fr.rf W sg
  obtain ⟨v3, -, h⟩ := bd_some h
  refine F.tr (fr_X0_addWas_27 (fun x hx => hW x (by unfold W_X0_addWas_27 at hx; unfold W_X0_addWas_21; omega)) FU h)
def W_X0_addWas (a0 : Nat) (p1 : Nat) (x : Nat) : Prop := x = a0 + 1 ∨ x = a0 + 2 ∨ x = a0 + 3
theorem fr_X0_addWas {a0 : Nat} {p1 : Nat} {σ : ST} {s : ST} (h : f_X0_addWas a0 p1 σ = some s) : Fr (W_X0_addWas a0 p1) σ s := by
  unfold f_X0_addWas at h
  have F := Fr.rf (W_X0_addWas a0 p1) σ
  obtain ⟨v1, -, h⟩ := bd_some h
  obtain ⟨v2, -, h⟩ := bd_some h
  rcases ite_or h with h | h
  · refine F.tr (fr_X0_addWas_21 (fun x hx => by unfold W_X0_addWas_21 at hx; unfold W_X0_addWas; omega) h)
  · refine F.tr (fr_X0_addWas_21 (fun x hx => by unfold W_X0_addWas_21 at hx; unfold W_X0_addWas; omega) h)
def W_X0_add_53 (a0 : Nat) (x : Nat) : Prop := x = a0 + 4
theorem fr_X0_add_53 {a0 : Nat} {W : Nat → Prop} (hW : ∀ x, W_X0_add_53 a0 x → W x) : ∀ (n : Nat) {p1 : Nat} {x2 : Int32} {sg : ST} {s : ST}, f_X0_add_53 a0 n p1 x2 sg = some s → Fr W sg s := by
  intro n
  induction n with
  | zero => intro _ _ _ _ h; rw [f_X0_add_53] at h; cases h
  | succ n ih =>
    intro p1 x2 sg s h
    rw [f_X0_add_53] at h
    have F := Fr.rf W sg
    obtain ⟨v5, -, h⟩ := bd_some h
    rcases ite_or h with h | h
    · cases h; exact F
    · obtain ⟨v6, -, h⟩ := bd_some h
      obtain ⟨v7, -, h⟩ := bd_some h
      obtain ⟨s8, hw, h⟩ := bd_some h
      replace F := F.tr (Fr_wrI (hW _ (by unfold W_X0_add_53; omega)) hw)
      exact F.tr (ih h)
def W_X0_add (a0 : Nat) (p1 : Nat) (x : Nat) : Prop := x = a0 ∨ x = a0 + 1 ∨ x = a0 + 2 ∨ x = a0 + 3 ∨ x = a0 + 4 ∨ x = a0 + 5 ∨ x = a0 + 6 ∨ x = a0 + 7
theorem fr_X0_add {a0 : Nat} {p1 : Nat} {σ : ST} {s : ST} (h : f_X0_add a0 p1 σ = some s) : Fr (W_X0_add a0 p1) σ s := by
  unfold f_X0_add at h
  have F := Fr.rf (W_X0_add a0 p1) σ
  obtain ⟨v1, -, h⟩ := bd_some h
  rcases ite_or h with h | h
  · obtain ⟨s2, hp, h⟩ := bd_some h
    replace F := F.tr (Fr.mono (fr_X0_addSpan hp) (fun x hx => by unfold W_X0_addSpan at hx; unfold W_X0_add; omega))
    cases h; exact F
  rcases ite_or h with h | h
  · obtain ⟨s3, hp, h⟩ := bd_some h
    replace F := F.tr (Fr.mono (fr_X0_addWas hp) (fun x hx => by unfold W_X0_addWas at hx; unfold W_X0_add; omega))
    cases h; exact F
  rcases ite_or h with h | h
  · obtain ⟨v4, -, h⟩ := bd_some h
    refine F.tr (fr_X0_add_53 (fun x hx => by unfold W_X0_add_53 at hx; unfold W_X0_add; omega) FU h)
  obtain ⟨v9, -, h⟩ := bd_some h
  obtain ⟨v10, -, h⟩ := bd_some h
  obtain ⟨s11, hp, h⟩ := bd_some h
  replace F := F.tr (Fr.mono (fr_X0_addSeen hp) (fun x hx => by unfold W_X0_addSeen at hx; unfold W_X0_add; omega))
  cases h; exact F
def W_X0_gather_78 (a0 : Nat) (x : Nat) : Prop := x = a0 ∨ x = a0 + 1 ∨ x = a0 + 2 ∨ x = a0 + 3 ∨ x = a0 + 4 ∨ x = a0 + 5 ∨ x = a0 + 6 ∨ x = a0 + 7
theorem fr_X0_gather_78 {a0 : Nat} {W : Nat → Prop} (hW : ∀ x, W_X0_gather_78 a0 x → W x) : ∀ (n : Nat) {x1 : Int32} {x2 : Int32} {sg : ST} {s : ST}, f_X0_gather_78 a0 n x1 x2 sg = some s → Fr W sg s := by
  intro n
  induction n with
  | zero => intro _ _ _ _ h; rw [f_X0_gather_78] at h; cases h
  | succ n ih =>
    intro x1 x2 sg s h
    rw [f_X0_gather_78] at h
    have F := Fr.rf W sg
    rcases ite_or h with h | h
    · obtain ⟨q9, -, h⟩ := bd_some h
      rcases nl_or h with h | ⟨q10, h⟩
      · exact F.tr (ih h)
      · rcases ite_or h with h | h
        · exact F.tr (ih h)
        · obtain ⟨s11, hp, h⟩ := bd_some h
          replace F := F.tr (Fr.mono (fr_X0_add hp) (fun x hx => hW x (by unfold W_X0_add at hx; unfold W_X0_gather_78; omega)))
          exact F.tr (ih h)
    · cases h; exact F
def W_X0_gather (a0 : Nat) (x : Nat) : Prop := x = (a0 + 1) ∨ x = (a0 + 2) ∨ x = (a0 + 3) ∨ x = (a0 + 4) ∨ x = (a0 + 5) ∨ x = (a0 + 6) ∨ x = (a0 + 7) ∨ x = a0 ∨ x = a0 + 1 ∨ x = a0 + 2 ∨ x = a0 + 3 ∨ x = a0 + 4 ∨ x = a0 + 5 ∨ x = a0 + 6 ∨ x = a0 + 7
theorem fr_X0_gather {a0 : Nat} {x1 : Int32} {σ : ST} {s : ST} (h : f_X0_gather a0 x1 σ = some s) : Fr (W_X0_gather a0) σ s := by
  unfold f_X0_gather at h
  have F := Fr.rf (W_X0_gather a0) σ
  obtain ⟨s1, hp, h⟩ := bd_some h
  replace F := F.tr (Fr.mono (fr_J7_fill_53178 hp) (fun x hx => by unfold W_J7_fill_53178 at hx; unfold W_X0_gather; omega))
  obtain ⟨s2, hp, h⟩ := bd_some h
  replace F := F.tr (Fr.mono (fr_J7_fill_53178 hp) (fun x hx => by unfold W_J7_fill_53178 at hx; unfold W_X0_gather; omega))
  obtain ⟨s3, hp, h⟩ := bd_some h
  replace F := F.tr (Fr.mono (fr_J7_fill_53178 hp) (fun x hx => by unfold W_J7_fill_53178 at hx; unfold W_X0_gather; omega))
  obtain ⟨s4, hp, h⟩ := bd_some h
  replace F := F.tr (Fr.mono (fr_J7_fill_53178 hp) (fun x hx => by unfold W_J7_fill_53178 at hx; unfold W_X0_gather; omega))
  obtain ⟨s5, hp, h⟩ := bd_some h
  replace F := F.tr (Fr.mono (fr_J7_fill_53178 hp) (fun x hx => by unfold W_J7_fill_53178 at hx; unfold W_X0_gather; omega))
  obtain ⟨s6, hp, h⟩ := bd_some h
  replace F := F.tr (Fr.mono (fr_J7_fill_53178 hp) (fun x hx => by unfold W_J7_fill_53178 at hx; unfold W_X0_gather; omega))
  obtain ⟨s7, hp, h⟩ := bd_some h
  replace F := F.tr (Fr.mono (fr_J7_fill_53178 hp) (fun x hx => by unfold W_J7_fill_53178 at hx; unfold W_X0_gather; omega))
  obtain ⟨s8, hw, h⟩ := bd_some h
  replace F := F.tr (Fr_pfI (by unfold W_X0_gather; omega) hw)
  refine F.tr (fr_X0_gather_78 (fun x hx => by unfold W_X0_gather_78 at hx; unfold W_X0_gather; omega) FU h)
def W_X0_allows (a0 : Nat) (x : Nat) : Prop := False
theorem fr_X0_allows {a0 : Nat} {x1 : Int32} {x2 : Int32} {x3 : Int32} {σ : ST} {v : Int32} {s : ST} (h : f_X0_allows a0 x1 x2 x3 σ = some (v, s)) : Fr (W_X0_allows a0) σ s := by
  unfold f_X0_allows at h
  have F := Fr.rf (W_X0_allows a0) σ
  obtain ⟨v1, -, h⟩ := bd_some h
  obtain ⟨v2, -, h⟩ := bd_some h
  rcases ite_or h with h | h
  · obtain ⟨v3, -, h⟩ := bd_some h
    rcases ite_or h with h | h
    · obtain ⟨v4, -, h⟩ := bd_some h
      rcases ite_or h with h | h
      · cases h; exact F
      · cases h; exact F
    · cases h; exact F
  · cases h; exact F
def W_X0_mayChoose (a0 : Nat) (x : Nat) : Prop := False
theorem fr_X0_mayChoose {a0 : Nat} {x1 : Int32} {x2 : Int32} {σ : ST} {v : Int32} {s : ST} (h : f_X0_mayChoose a0 x1 x2 σ = some (v, s)) : Fr (W_X0_mayChoose a0) σ s := by
  unfold f_X0_mayChoose at h
  have F := Fr.rf (W_X0_mayChoose a0) σ
  obtain ⟨v1, -, h⟩ := bd_some h
  rcases ite_or h with h | h
  · cases h; exact F
  · cases h; exact F
def W_X0_flagsAfter (a0 : Nat) (x : Nat) : Prop := False
theorem fr_X0_flagsAfter {a0 : Nat} {x1 : Int32} {x2 : Int32} {x3 : Int32} {σ : ST} {v : Int32} {s : ST} (h : f_X0_flagsAfter a0 x1 x2 x3 σ = some (v, s)) : Fr (W_X0_flagsAfter a0) σ s := by
  unfold f_X0_flagsAfter at h
  have F := Fr.rf (W_X0_flagsAfter a0) σ
  obtain ⟨v1, -, h⟩ := bd_some h
  obtain ⟨v2, -, h⟩ := bd_some h
  obtain ⟨v3, -, h⟩ := bd_some h
  rcases ite_or h with h | h
  · cases h; exact F
  · cases h; exact F
def W_X0_costOf_29 (a0 : Nat) (x : Nat) : Prop := False
theorem fr_X0_costOf_29 {a0 : Nat} {W : Nat → Prop} (hW : ∀ x, W_X0_costOf_29 a0 x → W x) {x2 : Int32} {z0 : Int32} {sg : ST} {v : Int32} {s : ST} (h : f_X0_costOf_29 a0 x2 z0 sg = some (v, s)) : Fr W sg s := by
  unfold f_X0_costOf_29 at h
  have F := Fr.rf W sg
  rcases ite_or h with h | h
  · obtain ⟨j1, hj1, h⟩ := ixR_bd h
    cases h; exact F
  · cases h; exact F
def W_X0_costOf_24 (a0 : Nat) (x : Nat) : Prop := False
theorem fr_X0_costOf_24 {a0 : Nat} {W : Nat → Prop} (hW : ∀ x, W_X0_costOf_24 a0 x → W x) {x2 : Int32} {sg : ST} {v : Int32} {s : ST} (h : f_X0_costOf_24 a0 x2 sg = some (v, s)) : Fr W sg s := by
  unfold f_X0_costOf_24 at h
  have F := Fr.rf W sg
  refine F.tr (fr_X0_costOf_29 (fun x hx => hW x (by unfold W_X0_costOf_29 at hx; unfold W_X0_costOf_24; omega)) h)
def W_X0_costOf (a0 : Nat) (x : Nat) : Prop := False
theorem fr_X0_costOf {a0 : Nat} {x1 : Int32} {x2 : Int32} {σ : ST} {v : Int32} {s : ST} (h : f_X0_costOf a0 x1 x2 σ = some (v, s)) : Fr (W_X0_costOf a0) σ s := by
  unfold f_X0_costOf at h
  have F := Fr.rf (W_X0_costOf a0) σ
  rcases ite_or h with h | h
  · obtain ⟨v2, -, h⟩ := bd_some h
    rcases ite_or h with h | h
    · refine F.tr (fr_X0_costOf_29 (fun x hx => by unfold W_X0_costOf_29 at hx; unfold W_X0_costOf; omega) h)
    · refine F.tr (fr_X0_costOf_24 (fun x hx => by unfold W_X0_costOf_24 at hx; unfold W_X0_costOf; omega) h)
  · refine F.tr (fr_X0_costOf_24 (fun x hx => by unfold W_X0_costOf_24 at hx; unfold W_X0_costOf; omega) h)
def W_X1_become (a0 : Nat) (a1 : Nat) (x : Nat) : Prop := x = a0 ∨ x = a0 + 1 ∨ x = a0 + 2 ∨ x = a0 + 3 ∨ x = a0 + 4
theorem fr_X1_become {a0 : Nat} {a1 : Nat} {σ : ST} {s : ST} (h : f_X1_become a0 a1 σ = some s) : Fr (W_X1_become a0 a1) σ s := by
  unfold f_X1_become at h
  have F := Fr.rf (W_X1_become a0 a1) σ
  obtain ⟨s1, hw, h⟩ := bd_some h
  replace F := F.tr (Fr_pfI (by unfold W_X1_become; omega) hw)
  obtain ⟨s2, hw, h⟩ := bd_some h
  replace F := F.tr (Fr_cpI (by unfold W_X1_become; omega) hw)
  obtain ⟨s3, hw, h⟩ := bd_some h
  replace F := F.tr (Fr_cpI (by unfold W_X1_become; omega) hw)
  obtain ⟨s4, hw, h⟩ := bd_some h
  replace F := F.tr (Fr_cpI (by unfold W_X1_become; omega) hw)
  obtain ⟨s5, hw, h⟩ := bd_some h
  replace F := F.tr (Fr_cpI (by unfold W_X1_become; omega) hw)
  cases h; exact F
def W_X1_openAll (a0 : Nat) (x : Nat) : Prop := x = a0 ∨ x = a0 + 1 ∨ x = a0 + 2 ∨ x = a0 + 3 ∨ x = a0 + 4
theorem fr_X1_openAll {a0 : Nat} {σ : ST} {s : ST} (h : f_X1_openAll a0 σ = some s) : Fr (W_X1_openAll a0) σ s := by
  unfold f_X1_openAll at h
  have F := Fr.rf (W_X1_openAll a0) σ
  rcases ite_or h with h | h
  · obtain ⟨s1, hw, h⟩ := bd_some h
    replace F := F.tr (Fr_wrI (by unfold W_X1_openAll; omega) hw)
    obtain ⟨s2, hw, h⟩ := bd_some h
    replace F := F.tr (Fr_wrI (by unfold W_X1_openAll; omega) hw)
    obtain ⟨s3, hw, h⟩ := bd_some h
    replace F := F.tr (Fr_wrI (by unfold W_X1_openAll; omega) hw)
    obtain ⟨s4, hw, h⟩ := bd_some h
    replace F := F.tr (Fr_wrI (by unfold W_X1_openAll; omega) hw)
    obtain ⟨s5, hw, h⟩ := bd_some h
    replace F := F.tr (Fr_pfI (by unfold W_X1_openAll; omega) hw)
    cases h; exact F
  · cases h; exact F
def W_X1_addSo (a0 : Nat) (x : Nat) : Prop := x = a0 + 1 ∨ x = a0 + 2
theorem fr_X1_addSo {a0 : Nat} {x1 : Int32} {x2 : Int32} {σ : ST} {s : ST} (h : f_X1_addSo a0 x1 x2 σ = some s) : Fr (W_X1_addSo a0) σ s := by
  unfold f_X1_addSo at h
  have F := Fr.rf (W_X1_addSo a0) σ
  rcases ite_or h with h | h
  · cases h; exact F
  · rcases ite_or h with h | h
    · obtain ⟨v1, -, h⟩ := bd_some h
      obtain ⟨s2, hw, h⟩ := bd_some h
      replace F := F.tr (Fr_wrI (by unfold W_X1_addSo; omega) hw)
      cases h; exact F
    · obtain ⟨v3, -, h⟩ := bd_some h
      obtain ⟨s4, hw, h⟩ := bd_some h
      replace F := F.tr (Fr_wrI (by unfold W_X1_addSo; omega) hw)
      cases h; exact F
def W_X1_addAbove (a0 : Nat) (x : Nat) : Prop := x = a0 + 3 ∨ x = a0 + 4
theorem fr_X1_addAbove {a0 : Nat} {x1 : Int32} {x2 : Int32} {σ : ST} {s : ST} (h : f_X1_addAbove a0 x1 x2 σ = some s) : Fr (W_X1_addAbove a0) σ s := by
  unfold f_X1_addAbove at h
  have F := Fr.rf (W_X1_addAbove a0) σ
  rcases ite_or h with h | h
  · cases h; exact F
  · rcases ite_or h with h | h
    · obtain ⟨v1, -, h⟩ := bd_some h
      obtain ⟨s2, hw, h⟩ := bd_some h
      replace F := F.tr (Fr_wrI (by unfold W_X1_addAbove; omega) hw)
      cases h; exact F
    · obtain ⟨v3, -, h⟩ := bd_some h
      obtain ⟨s4, hw, h⟩ := bd_some h
      replace F := F.tr (Fr_wrI (by unfold W_X1_addAbove; omega) hw)
      cases h; exact F
def W_X1_isMet_43 (a0 : Nat) (x : Nat) : Prop := False
theorem fr_X1_isMet_43 {a0 : Nat} {k2 : Int32 → Int32 → Int32 → ST → Option (Int32 × ST)} {W : Nat → Prop} (hW : ∀ x, W_X1_isMet_43 a0 x → W x) (hk2 : ∀ {u0 : Int32} {u1 : Int32} {u2 : Int32} {sg : ST} {v : Int32} {s : ST}, k2 u0 u1 u2 sg = some (v, s) → Fr W sg s) {x1 : Int32} {x2 : Int32} {x3 : Int32} {z0 : Int32} {sg : ST} {v : Int32} {s : ST} (h : f_X1_isMet_43 a0 k2 x1 x2 x3 z0 sg = some (v, s)) : Fr W sg s := by
  unfold f_X1_isMet_43 at h
  have F := Fr.rf W sg
  rcases ite_or h with h | h
  · exact F.tr (hk2 h)
  · obtain ⟨v3, -, h⟩ := bd_some h
    rcases ite_or h with h | h
    · obtain ⟨v4, -, h⟩ := bd_some h
      rcases ite_or h with h | h
      · exact F.tr (hk2 h)
      · cases h; exact F
    · exact F.tr (hk2 h)
def W_X1_isMet_42 (a0 : Nat) (x : Nat) : Prop := False
theorem fr_X1_isMet_42 {a0 : Nat} {k2 : Int32 → Int32 → Int32 → ST → Option (Int32 × ST)} {W : Nat → Prop} (hW : ∀ x, W_X1_isMet_42 a0 x → W x) (hk2 : ∀ {u0 : Int32} {u1 : Int32} {u2 : Int32} {sg : ST} {v : Int32} {s : ST}, k2 u0 u1 u2 sg = some (v, s) → Fr W sg s) {x1 : Int32} {x2 : Int32} {x3 : Int32} {sg : ST} {v : Int32} {s : ST} (h : f_X1_isMet_42 a0 k2 x1 x2 x3 sg = some (v, s)) : Fr W sg s := by
  unfold f_X1_isMet_42 at h
  have F := Fr.rf W sg
  refine F.tr (fr_X1_isMet_43 (fun x hx => hW x (by unfold W_X1_isMet_43 at hx; unfold W_X1_isMet_42; omega)) (fun h => hk2 h) h)
def W_X1_isMet_2 (a0 : Nat) (x : Nat) : Prop := False
theorem fr_X1_isMet_2 {a0 : Nat} {k78 : ST → Option (Int32 × ST)} {W : Nat → Prop} (hW : ∀ x, W_X1_isMet_2 a0 x → W x) (hk78 : ∀ {sg : ST} {v : Int32} {s : ST}, k78 sg = some (v, s) → Fr W sg s) : ∀ (n : Nat) {x1 : Int32} {x2 : Int32} {x3 : Int32} {sg : ST} {v : Int32} {s : ST}, f_X1_isMet_2 a0 k78 n x1 x2 x3 sg = some (v, s) → Fr W sg s := by
  intro n
  induction n with
  | zero => intro _ _ _ _ _ _ h; rw [f_X1_isMet_2] at h; cases h
  | succ n ih =>
    intro x1 x2 x3 sg v s h
    rw [f_X1_isMet_2] at h
    have F := Fr.rf W sg
    rcases ite_or h with h | h
    · obtain ⟨v1, -, h⟩ := bd_some h
      obtain ⟨v2, -, h⟩ := bd_some h
      rcases ite_or h with h | h
      · obtain ⟨v5, -, h⟩ := bd_some h
        rcases ite_or h with h | h
        · refine F.tr (fr_X1_isMet_43 (fun x hx => hW x (by unfold W_X1_isMet_43 at hx; unfold W_X1_isMet_2; omega)) (fun h => ih h) h)
        · refine F.tr (fr_X1_isMet_42 (fun x hx => hW x (by unfold W_X1_isMet_42 at hx; unfold W_X1_isMet_2; omega)) (fun h => ih h) h)
      · refine F.tr (fr_X1_isMet_42 (fun x hx => hW x (by unfold W_X1_isMet_42 at hx; unfold W_X1_isMet_2; omega)) (fun h => ih h) h)
    · exact F.tr (hk78 h)
def W_X1_isMet (a0 : Nat) (x : Nat) : Prop := False
theorem fr_X1_isMet {a0 : Nat} {x1 : Int32} {x2 : Int32} {σ : ST} {v : Int32} {s : ST} (h : f_X1_isMet a0 x1 x2 σ = some (v, s)) : Fr (W_X1_isMet a0) σ s := by
  unfold f_X1_isMet at h
  have F := Fr.rf (W_X1_isMet a0) σ
  refine F.tr (fr_X1_isMet_2 (fun x hx => by unfold W_X1_isMet_2 at hx; unfold W_X1_isMet; omega) ?_ FU h)
  · intro s6 _ _ h
    have F := Fr.rf (W_X1_isMet a0) s6
    rcases ite_or h with h | h
    · cases h; exact F
    · cases h; exact F
def W_X2_clearCosts_2 (a0 : Nat) (x : Nat) : Prop := x = a0 + 1
theorem fr_X2_clearCosts_2 {a0 : Nat} {W : Nat → Prop} (hW : ∀ x, W_X2_clearCosts_2 a0 x → W x) : ∀ (n : Nat) {x1 : Int32} {x2 : Int32} {sg : ST} {s : ST}, f_X2_clearCosts_2 a0 n x1 x2 sg = some s → Fr W sg s := by
  intro n
  induction n with
  | zero => intro _ _ _ _ h; rw [f_X2_clearCosts_2] at h; cases h
  | succ n ih =>
    intro x1 x2 sg s h
    rw [f_X2_clearCosts_2] at h
    have F := Fr.rf W sg
    rcases ite_or h with h | h
    · obtain ⟨s1, hw, h⟩ := bd_some h
      replace F := F.tr (Fr_wrI (hW _ (by unfold W_X2_clearCosts_2; omega)) hw)
      exact F.tr (ih h)
    · cases h; exact F
def W_X2_clearCosts (a0 : Nat) (x : Nat) : Prop := x = a0 + 1
theorem fr_X2_clearCosts {a0 : Nat} {x1 : Int32} {σ : ST} {s : ST} (h : f_X2_clearCosts a0 x1 σ = some s) : Fr (W_X2_clearCosts a0) σ s := by
  unfold f_X2_clearCosts at h
  have F := Fr.rf (W_X2_clearCosts a0) σ
  refine F.tr (fr_X2_clearCosts_2 (fun x hx => by unfold W_X2_clearCosts_2 at hx; unfold W_X2_clearCosts; omega) FU h)
def W_X10_countOf_4 (x : Nat) : Prop := False
theorem fr_X10_countOf_4 {W : Nat → Prop} (hW : ∀ x, W_X10_countOf_4 x → W x) : ∀ (n : Nat) {x1 : Int32} {x2 : Int32} {x3 : Int32} {sg : ST} {v : Int32} {s : ST}, f_X10_countOf_4 n x1 x2 x3 sg = some (v, s) → Fr W sg s := by
  intro n
  induction n with
  | zero => intro _ _ _ _ _ _ h; rw [f_X10_countOf_4] at h; cases h
  | succ n ih =>
    intro x1 x2 x3 sg v s h
    rw [f_X10_countOf_4] at h
    have F := Fr.rf W sg
    rcases ite_or h with h | h
    · obtain ⟨v1, -, h⟩ := bd_some h
      rcases ite_or h with h | h
      · exact F.tr (ih h)
      · exact F.tr (ih h)
    · cases h; exact F
def W_X10_countOf (x : Nat) : Prop := False
theorem fr_X10_countOf {x1 : Int32} {σ : ST} {v : Int32} {s : ST} (h : f_X10_countOf x1 σ = some (v, s)) : Fr (W_X10_countOf ) σ s := by
  unfold f_X10_countOf at h
  have F := Fr.rf (W_X10_countOf ) σ
  refine F.tr (fr_X10_countOf_4 (fun x hx => by unfold W_X10_countOf_4 at hx; unfold W_X10_countOf; omega) FU h)
def W_X10_lowStates (x : Nat) : Prop := False
theorem fr_X10_lowStates {σ : ST} {v : Int32} {s : ST} (h : f_X10_lowStates σ = some (v, s)) : Fr (W_X10_lowStates ) σ s := by
  unfold f_X10_lowStates at h
  have F := Fr.rf (W_X10_lowStates ) σ
  obtain ⟨v2, s1, hp, h⟩ := bd2_some h
  replace F := F.tr (Fr.mono (fr_X10_countOf hp) (fun x hx => by unfold W_X10_countOf at hx; exact hx.elim))
  rcases ite_or h with h | h
  · obtain ⟨v6, s5, hp, h⟩ := bd2_some h
    replace F := F.tr (Fr.mono (fr_X10_countOf hp) (fun x hx => by unfold W_X10_countOf at hx; exact hx.elim))
    cases h; exact F
  · obtain ⟨v4, s3, hp, h⟩ := bd2_some h
    replace F := F.tr (Fr.mono (fr_X10_countOf hp) (fun x hx => by unfold W_X10_countOf at hx; exact hx.elim))
    cases h; exact F
def W_X2_sizeUp (a0 : Nat) (x : Nat) : Prop := x = a0
theorem fr_X2_sizeUp {a0 : Nat} {σ : ST} {s : ST} (h : f_X2_sizeUp a0 σ = some s) : Fr (W_X2_sizeUp a0) σ s := by
  unfold f_X2_sizeUp at h
  have F := Fr.rf (W_X2_sizeUp a0) σ
  obtain ⟨v2, s1, hp, h⟩ := bd2_some h
  replace F := F.tr (Fr.mono (fr_X10_countOf hp) (fun x hx => by unfold W_X10_countOf at hx; exact hx.elim))
  obtain ⟨s3, hw, h⟩ := bd_some h
  replace F := F.tr (Fr_pfI (by unfold W_X2_sizeUp; omega) hw)
  obtain ⟨v5, s4, hp, h⟩ := bd2_some h
  replace F := F.tr (Fr.mono (fr_X10_lowStates hp) (fun x hx => by unfold W_X10_lowStates at hx; exact hx.elim))
  obtain ⟨s6, hw, h⟩ := bd_some h
  replace F := F.tr (Fr_pfI (by unfold W_X2_sizeUp; omega) hw)
  obtain ⟨s7, hw, h⟩ := bd_some h
  replace F := F.tr (Fr_pfI (by unfold W_X2_sizeUp; omega) hw)
  obtain ⟨s8, hw, h⟩ := bd_some h
  replace F := F.tr (Fr_pfI (by unfold W_X2_sizeUp; omega) hw)
  cases h; exact F
def W_X10_freeLooks (x : Nat) : Prop := False
theorem fr_X10_freeLooks {σ : ST} {v : Int32} {s : ST} (h : f_X10_freeLooks σ = some (v, s)) : Fr (W_X10_freeLooks ) σ s := by
  unfold f_X10_freeLooks at h
  have F := Fr.rf (W_X10_freeLooks ) σ
  obtain ⟨v2, s1, hp, h⟩ := bd2_some h
  replace F := F.tr (Fr.mono (fr_X10_countOf hp) (fun x hx => by unfold W_X10_countOf at hx; exact hx.elim))
  cases h; exact F
def W_X2_goesOnAsOne_3 (a0 : Nat) (x : Nat) : Prop := False
theorem fr_X2_goesOnAsOne_3 {a0 : Nat} {W : Nat → Prop} (hW : ∀ x, W_X2_goesOnAsOne_3 a0 x → W x) : ∀ (n : Nat) {x1 : Int32} {x3 : Int32} {x4 : Int32} {sg : ST} {v : Int32} {s : ST}, f_X2_goesOnAsOne_3 a0 n x1 x3 x4 sg = some (v, s) → Fr W sg s := by
  intro n
  induction n with
  | zero => intro _ _ _ _ _ _ h; rw [f_X2_goesOnAsOne_3] at h; cases h
  | succ n ih =>
    intro x1 x3 x4 sg v s h
    rw [f_X2_goesOnAsOne_3] at h
    have F := Fr.rf W sg
    rcases ite_or h with h | h
    · obtain ⟨v1, -, h⟩ := bd_some h
      obtain ⟨v2, -, h⟩ := bd_some h
      obtain ⟨v3, -, h⟩ := bd_some h
      rcases ite_or h with h | h
      · cases h; exact F
      · exact F.tr (ih h)
    · cases h; exact F
def W_X2_goesOnAsOne (a0 : Nat) (x : Nat) : Prop := False
theorem fr_X2_goesOnAsOne {a0 : Nat} {x1 : Int32} {x2 : Int32} {x3 : Int32} {σ : ST} {v : Int32} {s : ST} (h : f_X2_goesOnAsOne a0 x1 x2 x3 σ = some (v, s)) : Fr (W_X2_goesOnAsOne a0) σ s := by
  unfold f_X2_goesOnAsOne at h
  have F := Fr.rf (W_X2_goesOnAsOne a0) σ
  refine F.tr (fr_X2_goesOnAsOne_3 (fun x hx => by unfold W_X2_goesOnAsOne_3 at hx; unfold W_X2_goesOnAsOne; omega) FU h)
def W_X2_isReached_2 (a0 : Nat) (x : Nat) : Prop := False
theorem fr_X2_isReached_2 {a0 : Nat} {W : Nat → Prop} (hW : ∀ x, W_X2_isReached_2 a0 x → W x) : ∀ (n : Nat) {x1 : Int32} {x2 : Int32} {x3 : Int32} {sg : ST} {v : Int32} {s : ST}, f_X2_isReached_2 a0 n x1 x2 x3 sg = some (v, s) → Fr W sg s := by
  intro n
  induction n with
  | zero => intro _ _ _ _ _ _ h; rw [f_X2_isReached_2] at h; cases h
  | succ n ih =>
    intro x1 x2 x3 sg v s h
    rw [f_X2_isReached_2] at h
    have F := Fr.rf W sg
    rcases ite_or h with h | h
    · obtain ⟨v1, -, h⟩ := bd_some h
      rcases ite_or h with h | h
      · cases h; exact F
      · exact F.tr (ih h)
    · cases h; exact F
def W_X2_isReached (a0 : Nat) (x : Nat) : Prop := False
theorem fr_X2_isReached {a0 : Nat} {x1 : Int32} {x2 : Int32} {σ : ST} {v : Int32} {s : ST} (h : f_X2_isReached a0 x1 x2 σ = some (v, s)) : Fr (W_X2_isReached a0) σ s := by
  unfold f_X2_isReached at h
  have F := Fr.rf (W_X2_isReached a0) σ
  refine F.tr (fr_X2_isReached_2 (fun x hx => by unfold W_X2_isReached_2 at hx; unfold W_X2_isReached; omega) FU h)
def W_X2_gatherLooks_43 (a0 : Nat) (x : Nat) : Prop := x = a0 + 3
theorem fr_X2_gatherLooks_43 {a0 : Nat} {k119 : Int32 → Int32 → Int32 → Int32 → Int32 → ST → Option (Int32 × ST)} {W : Nat → Prop} (hW : ∀ x, W_X2_gatherLooks_43 a0 x → W x) (hk119 : ∀ {u0 : Int32} {u1 : Int32} {u2 : Int32} {u3 : Int32} {u4 : Int32} {sg : ST} {v : Int32} {s : ST}, k119 u0 u1 u2 u3 u4 sg = some (v, s) → Fr W sg s) : ∀ (n : Nat) {x1 : Int32} {x2 : Int32} {x3 : Int32} {x4 : Int32} {x5 : Int32} {x6 : Int32} {x7 : Int32} {sg : ST} {v : Int32} {s : ST}, f_X2_gatherLooks_43 a0 k119 n x1 x2 x3 x4 x5 x6 x7 sg = some (v, s) → Fr W sg s := by
  intro n
  induction n with
  | zero => intro _ _ _ _ _ _ _ _ _ _ h; rw [f_X2_gatherLooks_43] at h; cases h
  | succ n ih =>
    intro x1 x2 x3 x4 x5 x6 x7 sg v s h
    rw [f_X2_gatherLooks_43] at h
    have F := Fr.rf W sg
    rcases ite_or h with h | h
    · obtain ⟨v5, -, h⟩ := bd_some h
      obtain ⟨v7, s6, hp, h⟩ := bd2_some h
      replace F := F.tr (Fr.mono (fr_X0_allows hp) (fun x hx => by unfold W_X0_allows at hx; exact hx.elim))
      rcases ite_or h with h | h
      · exact F.tr (ih h)
      · rcases ite_or h with h | h
        · obtain ⟨v10, s9, hp, h⟩ := bd2_some h
          replace F := F.tr (Fr.mono (fr_X2_goesOnAsOne hp) (fun x hx => by unfold W_X2_goesOnAsOne at hx; exact hx.elim))
          rcases ite_or h with h | h
          · obtain ⟨s11, hw, h⟩ := bd_some h
            replace F := F.tr (Fr_wrI (hW _ (by unfold W_X2_gatherLooks_43; omega)) hw)
            exact F.tr (ih h)
          · exact F.tr (ih h)
        · obtain ⟨s8, hw, h⟩ := bd_some h
          replace F := F.tr (Fr_wrI (hW _ (by unfold W_X2_gatherLooks_43; omega)) hw)
          exact F.tr (ih h)
    · exact F.tr (hk119 h)
def W_X2_gatherLooks_14 (a0 : Nat) (x : Nat) : Prop := x = a0 + 3
theorem fr_X2_gatherLooks_14 {a0 : Nat} {W : Nat → Prop} (hW : ∀ x, W_X2_gatherLooks_14 a0 x → W x) : ∀ (n : Nat) {x1 : Int32} {x2 : Int32} {x3 : Int32} {x4 : Int32} {x5 : Int32} {sg : ST} {v : Int32} {s : ST}, f_X2_gatherLooks_14 a0 n x1 x2 x3 x4 x5 sg = some (v, s) → Fr W sg s := by
  intro n
  induction n with
  | zero => intro _ _ _ _ _ _ _ _ h; rw [f_X2_gatherLooks_14] at h; cases h
  | succ n ih =>
    intro x1 x2 x3 x4 x5 sg v s h
    rw [f_X2_gatherLooks_14] at h
    have F := Fr.rf W sg
    rcases ite_or h with h | h
    · obtain ⟨v4, s3, hp, h⟩ := bd2_some h
      replace F := F.tr (Fr.mono (fr_X2_isReached hp) (fun x hx => by unfold W_X2_isReached at hx; exact hx.elim))
      rcases ite_or h with h | h
      · exact F.tr (ih h)
      · refine F.tr (fr_X2_gatherLooks_43 (fun x hx => hW x (by unfold W_X2_gatherLooks_43 at hx; unfold W_X2_gatherLooks_14; omega)) ?_ FU h)
        · intro x1_12 x2_13 x3_14 x4_15 x5_16 s17 _ _ h
          have F := Fr.rf W s17
          exact F.tr (ih h)
    · cases h; exact F
def W_X2_gatherLooks (a0 : Nat) (x : Nat) : Prop := x = a0 + 3
theorem fr_X2_gatherLooks {a0 : Nat} {x1 : Int32} {x2 : Int32} {σ : ST} {v : Int32} {s : ST} (h : f_X2_gatherLooks a0 x1 x2 σ = some (v, s)) : Fr (W_X2_gatherLooks a0) σ s := by
  unfold f_X2_gatherLooks at h
  have F := Fr.rf (W_X2_gatherLooks a0) σ
  obtain ⟨v2, s1, hp, h⟩ := bd2_some h
  replace F := F.tr (Fr.mono (fr_X10_freeLooks hp) (fun x hx => by unfold W_X10_freeLooks at hx; exact hx.elim))
  refine F.tr (fr_X2_gatherLooks_14 (fun x hx => by unfold W_X2_gatherLooks_14 at hx; unfold W_X2_gatherLooks; omega) FU h)
def W_X2_layerOf (x : Nat) : Prop := False
theorem fr_X2_layerOf {x0 : Int32} {σ : ST} {v : Int32} {s : ST} (h : f_X2_layerOf x0 σ = some (v, s)) : Fr (W_X2_layerOf ) σ s := by
  unfold f_X2_layerOf at h
  have F := Fr.rf (W_X2_layerOf ) σ
  cases h; exact F
def W_X2_addTally_46 (a0 : Nat) (x : Nat) : Prop := x = a0 + 2
theorem fr_X2_addTally_46 {a0 : Nat} {W : Nat → Prop} (hW : ∀ x, W_X2_addTally_46 a0 x → W x) {x1 : Int32} {x2 : Int32} {x3 : Int32} {z0 : Int32} {sg : ST} {s : ST} (h : f_X2_addTally_46 a0 x1 x2 x3 z0 sg = some s) : Fr W sg s := by
  unfold f_X2_addTally_46 at h
  have F := Fr.rf W sg
  obtain ⟨v2, s1, hp, h⟩ := bd2_some h
  replace F := F.tr (Fr.mono (fr_X2_layerOf hp) (fun x hx => by unfold W_X2_layerOf at hx; exact hx.elim))
  obtain ⟨v3, -, h⟩ := bd_some h
  obtain ⟨v5, s4, hp, h⟩ := bd2_some h
  replace F := F.tr (Fr.mono (fr_X2_layerOf hp) (fun x hx => by unfold W_X2_layerOf at hx; exact hx.elim))
  obtain ⟨v6, -, h⟩ := bd_some h
  rcases ite_or h with h | h
  · obtain ⟨s7, hw, h⟩ := bd_some h
    replace F := F.tr (Fr_wrJ (hW _ (by unfold W_X2_addTally_46; omega)) hw)
    cases h; exact F
  · obtain ⟨s8, hw, h⟩ := bd_some h
    replace F := F.tr (Fr_wrJ (hW _ (by unfold W_X2_addTally_46; omega)) hw)
    cases h; exact F
def W_X2_addTally (a0 : Nat) (x : Nat) : Prop := x = a0 + 2
theorem fr_X2_addTally {a0 : Nat} {x1 : Int32} {x2 : Int32} {x3 : Int32} {x4 : Int32} {x5 : Int32} {σ : ST} {s : ST} (h : f_X2_addTally a0 x1 x2 x3 x4 x5 σ = some s) : Fr (W_X2_addTally a0) σ s := by
  unfold f_X2_addTally at h
  have F := Fr.rf (W_X2_addTally a0) σ
  rcases ite_or h with h | h
  · rcases ite_or h with h | h
    · refine F.tr (fr_X2_addTally_46 (fun x hx => by unfold W_X2_addTally_46 at hx; unfold W_X2_addTally; omega) h)
    · refine F.tr (fr_X2_addTally_46 (fun x hx => by unfold W_X2_addTally_46 at hx; unfold W_X2_addTally; omega) h)
  · rcases ite_or h with h | h
    · refine F.tr (fr_X2_addTally_46 (fun x hx => by unfold W_X2_addTally_46 at hx; unfold W_X2_addTally; omega) h)
    · refine F.tr (fr_X2_addTally_46 (fun x hx => by unfold W_X2_addTally_46 at hx; unfold W_X2_addTally; omega) h)
def W_X2_keep (a0 : Nat) (x : Nat) : Prop := x = a0 + 2 ∨ x = a0 + 4 ∨ x = a0 + 5 ∨ x = a0 + 6 ∨ x = a0 + 7
theorem fr_X2_keep {a0 : Nat} {x1 : Int32} {x2 : Int32} {x3 : Int32} {x4 : Int32} {x5 : Int32} {σ : ST} {s : ST} (h : f_X2_keep a0 x1 x2 x3 x4 x5 σ = some s) : Fr (W_X2_keep a0) σ s := by
  unfold f_X2_keep at h
  have F := Fr.rf (W_X2_keep a0) σ
  obtain ⟨v2, s1, hp, h⟩ := bd2_some h
  replace F := F.tr (Fr.mono (fr_X2_layerOf hp) (fun x hx => by unfold W_X2_layerOf at hx; exact hx.elim))
  obtain ⟨v3, -, h⟩ := bd_some h
  obtain ⟨v5, s4, hp, h⟩ := bd2_some h
  replace F := F.tr (Fr.mono (fr_X2_layerOf hp) (fun x hx => by unfold W_X2_layerOf at hx; exact hx.elim))
  obtain ⟨v6, -, h⟩ := bd_some h
  obtain ⟨s7, hw, h⟩ := bd_some h
  replace F := F.tr (Fr_wrJ (by unfold W_X2_keep; omega) hw)
  obtain ⟨v8, -, h⟩ := bd_some h
  obtain ⟨s9, hw, h⟩ := bd_some h
  replace F := F.tr (Fr_wrI (by unfold W_X2_keep; omega) hw)
  obtain ⟨v10, -, h⟩ := bd_some h
  obtain ⟨s11, hw, h⟩ := bd_some h
  replace F := F.tr (Fr_wrI (by unfold W_X2_keep; omega) hw)
  obtain ⟨v12, -, h⟩ := bd_some h
  obtain ⟨s13, hw, h⟩ := bd_some h
  replace F := F.tr (Fr_wrI (by unfold W_X2_keep; omega) hw)
  obtain ⟨v14, -, h⟩ := bd_some h
  obtain ⟨s15, hw, h⟩ := bd_some h
  replace F := F.tr (Fr_wrI (by unfold W_X2_keep; omega) hw)
  cases h; exact F
def W_X2_meet_70 (a0 : Nat) (x : Nat) : Prop := x = a0 + 1 ∨ x = a0 + 2 ∨ x = a0 + 4 ∨ x = a0 + 5 ∨ x = a0 + 6 ∨ x = a0 + 7
theorem fr_X2_meet_70 {a0 : Nat} {k10 : Int32 → Int32 → Int32 → Int32 → Int32 → Int32 → Int32 → Int32 → ST → Option ST} {W : Nat → Prop} (hW : ∀ x, W_X2_meet_70 a0 x → W x) (hk10 : ∀ {u0 : Int32} {u1 : Int32} {u2 : Int32} {u3 : Int32} {u4 : Int32} {u5 : Int32} {u6 : Int32} {u7 : Int32} {sg : ST} {s : ST}, k10 u0 u1 u2 u3 u4 u5 u6 u7 sg = some s → Fr W sg s) {x1 : Int32} {x2 : Int32} {x3 : Int32} {x4 : Int32} {x5 : Int32} {x6 : Int32} {x7 : Int32} {x8 : Int32} {x9 : Int32} {x10 : Int32} {z0 : Int32} {sg : ST} {s : ST} (h : f_X2_meet_70 a0 k10 x1 x2 x3 x4 x5 x6 x7 x8 x9 x10 z0 sg = some s) : Fr W sg s := by
  unfold f_X2_meet_70 at h
  have F := Fr.rf W sg
  rcases ite_or h with h | h
  · exact F.tr (hk10 h)
  · rcases ite_or h with h | h
    · obtain ⟨v7, -, h⟩ := bd_some h
      obtain ⟨s8, hw, h⟩ := bd_some h
      replace F := F.tr (Fr_wrI (hW _ (by unfold W_X2_meet_70; omega)) hw)
      exact F.tr (hk10 h)
    · obtain ⟨v2, -, h⟩ := bd_some h
      rcases ite_or h with h | h
      · rcases ite_or h with h | h
        · obtain ⟨v5, -, h⟩ := bd_some h
          obtain ⟨s6, hp, h⟩ := bd_some h
          replace F := F.tr (Fr.mono (fr_X2_keep hp) (fun x hx => hW x (by unfold W_X2_keep at hx; unfold W_X2_meet_70; omega)))
          exact F.tr (hk10 h)
        · obtain ⟨v3, -, h⟩ := bd_some h
          obtain ⟨s4, hp, h⟩ := bd_some h
          replace F := F.tr (Fr.mono (fr_X2_addTally hp) (fun x hx => hW x (by unfold W_X2_addTally at hx; unfold W_X2_meet_70; omega)))
          exact F.tr (hk10 h)
      · exact F.tr (hk10 h)
def W_X2_meet_10 (a0 : Nat) (x : Nat) : Prop := x = a0 + 1 ∨ x = a0 + 2 ∨ x = a0 + 4 ∨ x = a0 + 5 ∨ x = a0 + 6 ∨ x = a0 + 7
theorem fr_X2_meet_10 {a0 : Nat} {W : Nat → Prop} (hW : ∀ x, W_X2_meet_10 a0 x → W x) : ∀ (n : Nat) {x1 : Int32} {x2 : Int32} {x3 : Int32} {x4 : Int32} {x5 : Int32} {x6 : Int32} {x7 : Int32} {x8 : Int32} {sg : ST} {s : ST}, f_X2_meet_10 a0 n x1 x2 x3 x4 x5 x6 x7 x8 sg = some s → Fr W sg s := by
  intro n
  induction n with
  | zero => intro _ _ _ _ _ _ _ _ _ _ h; rw [f_X2_meet_10] at h; cases h
  | succ n ih =>
    intro x1 x2 x3 x4 x5 x6 x7 x8 sg s h
    rw [f_X2_meet_10] at h
    have F := Fr.rf W sg
    rcases ite_or h with h | h
    · obtain ⟨v1, -, h⟩ := bd_some h
      rcases ite_or h with h | h
      · obtain ⟨v10, s9, hp, h⟩ := bd2_some h
        replace F := F.tr (Fr.mono (fr_X0_flagsAfter hp) (fun x hx => by unfold W_X0_flagsAfter at hx; exact hx.elim))
        refine F.tr (fr_X2_meet_70 (fun x hx => hW x (by unfold W_X2_meet_70 at hx; unfold W_X2_meet_10; omega)) (fun h => ih h) h)
      · refine F.tr (fr_X2_meet_70 (fun x hx => hW x (by unfold W_X2_meet_70 at hx; unfold W_X2_meet_10; omega)) (fun h => ih h) h)
    · cases h; exact F
def W_X2_meet (a0 : Nat) (x : Nat) : Prop := x = a0 + 1 ∨ x = a0 + 2 ∨ x = a0 + 4 ∨ x = a0 + 5 ∨ x = a0 + 6 ∨ x = a0 + 7
theorem fr_X2_meet {a0 : Nat} {x1 : Int32} {x2 : Int32} {x3 : Int32} {x4 : Int32} {x5 : Int32} {x6 : Int32} {σ : ST} {s : ST} (h : f_X2_meet a0 x1 x2 x3 x4 x5 x6 σ = some s) : Fr (W_X2_meet a0) σ s := by
  unfold f_X2_meet at h
  have F := Fr.rf (W_X2_meet a0) σ
  refine F.tr (fr_X2_meet_10 (fun x hx => by unfold W_X2_meet_10 at hx; unfold W_X2_meet; omega) FU h)
def W_X2_walk_48 (a0 : Nat) (x : Nat) : Prop := x = a0 + 1 ∨ x = a0 + 2 ∨ x = a0 + 4 ∨ x = a0 + 5 ∨ x = a0 + 6 ∨ x = a0 + 7
theorem fr_X2_walk_48 {a0 : Nat} {k105 : Int32 → Int32 → Int32 → Int32 → ST → Option ST} {W : Nat → Prop} (hW : ∀ x, W_X2_walk_48 a0 x → W x) (hk105 : ∀ {u0 : Int32} {u1 : Int32} {u2 : Int32} {u3 : Int32} {sg : ST} {s : ST}, k105 u0 u1 u2 u3 sg = some s → Fr W sg s) : ∀ (n : Nat) {x1 : Int32} {x2 : Int32} {x3 : Int32} {x4 : Int32} {x5 : Int32} {x6 : Int32} {sg : ST} {s : ST}, f_X2_walk_48 a0 k105 n x1 x2 x3 x4 x5 x6 sg = some s → Fr W sg s := by
  intro n
  induction n with
  | zero => intro _ _ _ _ _ _ _ _ h; rw [f_X2_walk_48] at h; cases h
  | succ n ih =>
    intro x1 x2 x3 x4 x5 x6 sg s h
    rw [f_X2_walk_48] at h
    have F := Fr.rf W sg
    rcases ite_or h with h | h
    · obtain ⟨v7, -, h⟩ := bd_some h
      obtain ⟨v8, -, h⟩ := bd_some h
      rcases ite_or h with h | h
      · exact F.tr (ih h)
      · obtain ⟨v9, -, h⟩ := bd_some h
        obtain ⟨s10, hp, h⟩ := bd_some h
        replace F := F.tr (Fr.mono (fr_X2_meet hp) (fun x hx => hW x (by unfold W_X2_meet at hx; unfold W_X2_walk_48; omega)))
        exact F.tr (ih h)
    · exact F.tr (hk105 h)
def W_X2_walk_10 (a0 : Nat) (x : Nat) : Prop := x = a0 + 1 ∨ x = a0 + 2 ∨ x = a0 + 4 ∨ x = a0 + 5 ∨ x = a0 + 6 ∨ x = a0 + 7
theorem fr_X2_walk_10 {a0 : Nat} {W : Nat → Prop} (hW : ∀ x, W_X2_walk_10 a0 x → W x) : ∀ (n : Nat) {x1 : Int32} {x2 : Int32} {x3 : Int32} {x4 : Int32} {sg : ST} {s : ST}, f_X2_walk_10 a0 n x1 x2 x3 x4 sg = some s → Fr W sg s := by
  intro n
  induction n with
  | zero => intro _ _ _ _ _ _ h; rw [f_X2_walk_10] at h; cases h
  | succ n ih =>
    intro x1 x2 x3 x4 sg s h
    rw [f_X2_walk_10] at h
    have F := Fr.rf W sg
    rcases ite_or h with h | h
    · obtain ⟨v4, s3, hp, h⟩ := bd2_some h
      replace F := F.tr (Fr.mono (fr_X0_mayChoose hp) (fun x hx => by unfold W_X0_mayChoose at hx; exact hx.elim))
      rcases ite_or h with h | h
      · exact F.tr (ih h)
      · obtain ⟨v6, s5, hp, h⟩ := bd2_some h
        replace F := F.tr (Fr.mono (fr_X0_costOf hp) (fun x hx => by unfold W_X0_costOf at hx; exact hx.elim))
        refine F.tr (fr_X2_walk_48 (fun x hx => hW x (by unfold W_X2_walk_48 at hx; unfold W_X2_walk_10; omega)) ?_ FU h)
        · intro x1_11 x2_12 x3_13 x4_14 s15 _ h
          have F := Fr.rf W s15
          exact F.tr (ih h)
    · cases h; exact F
def W_X2_walk (a0 : Nat) (x : Nat) : Prop := x = a0 + 1 ∨ x = a0 + 2 ∨ x = a0 + 3 ∨ x = a0 + 4 ∨ x = a0 + 5 ∨ x = a0 + 6 ∨ x = a0 + 7
theorem fr_X2_walk {a0 : Nat} {x1 : Int32} {x2 : Int32} {σ : ST} {s : ST} (h : f_X2_walk a0 x1 x2 σ = some s) : Fr (W_X2_walk a0) σ s := by
  unfold f_X2_walk at h
  have F := Fr.rf (W_X2_walk a0) σ
  obtain ⟨v2, s1, hp, h⟩ := bd2_some h
  replace F := F.tr (Fr.mono (fr_X2_gatherLooks hp) (fun x hx => by unfold W_X2_gatherLooks at hx; unfold W_X2_walk; omega))
  refine F.tr (fr_X2_walk_10 (fun x hx => by unfold W_X2_walk_10 at hx; unfold W_X2_walk; omega) FU h)
def W_X2_find_34 (a0 : Nat) (x : Nat) : Prop := x = a0 + 1
theorem fr_X2_find_34 {a0 : Nat} {k59 : ST → Option (Int32 × ST)} {W : Nat → Prop} (hW : ∀ x, W_X2_find_34 a0 x → W x) (hk59 : ∀ {sg : ST} {v : Int32} {s : ST}, k59 sg = some (v, s) → Fr W sg s) : ∀ (n : Nat) {x4 : Int32} {sg : ST} {v : Int32} {s : ST}, f_X2_find_34 a0 k59 n x4 sg = some (v, s) → Fr W sg s := by
  intro n
  induction n with
  | zero => intro _ _ _ _ h; rw [f_X2_find_34] at h; cases h
  | succ n ih =>
    intro x4 sg v s h
    rw [f_X2_find_34] at h
    have F := Fr.rf W sg
    rcases ite_or h with h | h
    · obtain ⟨s4, hw, h⟩ := bd_some h
      replace F := F.tr (Fr_wrI (hW _ (by unfold W_X2_find_34; omega)) hw)
      exact F.tr (ih h)
    · exact F.tr (hk59 h)
def W_X2_find_62 (a0 : Nat) (x : Nat) : Prop := x = a0 + 1 ∨ x = a0 + 2 ∨ x = a0 + 3 ∨ x = a0 + 4 ∨ x = a0 + 5 ∨ x = a0 + 6 ∨ x = a0 + 7
theorem fr_X2_find_62 {a0 : Nat} {k90 : ST → Option (Int32 × ST)} {W : Nat → Prop} (hW : ∀ x, W_X2_find_62 a0 x → W x) (hk90 : ∀ {sg : ST} {v : Int32} {s : ST}, k90 sg = some (v, s) → Fr W sg s) : ∀ (n : Nat) {x4 : Int32} {sg : ST} {v : Int32} {s : ST}, f_X2_find_62 a0 k90 n x4 sg = some (v, s) → Fr W sg s := by
  intro n
  induction n with
  | zero => intro _ _ _ _ h; rw [f_X2_find_62] at h; cases h
  | succ n ih =>
    intro x4 sg v s h
    rw [f_X2_find_62] at h
    have F := Fr.rf W sg
    rcases ite_or h with h | h
    · obtain ⟨s6, hp, h⟩ := bd_some h
      replace F := F.tr (Fr.mono (fr_X2_clearCosts hp) (fun x hx => hW x (by unfold W_X2_clearCosts at hx; unfold W_X2_find_62; omega)))
      obtain ⟨s7, hp, h⟩ := bd_some h
      replace F := F.tr (Fr.mono (fr_X2_walk hp) (fun x hx => hW x (by unfold W_X2_walk at hx; unfold W_X2_find_62; omega)))
      exact F.tr (ih h)
    · exact F.tr (hk90 h)
def W_X2_find_97 (a0 : Nat) (x : Nat) : Prop := False
theorem fr_X2_find_97 {a0 : Nat} {k130 : Int32 → ST → Option (Int32 × ST)} {W : Nat → Prop} (hW : ∀ x, W_X2_find_97 a0 x → W x) (hk130 : ∀ {u0 : Int32} {sg : ST} {v : Int32} {s : ST}, k130 u0 sg = some (v, s) → Fr W sg s) : ∀ (n : Nat) {x4 : Int32} {x5 : Int32} {sg : ST} {v : Int32} {s : ST}, f_X2_find_97 a0 k130 n x4 x5 sg = some (v, s) → Fr W sg s := by
  intro n
  induction n with
  | zero => intro _ _ _ _ _ h; rw [f_X2_find_97] at h; cases h
  | succ n ih =>
    intro x4 x5 sg v s h
    rw [f_X2_find_97] at h
    have F := Fr.rf W sg
    rcases ite_or h with h | h
    · obtain ⟨v9, -, h⟩ := bd_some h
      exact F.tr (ih h)
    · exact F.tr (hk130 h)
def W_X2_find_144 (a0 : Nat) (b0 : Nat) (x : Nat) : Prop := x = a0 ∨ x = b0
theorem fr_X2_find_144 {a0 : Nat} {b0 : Nat} {W : Nat → Prop} (hW : ∀ x, W_X2_find_144 a0 b0 x → W x) {x4 : Int32} {z1 : Int32} {sg : ST} {v : Int32} {s : ST} (h : f_X2_find_144 a0 b0 x4 z1 sg = some (v, s)) : Fr W sg s := by
  unfold f_X2_find_144 at h
  have F := Fr.rf W sg
  obtain ⟨s12, hw, h⟩ := bd_some h
  replace F := F.tr (Fr_pfI (hW _ (by unfold W_X2_find_144; omega)) hw)
  obtain ⟨s13, hw, h⟩ := bd_some h
  replace F := F.tr (Fr_pfJ (hW _ (by unfold W_X2_find_144; omega)) hw)
  rcases ite_or h with h | h
  · cases h; exact F
  · cases h; exact F
def W_X2_find_22 (a0 : Nat) (x : Nat) : Prop := x = a0 ∨ x = a0 + 1 ∨ x = a0 + 2 ∨ x = a0 + 3 ∨ x = a0 + 4 ∨ x = a0 + 5 ∨ x = a0 + 6 ∨ x = a0 + 7
theorem fr_X2_find_22 {a0 : Nat} {W : Nat → Prop} (hW : ∀ x, W_X2_find_22 a0 x → W x) {sg : ST} {v : Int32} {s : ST} (h : f_X2_find_22 a0 sg = some (v, s)) : Fr W sg s := by
  unfold f_X2_find_22 at h
  have F := Fr.rf W sg
  obtain ⟨s2, hp, h⟩ := bd_some h
  replace F := F.tr (Fr.mono (fr_X2_sizeUp hp) (fun x hx => hW x (by unfold W_X2_sizeUp at hx; unfold W_X2_find_22; omega)))
  obtain ⟨s3, hp, h⟩ := bd_some h
  replace F := F.tr (Fr.mono (fr_X2_clearCosts hp) (fun x hx => hW x (by unfold W_X2_clearCosts at hx; unfold W_X2_find_22; omega)))
  refine F.tr (fr_X2_find_34 (fun x hx => hW x (by unfold W_X2_find_34 at hx; unfold W_X2_find_22; omega)) ?_ FU h)
  · intro s5 _ _ h
    have F := Fr.rf W s5
    refine F.tr (fr_X2_find_62 (fun x hx => hW x (by unfold W_X2_find_62 at hx; unfold W_X2_find_22; omega)) ?_ FU h)
    · intro s8 _ _ h
      have F := Fr.rf W s8
      refine F.tr (fr_X2_find_97 (fun x hx => hW x (by unfold W_X2_find_97 at hx; unfold W_X2_find_22; omega)) ?_ FU h)
      · intro x4_10 s11 _ _ h
        have F := Fr.rf W s11
        rcases ite_or h with h | h
        · refine F.tr (fr_X2_find_144 (fun x hx => hW x (by unfold W_X2_find_144 at hx; unfold W_X2_find_22; omega)) h)
        · refine F.tr (fr_X2_find_144 (fun x hx => hW x (by unfold W_X2_find_144 at hx; unfold W_X2_find_22; omega)) h)
def W_X2_find (a0 : Nat) (x : Nat) : Prop := x = ((a0 + 8) + 1) ∨ x = ((a0 + 8) + 2) ∨ x = ((a0 + 8) + 3) ∨ x = ((a0 + 8) + 4) ∨ x = ((a0 + 8) + 5) ∨ x = ((a0 + 8) + 6) ∨ x = ((a0 + 8) + 7) ∨ x = (a0 + 8) ∨ x = (a0 + 8) + 1 ∨ x = (a0 + 8) + 2 ∨ x = (a0 + 8) + 3 ∨ x = (a0 + 8) + 4 ∨ x = (a0 + 8) + 5 ∨ x = (a0 + 8) + 6 ∨ x = (a0 + 8) + 7 ∨ x = a0 ∨ x = a0 + 1 ∨ x = a0 + 2 ∨ x = a0 + 3 ∨ x = a0 + 4 ∨ x = a0 + 5 ∨ x = a0 + 6 ∨ x = a0 + 7
theorem fr_X2_find {a0 : Nat} {x1 : Int32} {x2 : Int32} {x3 : Int32} {σ : ST} {v : Int32} {s : ST} (h : f_X2_find a0 x1 x2 x3 σ = some (v, s)) : Fr (W_X2_find a0) σ s := by
  unfold f_X2_find at h
  have F := Fr.rf (W_X2_find a0) σ
  obtain ⟨s1, hp, h⟩ := bd_some h
  replace F := F.tr (Fr.mono (fr_X0_gather hp) (fun x hx => by unfold W_X0_gather at hx; unfold W_X2_find; omega))
  rcases ite_or h with h | h
  · refine F.tr (fr_X2_find_22 (fun x hx => by unfold W_X2_find_22 at hx; unfold W_X2_find; omega) h)
  · obtain ⟨s14, hp, h⟩ := bd_some h
    replace F := F.tr (Fr.mono (fr_X0_addSeen hp) (fun x hx => by unfold W_X0_addSeen at hx; unfold W_X2_find; omega))
    refine F.tr (fr_X2_find_22 (fun x hx => by unfold W_X2_find_22 at hx; unfold W_X2_find; omega) h)
def W_X2_clearWays_7 (a0 : Nat) (x : Nat) : Prop := x = a0 + 2
theorem fr_X2_clearWays_7 {a0 : Nat} {W : Nat → Prop} (hW : ∀ x, W_X2_clearWays_7 a0 x → W x) : ∀ (n : Nat) {x2 : Int32} {x3 : Int32} {sg : ST} {s : ST}, f_X2_clearWays_7 a0 n x2 x3 sg = some s → Fr W sg s := by
  intro n
  induction n with
  | zero => intro _ _ _ _ h; rw [f_X2_clearWays_7] at h; cases h
  | succ n ih =>
    intro x2 x3 sg s h
    rw [f_X2_clearWays_7] at h
    have F := Fr.rf W sg
    rcases ite_or h with h | h
    · obtain ⟨s3, hw, h⟩ := bd_some h
      replace F := F.tr (Fr_wrJ (hW _ (by unfold W_X2_clearWays_7; omega)) hw)
      exact F.tr (ih h)
    · cases h; exact F
def W_X2_clearWays (a0 : Nat) (x : Nat) : Prop := x = a0 + 2
theorem fr_X2_clearWays {a0 : Nat} {x1 : Int32} {σ : ST} {s : ST} (h : f_X2_clearWays a0 x1 σ = some s) : Fr (W_X2_clearWays a0) σ s := by
  unfold f_X2_clearWays at h
  have F := Fr.rf (W_X2_clearWays a0) σ
  obtain ⟨v2, s1, hp, h⟩ := bd2_some h
  replace F := F.tr (Fr.mono (fr_X2_layerOf hp) (fun x hx => by unfold W_X2_layerOf at hx; exact hx.elim))
  refine F.tr (fr_X2_clearWays_7 (fun x hx => by unfold W_X2_clearWays_7 at hx; unfold W_X2_clearWays; omega) FU h)
def W_X2_dropUnkept_7 (a0 : Nat) (x : Nat) : Prop := x = a0 + 1
theorem fr_X2_dropUnkept_7 {a0 : Nat} {W : Nat → Prop} (hW : ∀ x, W_X2_dropUnkept_7 a0 x → W x) : ∀ (n : Nat) {x1 : Int32} {x2 : Int32} {x3 : Int32} {sg : ST} {s : ST}, f_X2_dropUnkept_7 a0 n x1 x2 x3 sg = some s → Fr W sg s := by
  intro n
  induction n with
  | zero => intro _ _ _ _ _ h; rw [f_X2_dropUnkept_7] at h; cases h
  | succ n ih =>
    intro x1 x2 x3 sg s h
    rw [f_X2_dropUnkept_7] at h
    have F := Fr.rf W sg
    rcases ite_or h with h | h
    · obtain ⟨v3, -, h⟩ := bd_some h
      rcases ite_or h with h | h
      · obtain ⟨s4, hw, h⟩ := bd_some h
        replace F := F.tr (Fr_wrI (hW _ (by unfold W_X2_dropUnkept_7; omega)) hw)
        exact F.tr (ih h)
      · exact F.tr (ih h)
    · cases h; exact F
def W_X2_dropUnkept (a0 : Nat) (x : Nat) : Prop := x = a0 + 1
theorem fr_X2_dropUnkept {a0 : Nat} {x1 : Int32} {σ : ST} {s : ST} (h : f_X2_dropUnkept a0 x1 σ = some s) : Fr (W_X2_dropUnkept a0) σ s := by
  unfold f_X2_dropUnkept at h
  have F := Fr.rf (W_X2_dropUnkept a0) σ
  obtain ⟨v2, s1, hp, h⟩ := bd2_some h
  replace F := F.tr (Fr.mono (fr_X2_layerOf hp) (fun x hx => by unfold W_X2_layerOf at hx; exact hx.elim))
  refine F.tr (fr_X2_dropUnkept_7 (fun x hx => by unfold W_X2_dropUnkept_7 at hx; unfold W_X2_dropUnkept; omega) FU h)
def W_X2_keepBest_57 (a0 : Nat) (b0 : Nat) (x : Nat) : Prop := x = a0 + 2 ∨ x = b0
theorem fr_X2_keepBest_57 {a0 : Nat} {b0 : Nat} {k2 : Int32 → Int32 → ST → Option ST} {W : Nat → Prop} (hW : ∀ x, W_X2_keepBest_57 a0 b0 x → W x) (hk2 : ∀ {u0 : Int32} {u1 : Int32} {sg : ST} {s : ST}, k2 u0 u1 sg = some s → Fr W sg s) {x1 : Int32} {x2 : Int32} {x4 : Int32} {z1 : Int32} {z2 : Int32} {sg : ST} {s : ST} (h : f_X2_keepBest_57 a0 b0 k2 x1 x2 x4 z1 z2 sg = some s) : Fr W sg s := by
  unfold f_X2_keepBest_57 at h
  have F := Fr.rf W sg
  obtain ⟨s2, hw, h⟩ := bd_some h
  replace F := F.tr (Fr_wrI (hW _ (by unfold W_X2_keepBest_57; omega)) hw)
  obtain ⟨v4, s3, hp, h⟩ := bd2_some h
  replace F := F.tr (Fr.mono (fr_X2_layerOf hp) (fun x hx => by unfold W_X2_layerOf at hx; exact hx.elim))
  rcases ite_or h with h | h
  · obtain ⟨s5, hw, h⟩ := bd_some h
    replace F := F.tr (Fr_wrJ (hW _ (by unfold W_X2_keepBest_57; omega)) hw)
    exact F.tr (hk2 h)
  · obtain ⟨s6, hw, h⟩ := bd_some h
    replace F := F.tr (Fr_wrJ (hW _ (by unfold W_X2_keepBest_57; omega)) hw)
    exact F.tr (hk2 h)
def W_X2_keepBest_34 (a0 : Nat) (x : Nat) : Prop := x = (a0 + 1) ∨ x = a0 + 2
theorem fr_X2_keepBest_34 {a0 : Nat} {k2 : Int32 → Int32 → ST → Option ST} {W : Nat → Prop} (hW : ∀ x, W_X2_keepBest_34 a0 x → W x) (hk2 : ∀ {u0 : Int32} {u1 : Int32} {sg : ST} {s : ST}, k2 u0 u1 sg = some s → Fr W sg s) {x1 : Int32} {x2 : Int32} {x3 : Int32} {z0 : Int32} {sg : ST} {s : ST} (h : f_X2_keepBest_34 a0 k2 x1 x2 x3 z0 sg = some s) : Fr W sg s := by
  unfold f_X2_keepBest_34 at h
  have F := Fr.rf W sg
  rcases ite_or h with h | h
  · refine F.tr (fr_X2_keepBest_57 (fun x hx => hW x (by unfold W_X2_keepBest_57 at hx; unfold W_X2_keepBest_34; omega)) (fun h => hk2 h) h)
  · obtain ⟨v7, -, h⟩ := bd_some h
    refine F.tr (fr_X2_keepBest_57 (fun x hx => hW x (by unfold W_X2_keepBest_57 at hx; unfold W_X2_keepBest_34; omega)) (fun h => hk2 h) h)
def W_X2_keepBest_2 (a0 : Nat) (x : Nat) : Prop := x = (a0 + 1) ∨ x = a0 + 2
theorem fr_X2_keepBest_2 {a0 : Nat} {k86 : Int32 → ST → Option ST} {W : Nat → Prop} (hW : ∀ x, W_X2_keepBest_2 a0 x → W x) (hk86 : ∀ {u0 : Int32} {sg : ST} {s : ST}, k86 u0 sg = some s → Fr W sg s) : ∀ (n : Nat) {x1 : Int32} {x2 : Int32} {sg : ST} {s : ST}, f_X2_keepBest_2 a0 k86 n x1 x2 sg = some s → Fr W sg s := by
  intro n
  induction n with
  | zero => intro _ _ _ _ h; rw [f_X2_keepBest_2] at h; cases h
  | succ n ih =>
    intro x1 x2 sg s h
    rw [f_X2_keepBest_2] at h
    have F := Fr.rf W sg
    rcases ite_or h with h | h
    · obtain ⟨v1, -, h⟩ := bd_some h
      rcases ite_or h with h | h
      · refine F.tr (fr_X2_keepBest_34 (fun x hx => hW x (by unfold W_X2_keepBest_34 at hx; unfold W_X2_keepBest_2; omega)) (fun h => ih h) h)
      · refine F.tr (fr_X2_keepBest_34 (fun x hx => hW x (by unfold W_X2_keepBest_34 at hx; unfold W_X2_keepBest_2; omega)) (fun h => ih h) h)
    · exact F.tr (hk86 h)
def W_X2_keepBest_89 (a0 : Nat) (x : Nat) : Prop := x = a0 + 1 ∨ x = a0 + 2 ∨ x = a0 + 3 ∨ x = a0 + 4 ∨ x = a0 + 5 ∨ x = a0 + 6 ∨ x = a0 + 7
theorem fr_X2_keepBest_89 {a0 : Nat} {k144 : Int32 → ST → Option ST} {W : Nat → Prop} (hW : ∀ x, W_X2_keepBest_89 a0 x → W x) (hk144 : ∀ {u0 : Int32} {sg : ST} {s : ST}, k144 u0 sg = some s → Fr W sg s) : ∀ (n : Nat) {x1 : Int32} {x2 : Int32} {sg : ST} {s : ST}, f_X2_keepBest_89 a0 k144 n x1 x2 sg = some s → Fr W sg s := by
  intro n
  induction n with
  | zero => intro _ _ _ _ h; rw [f_X2_keepBest_89] at h; cases h
  | succ n ih =>
    intro x1 x2 sg s h
    rw [f_X2_keepBest_89] at h
    have F := Fr.rf W sg
    rcases ite_or h with h | h
    · exact F.tr (hk144 h)
    · obtain ⟨s10, hw, h⟩ := bd_some h
      replace F := F.tr (Fr_wrI (hW _ (by unfold W_X2_keepBest_89; omega)) hw)
      obtain ⟨s11, hw, h⟩ := bd_some h
      replace F := F.tr (Fr_wrI (hW _ (by unfold W_X2_keepBest_89; omega)) hw)
      obtain ⟨s12, hw, h⟩ := bd_some h
      replace F := F.tr (Fr_wrI (hW _ (by unfold W_X2_keepBest_89; omega)) hw)
      obtain ⟨s13, hw, h⟩ := bd_some h
      replace F := F.tr (Fr_wrI (hW _ (by unfold W_X2_keepBest_89; omega)) hw)
      obtain ⟨s14, hp, h⟩ := bd_some h
      replace F := F.tr (Fr.mono (fr_X2_clearWays hp) (fun x hx => hW x (by unfold W_X2_clearWays at hx; unfold W_X2_keepBest_89; omega)))
      obtain ⟨s15, hp, h⟩ := bd_some h
      replace F := F.tr (Fr.mono (fr_X2_walk hp) (fun x hx => hW x (by unfold W_X2_walk at hx; unfold W_X2_keepBest_89; omega)))
      obtain ⟨s16, hp, h⟩ := bd_some h
      replace F := F.tr (Fr.mono (fr_X2_dropUnkept hp) (fun x hx => hW x (by unfold W_X2_dropUnkept at hx; unfold W_X2_keepBest_89; omega)))
      exact F.tr (ih h)
def W_X2_keepBest_146 (a0 : Nat) (x : Nat) : Prop := x = a0
theorem fr_X2_keepBest_146 {a0 : Nat} {W : Nat → Prop} (hW : ∀ x, W_X2_keepBest_146 a0 x → W x) : ∀ (n : Nat) {x1 : Int32} {x2 : Int32} {sg : ST} {s : ST}, f_X2_keepBest_146 a0 n x1 x2 sg = some s → Fr W sg s := by
  intro n
  induction n with
  | zero => intro _ _ _ _ h; rw [f_X2_keepBest_146] at h; cases h
  | succ n ih =>
    intro x1 x2 sg s h
    rw [f_X2_keepBest_146] at h
    have F := Fr.rf W sg
    rcases ite_or h with h | h
    · rcases ite_or h with h | h
      · obtain ⟨v20, s19, hp, h⟩ := bd2_some h
        replace F := F.tr (Fr.mono (fr_X2_layerOf hp) (fun x hx => by unfold W_X2_layerOf at hx; exact hx.elim))
        obtain ⟨v21, -, h⟩ := bd_some h
        obtain ⟨s22, hw, h⟩ := bd_some h
        replace F := F.tr (Fr_pfJ (hW _ (by unfold W_X2_keepBest_146; omega)) hw)
        exact F.tr (ih h)
      · cases h; exact F
    · cases h; exact F
def W_X2_keepBest (a0 : Nat) (x : Nat) : Prop := x = (a0 + 1) ∨ x = a0 ∨ x = a0 + 1 ∨ x = a0 + 2 ∨ x = a0 + 3 ∨ x = a0 + 4 ∨ x = a0 + 5 ∨ x = a0 + 6 ∨ x = a0 + 7
theorem fr_X2_keepBest {a0 : Nat} {x1 : Int32} {σ : ST} {s : ST} (h : f_X2_keepBest a0 x1 σ = some s) : Fr (W_X2_keepBest a0) σ s := by
  unfold f_X2_keepBest at h
  have F := Fr.rf (W_X2_keepBest a0) σ
  refine F.tr (fr_X2_keepBest_2 (fun x hx => by unfold W_X2_keepBest_2 at hx; unfold W_X2_keepBest; omega) ?_ FU h)
  · intro x1_8 s9 _ h
    have F := Fr.rf (W_X2_keepBest a0) s9
    refine F.tr (fr_X2_keepBest_89 (fun x hx => by unfold W_X2_keepBest_89 at hx; unfold W_X2_keepBest; omega) ?_ FU h)
    · intro x1_17 s18 _ h
      have F := Fr.rf (W_X2_keepBest a0) s18
      refine F.tr (fr_X2_keepBest_146 (fun x hx => by unfold W_X2_keepBest_146 at hx; unfold W_X2_keepBest; omega) FU h)
def W_X2_tally_18 (a0 : Nat) (x : Nat) : Prop := x = a0 + 2
theorem fr_X2_tally_18 {a0 : Nat} {k68 : Int32 → Int32 → ST → Option (Int32 × ST)} {W : Nat → Prop} (hW : ∀ x, W_X2_tally_18 a0 x → W x) (hk68 : ∀ {u0 : Int32} {u1 : Int32} {sg : ST} {v : Int32} {s : ST}, k68 u0 u1 sg = some (v, s) → Fr W sg s) : ∀ (n : Nat) {x2 : Int32} {x3 : Int32} {x4 : Int32} {sg : ST} {v : Int32} {s : ST}, f_X2_tally_18 a0 k68 n x2 x3 x4 sg = some (v, s) → Fr W sg s := by
  intro n
  induction n with
  | zero => intro _ _ _ _ _ _ h; rw [f_X2_tally_18] at h; cases h
  | succ n ih =>
    intro x2 x3 x4 sg v s h
    rw [f_X2_tally_18] at h
    have F := Fr.rf W sg
    rcases ite_or h with h | h
    · obtain ⟨v3, s2, hp, h⟩ := bd2_some h
      replace F := F.tr (Fr.mono (fr_X2_layerOf hp) (fun x hx => by unfold W_X2_layerOf at hx; exact hx.elim))
      obtain ⟨v4, -, h⟩ := bd_some h
      rcases ite_or h with h | h
      · obtain ⟨s6, hw, h⟩ := bd_some h
        replace F := F.tr (Fr_wrJ (hW _ (by unfold W_X2_tally_18; omega)) hw)
        exact F.tr (ih h)
      · obtain ⟨s5, hw, h⟩ := bd_some h
        replace F := F.tr (Fr_wrJ (hW _ (by unfold W_X2_tally_18; omega)) hw)
        exact F.tr (ih h)
    · exact F.tr (hk68 h)
def W_X2_tally_71 (a0 : Nat) (x : Nat) : Prop := x = a0 + 1 ∨ x = a0 + 2 ∨ x = a0 + 3 ∨ x = a0 + 4 ∨ x = a0 + 5 ∨ x = a0 + 6 ∨ x = a0 + 7
theorem fr_X2_tally_71 {a0 : Nat} {k98 : Int32 → ST → Option (Int32 × ST)} {W : Nat → Prop} (hW : ∀ x, W_X2_tally_71 a0 x → W x) (hk98 : ∀ {u0 : Int32} {sg : ST} {v : Int32} {s : ST}, k98 u0 sg = some (v, s) → Fr W sg s) : ∀ (n : Nat) {x3 : Int32} {x4 : Int32} {sg : ST} {v : Int32} {s : ST}, f_X2_tally_71 a0 k98 n x3 x4 sg = some (v, s) → Fr W sg s := by
  intro n
  induction n with
  | zero => intro _ _ _ _ _ h; rw [f_X2_tally_71] at h; cases h
  | succ n ih =>
    intro x3 x4 sg v s h
    rw [f_X2_tally_71] at h
    have F := Fr.rf W sg
    rcases ite_or h with h | h
    · exact F.tr (hk98 h)
    · obtain ⟨s10, hp, h⟩ := bd_some h
      replace F := F.tr (Fr.mono (fr_X2_clearWays hp) (fun x hx => hW x (by unfold W_X2_clearWays at hx; unfold W_X2_tally_71; omega)))
      obtain ⟨s11, hp, h⟩ := bd_some h
      replace F := F.tr (Fr.mono (fr_X2_walk hp) (fun x hx => hW x (by unfold W_X2_walk at hx; unfold W_X2_tally_71; omega)))
      exact F.tr (ih h)
def W_X2_tally_104 (a0 : Nat) (x : Nat) : Prop := False
theorem fr_X2_tally_104 {a0 : Nat} {W : Nat → Prop} (hW : ∀ x, W_X2_tally_104 a0 x → W x) : ∀ (n : Nat) {x3 : Int32} {y4 : Int64} {x6 : Int32} {sg : ST} {v : Int32} {s : ST}, f_X2_tally_104 a0 n x3 y4 x6 sg = some (v, s) → Fr W sg s := by
  intro n
  induction n with
  | zero => intro _ _ _ _ _ _ h; rw [f_X2_tally_104] at h; cases h
  | succ n ih =>
    intro x3 y4 x6 sg v s h
    rw [f_X2_tally_104] at h
    have F := Fr.rf W sg
    rcases ite_or h with h | h
    · obtain ⟨v15, s14, hp, h⟩ := bd2_some h
      replace F := F.tr (Fr.mono (fr_X2_layerOf hp) (fun x hx => by unfold W_X2_layerOf at hx; exact hx.elim))
      obtain ⟨v16, -, h⟩ := bd_some h
      exact F.tr (ih h)
    · cases h; exact F
def W_X2_tally (a0 : Nat) (x : Nat) : Prop := x = a0 ∨ x = a0 + 1 ∨ x = a0 + 2 ∨ x = a0 + 3 ∨ x = a0 + 4 ∨ x = a0 + 5 ∨ x = a0 + 6 ∨ x = a0 + 7
theorem fr_X2_tally {a0 : Nat} {x1 : Int32} {x2 : Int32} {x3 : Int32} {σ : ST} {v : Int32} {s : ST} (h : f_X2_tally a0 x1 x2 x3 σ = some (v, s)) : Fr (W_X2_tally a0) σ s := by
  unfold f_X2_tally at h
  have F := Fr.rf (W_X2_tally a0) σ
  rcases ite_or h with h | h
  · cases h; exact F
  · obtain ⟨s1, hw, h⟩ := bd_some h
    replace F := F.tr (Fr_pfI (by unfold W_X2_tally; omega) hw)
    refine F.tr (fr_X2_tally_18 (fun x hx => by unfold W_X2_tally_18 at hx; unfold W_X2_tally; omega) ?_ FU h)
    · intro x2_7 x3_8 s9 _ _ h
      have F := Fr.rf (W_X2_tally a0) s9
      refine F.tr (fr_X2_tally_71 (fun x hx => by unfold W_X2_tally_71 at hx; unfold W_X2_tally; omega) ?_ FU h)
      · intro x3_12 s13 _ _ h
        have F := Fr.rf (W_X2_tally a0) s13
        refine F.tr (fr_X2_tally_104 (fun x hx => by unfold W_X2_tally_104 at hx; unfold W_X2_tally; omega) FU h)
def W_X2_surely (a0 : Nat) (x : Nat) : Prop := False
theorem fr_X2_surely {a0 : Nat} {x1 : Int32} {x2 : Int32} {σ : ST} {v : Int32} {s : ST} (h : f_X2_surely a0 x1 x2 σ = some (v, s)) : Fr (W_X2_surely a0) σ s := by
  unfold f_X2_surely at h
  have F := Fr.rf (W_X2_surely a0) σ
  obtain ⟨v1, -, h⟩ := bd_some h
  rcases ite_or h with h | h
  · cases h; exact F
  · cases h; exact F
def W_X2_soOf (a0 : Nat) (x : Nat) : Prop := False
theorem fr_X2_soOf {a0 : Nat} {x1 : Int32} {x2 : Int32} {σ : ST} {v : Int32} {s : ST} (h : f_X2_soOf a0 x1 x2 σ = some (v, s)) : Fr (W_X2_soOf a0) σ s := by
  unfold f_X2_soOf at h
  have F := Fr.rf (W_X2_soOf a0) σ
  rcases ite_or h with h | h
  · cases h; exact F
  · obtain ⟨v2, s1, hp, h⟩ := bd2_some h
    replace F := F.tr (Fr.mono (fr_X2_surely hp) (fun x hx => by unfold W_X2_surely at hx; exact hx.elim))
    rcases ite_or h with h | h
    · obtain ⟨v3, -, h⟩ := bd_some h
      rcases ite_or h with h | h
      · cases h; exact F
      · cases h; exact F
    · cases h; exact F
def W_X3_become (a0 : Nat) (a1 : Nat) (x : Nat) : Prop := x = (a0 + 1) ∨ x = (a0 + 1) + 1 ∨ x = (a0 + 1) + 2 ∨ x = (a0 + 1) + 3 ∨ x = (a0 + 1) + 4 ∨ x = a0
theorem fr_X3_become {a0 : Nat} {a1 : Nat} {σ : ST} {s : ST} (h : f_X3_become a0 a1 σ = some s) : Fr (W_X3_become a0 a1) σ s := by
  unfold f_X3_become at h
  have F := Fr.rf (W_X3_become a0 a1) σ
  obtain ⟨s1, hp, h⟩ := bd_some h
  replace F := F.tr (Fr.mono (fr_X1_become hp) (fun x hx => by unfold W_X1_become at hx; unfold W_X3_become; omega))
  obtain ⟨s2, hw, h⟩ := bd_some h
  replace F := F.tr (Fr_pfI (by unfold W_X3_become; omega) hw)
  obtain ⟨s3, hw, h⟩ := bd_some h
  replace F := F.tr (Fr_pfI (by unfold W_X3_become; omega) hw)
  obtain ⟨s4, hw, h⟩ := bd_some h
  replace F := F.tr (Fr_pfZ (by unfold W_X3_become; omega) hw)
  obtain ⟨s5, hw, h⟩ := bd_some h
  replace F := F.tr (Fr_pfI (by unfold W_X3_become; omega) hw)
  obtain ⟨s6, hw, h⟩ := bd_some h
  replace F := F.tr (Fr_pfZ (by unfold W_X3_become; omega) hw)
  cases h; exact F
def W_X3_clear (a0 : Nat) (x : Nat) : Prop := x = a0 ∨ x = a0 + 1
theorem fr_X3_clear {a0 : Nat} {σ : ST} {s : ST} (h : f_X3_clear a0 σ = some s) : Fr (W_X3_clear a0) σ s := by
  unfold f_X3_clear at h
  have F := Fr.rf (W_X3_clear a0) σ
  obtain ⟨s1, hw, h⟩ := bd_some h
  replace F := F.tr (Fr_pfI (by unfold W_X3_clear; omega) hw)
  obtain ⟨s2, hw, h⟩ := bd_some h
  replace F := F.tr (Fr_pfI (by unfold W_X3_clear; omega) hw)
  obtain ⟨s3, hw, h⟩ := bd_some h
  replace F := F.tr (Fr_pfI (by unfold W_X3_clear; omega) hw)
  obtain ⟨s4, hw, h⟩ := bd_some h
  replace F := F.tr (Fr_pfZ (by unfold W_X3_clear; omega) hw)
  cases h; exact F
def W_X3_addEffect_26 (a0 : Nat) (b0 : Nat) (x : Nat) : Prop := x = a0 ∨ x = b0
theorem fr_X3_addEffect_26 {a0 : Nat} {b0 : Nat} {W : Nat → Prop} (hW : ∀ x, W_X3_addEffect_26 a0 b0 x → W x) {x2 : Int32} {x3 : Int32} {z1 : Int32} {sg : ST} {s : ST} (h : f_X3_addEffect_26 a0 b0 x2 x3 z1 sg = some s) : Fr W sg s := by
  unfold f_X3_addEffect_26 at h
  have F := Fr.rf W sg
  obtain ⟨s1, hw, h⟩ := bd_some h
  replace F := F.tr (Fr_pfI (hW _ (by unfold W_X3_addEffect_26; omega)) hw)
  rcases ite_or h with h | h
  · obtain ⟨s2, hw, h⟩ := bd_some h
    replace F := F.tr (Fr_pfI (hW _ (by unfold W_X3_addEffect_26; omega)) hw)
    cases h; exact F
  · obtain ⟨s3, hw, h⟩ := bd_some h
    replace F := F.tr (Fr_pfI (hW _ (by unfold W_X3_addEffect_26; omega)) hw)
    cases h; exact F
def W_X3_addEffect (a0 : Nat) (x : Nat) : Prop := x = a0
theorem fr_X3_addEffect {a0 : Nat} {x1 : Int32} {x2 : Int32} {σ : ST} {s : ST} (h : f_X3_addEffect a0 x1 x2 σ = some s) : Fr (W_X3_addEffect a0) σ s := by
  unfold f_X3_addEffect at h
  have F := Fr.rf (W_X3_addEffect a0) σ
  rcases ite_or h with h | h
  · refine F.tr (fr_X3_addEffect_26 (fun x hx => by unfold W_X3_addEffect_26 at hx; unfold W_X3_addEffect; omega) h)
  · refine F.tr (fr_X3_addEffect_26 (fun x hx => by unfold W_X3_addEffect_26 at hx; unfold W_X3_addEffect; omega) h)
def W_X6_init_ (p0 : Nat) (x : Nat) : Prop := x = p0
theorem fr_X6_init_ {p0 : Nat} {x1 : Int32} {x2 : Int32} {x3 : Int32} {x4 : Int32} {x5 : Int32} {x6 : Int32} {x7 : Int32} {σ : ST} {s : ST} (h : f_X6_init_ p0 x1 x2 x3 x4 x5 x6 x7 σ = some s) : Fr (W_X6_init_ p0) σ s := by
  unfold f_X6_init_ at h
  have F := Fr.rf (W_X6_init_ p0) σ
  obtain ⟨s1, hw, h⟩ := bd_some h
  replace F := F.tr (Fr_pfP (by unfold W_X6_init_; omega) hw)
  obtain ⟨s2, hw, h⟩ := bd_some h
  replace F := F.tr (Fr_pfP (by unfold W_X6_init_; omega) hw)
  obtain ⟨s3, hw, h⟩ := bd_some h
  replace F := F.tr (Fr_pfP (by unfold W_X6_init_; omega) hw)
  obtain ⟨s4, hw, h⟩ := bd_some h
  replace F := F.tr (Fr_pfP (by unfold W_X6_init_; omega) hw)
  obtain ⟨s5, hw, h⟩ := bd_some h
  replace F := F.tr (Fr_pfP (by unfold W_X6_init_; omega) hw)
  obtain ⟨s6, hw, h⟩ := bd_some h
  replace F := F.tr (Fr_pfP (by unfold W_X6_init_; omega) hw)
  obtain ⟨s7, hw, h⟩ := bd_some h
  replace F := F.tr (Fr_pfP (by unfold W_X6_init_; omega) hw)
  cases h; exact F
def W_X8_init_ (p0 : Nat) (x : Nat) : Prop := x = p0
theorem fr_X8_init_ {p0 : Nat} {x1 : Int32} {x2 : Int32} {x3 : Int32} {x4 : Int32} {x5 : Int32} {x6 : Int32} {σ : ST} {s : ST} (h : f_X8_init_ p0 x1 x2 x3 x4 x5 x6 σ = some s) : Fr (W_X8_init_ p0) σ s := by
  unfold f_X8_init_ at h
  have F := Fr.rf (W_X8_init_ p0) σ
  obtain ⟨c2, hc, h⟩ := bd_some h
  obtain ⟨s1, hp, h⟩ := bd_some h
  replace F := F.tr (Fr.mono (fr_X6_init_ hp) (fun x hx => by unfold W_X6_init_ at hx; unfold W_X8_init_; omega))
  cases h; exact F
def W_X4_init (p0 : Nat) (x : Nat) : Prop := x = p0
theorem fr_X4_init {p0 : Nat} {x1 : Int32} {x2 : Int32} {x3 : Int32} {x4 : Int32} {x5 : Int32} {σ : ST} {s : ST} (h : f_X4_init p0 x1 x2 x3 x4 x5 σ = some s) : Fr (W_X4_init p0) σ s := by
  unfold f_X4_init at h
  have F := Fr.rf (W_X4_init p0) σ
  obtain ⟨c2, hc, h⟩ := bd_some h
  obtain ⟨s1, hp, h⟩ := bd_some h
  replace F := F.tr (Fr.mono (fr_X8_init_ hp) (fun x hx => by unfold W_X8_init_ at hx; unfold W_X4_init; omega))
  cases h; exact F
def W_X6_begin (a1 : Nat) (n1 : Nat) (x : Nat) : Prop := x = a1
theorem fr_X6_begin {x0 : Int32} {a1 : Nat} {n1 : Nat} {σ : ST} {s : ST} (h : f_X6_begin x0 a1 n1 σ = some s) : Fr (W_X6_begin a1 n1) σ s := by
  unfold f_X6_begin at h
  have F := Fr.rf (W_X6_begin a1 n1) σ
  obtain ⟨v1, -, h⟩ := bd_some h
  rcases ite_or h with h | h
  · rcases ite_or h with h | h
    · obtain ⟨s4, hw, h⟩ := bd_some h
      replace F := F.tr (Fr_wrI (by unfold W_X6_begin; omega) hw)
      obtain ⟨s5, hw, h⟩ := bd_some h
      replace F := F.tr (Fr_wrI (by unfold W_X6_begin; omega) hw)
      cases h; exact F
    · obtain ⟨s3, hw, h⟩ := bd_some h
      replace F := F.tr (Fr_wrI (by unfold W_X6_begin; omega) hw)
      cases h; exact F
  · obtain ⟨s2, hw, h⟩ := bd_some h
    replace F := F.tr (Fr_wrI (by unfold W_X6_begin; omega) hw)
    cases h; exact F
def W_X6_tells (p0 : Nat) (a2 : Nat) (n2 : Nat) (x : Nat) : Prop := x = a2
theorem fr_X6_tells {p0 : Nat} {x1 : Int32} {a2 : Nat} {n2 : Nat} {σ : ST} {v : Int32} {s : ST} (h : f_X6_tells p0 x1 a2 n2 σ = some (v, s)) : Fr (W_X6_tells p0 a2 n2) σ s := by
  unfold f_X6_tells at h
  have F := Fr.rf (W_X6_tells p0 a2 n2) σ
  obtain ⟨s1, hp, h⟩ := bd_some h
  replace F := F.tr (Fr.mono (fr_X6_begin hp) (fun x hx => by unfold W_X6_begin at hx; unfold W_X6_tells; omega))
  obtain ⟨v2, -, h⟩ := bd_some h
  cases h; exact F
def W_X4_tells (p0 : Nat) (a2 : Nat) (n2 : Nat) (x : Nat) : Prop := x = a2
theorem fr_X4_tells {p0 : Nat} {x1 : Int32} {a2 : Nat} {n2 : Nat} {σ : ST} {v : Int32} {s : ST} (h : f_X4_tells p0 x1 a2 n2 σ = some (v, s)) : Fr (W_X4_tells p0 a2 n2) σ s := by
  unfold f_X4_tells at h
  have F := Fr.rf (W_X4_tells p0 a2 n2) σ
  obtain ⟨s1, hp, h⟩ := bd_some h
  replace F := F.tr (Fr.mono (fr_X6_begin hp) (fun x hx => by unfold W_X6_begin at hx; unfold W_X4_tells; omega))
  obtain ⟨c4, hc, h⟩ := bd_some h
  obtain ⟨v3, s2, hp, h⟩ := bd2_some h
  replace F := F.tr (Fr.mono (fr_X6_tells hp) (fun x hx => by unfold W_X6_tells at hx; unfold W_X4_tells; omega))
  cases h; exact F
def W_X9_tells (p0 : Nat) (a2 : Nat) (n2 : Nat) (x : Nat) : Prop := x = a2
theorem fr_X9_tells {p0 : Nat} {x1 : Int32} {a2 : Nat} {n2 : Nat} {σ : ST} {v : Int32} {s : ST} (h : f_X9_tells p0 x1 a2 n2 σ = some (v, s)) : Fr (W_X9_tells p0 a2 n2) σ s := by
  unfold f_X9_tells at h
  have F := Fr.rf (W_X9_tells p0 a2 n2) σ
  obtain ⟨s1, hp, h⟩ := bd_some h
  replace F := F.tr (Fr.mono (fr_X6_begin hp) (fun x hx => by unfold W_X6_begin at hx; unfold W_X9_tells; omega))
  obtain ⟨c4, hc, h⟩ := bd_some h
  obtain ⟨v3, s2, hp, h⟩ := bd2_some h
  replace F := F.tr (Fr.mono (fr_X6_tells hp) (fun x hx => by unfold W_X6_tells at hx; unfold W_X9_tells; omega))
  cases h; exact F
def W_V (a2 : Nat) (x : Nat) : Prop := x = a2
theorem fr_V_tells {c p0 : Nat} {x1 : Int32} {a2 n2 : Nat} {σ : ST} {v : Int32} {s : ST} (h : f_V_tells c p0 x1 a2 n2 σ = some (v, s)) : Fr (W_V a2) σ s := by
  unfold f_V_tells at h
  rcases ite_or h with h | h
  · exact Fr.mono (fr_X4_tells h) (fun x hx => by unfold W_X4_tells at hx; unfold W_V; omega)
  rcases ite_or h with h | h
  · exact Fr.mono (fr_X6_tells h) (fun x hx => by unfold W_X6_tells at hx; unfold W_V; omega)
  rcases ite_or h with h | h
  · exact Fr.mono (fr_X9_tells h) (fun x hx => by unfold W_X9_tells at hx; unfold W_V; omega)
  exact Fr.mono (fr_X6_tells h) (fun x hx => by unfold W_X6_tells at hx; unfold W_V; omega)
def W_X6_binds (p0 : Nat) (a2 : Nat) (n2 : Nat) (x : Nat) : Prop := x = a2
theorem fr_X6_binds {p0 : Nat} {x1 : Int32} {a2 : Nat} {n2 : Nat} {σ : ST} {v : Int32} {s : ST} (h : f_X6_binds p0 x1 a2 n2 σ = some (v, s)) : Fr (W_X6_binds p0 a2 n2) σ s := by
  unfold f_X6_binds at h
  have F := Fr.rf (W_X6_binds p0 a2 n2) σ
  obtain ⟨s1, hp, h⟩ := bd_some h
  replace F := F.tr (Fr.mono (fr_X6_begin hp) (fun x hx => by unfold W_X6_begin at hx; unfold W_X6_binds; omega))
  obtain ⟨c4, hc, h⟩ := bd_some h
  obtain ⟨v3, s2, hp, h⟩ := bd2_some h
  replace F := F.tr (Fr.mono (fr_V_tells hp) (fun x hx => by unfold W_V at hx; unfold W_X6_binds; omega))
  cases h; exact F
def W_X8_binds (p0 : Nat) (a2 : Nat) (n2 : Nat) (x : Nat) : Prop := x = a2
theorem fr_X8_binds {p0 : Nat} {x1 : Int32} {a2 : Nat} {n2 : Nat} {σ : ST} {v : Int32} {s : ST} (h : f_X8_binds p0 x1 a2 n2 σ = some (v, s)) : Fr (W_X8_binds p0 a2 n2) σ s := by
  unfold f_X8_binds at h
  have F := Fr.rf (W_X8_binds p0 a2 n2) σ
  obtain ⟨s1, hp, h⟩ := bd_some h
  replace F := F.tr (Fr.mono (fr_X6_begin hp) (fun x hx => by unfold W_X6_begin at hx; unfold W_X8_binds; omega))
  obtain ⟨c4, hc, h⟩ := bd_some h
  obtain ⟨v3, s2, hp, h⟩ := bd2_some h
  replace F := F.tr (Fr.mono (fr_X6_binds hp) (fun x hx => by unfold W_X6_binds at hx; unfold W_X8_binds; omega))
  obtain ⟨v5, -, h⟩ := bd_some h
  cases h; exact F
def W_X4_binds (p0 : Nat) (a2 : Nat) (n2 : Nat) (x : Nat) : Prop := x = a2
theorem fr_X4_binds {p0 : Nat} {x1 : Int32} {a2 : Nat} {n2 : Nat} {σ : ST} {v : Int32} {s : ST} (h : f_X4_binds p0 x1 a2 n2 σ = some (v, s)) : Fr (W_X4_binds p0 a2 n2) σ s := by
  unfold f_X4_binds at h
  have F := Fr.rf (W_X4_binds p0 a2 n2) σ
  obtain ⟨s1, hp, h⟩ := bd_some h
  replace F := F.tr (Fr.mono (fr_X6_begin hp) (fun x hx => by unfold W_X6_begin at hx; unfold W_X4_binds; omega))
  obtain ⟨c4, hc, h⟩ := bd_some h
  obtain ⟨v3, s2, hp, h⟩ := bd2_some h
  replace F := F.tr (Fr.mono (fr_X8_binds hp) (fun x hx => by unfold W_X8_binds at hx; unfold W_X4_binds; omega))
  cases h; exact F
theorem fr_V_binds {c p0 : Nat} {x1 : Int32} {a2 n2 : Nat} {σ : ST} {v : Int32} {s : ST} (h : f_V_binds c p0 x1 a2 n2 σ = some (v, s)) : Fr (W_V a2) σ s := by
  unfold f_V_binds at h
  rcases ite_or h with h | h
  · exact Fr.mono (fr_X4_binds h) (fun x hx => by unfold W_X4_binds at hx; unfold W_V; omega)
  rcases ite_or h with h | h
  · exact Fr.mono (fr_X8_binds h) (fun x hx => by unfold W_X8_binds at hx; unfold W_V; omega)
  rcases ite_or h with h | h
  · exact Fr.mono (fr_X6_binds h) (fun x hx => by unfold W_X6_binds at hx; unfold W_V; omega)
  exact Fr.mono (fr_X6_binds h) (fun x hx => by unfold W_X6_binds at hx; unfold W_V; omega)
def W_X5_closeAtom_17 (x : Nat) : Prop := x = 190 + 1 ∨ x = 190 + 2 ∨ x = 190 + 3 ∨ x = 190 + 4
theorem fr_X5_closeAtom_17 {W : Nat → Prop} (hW : ∀ x, W_X5_closeAtom_17 x → W x) {sg : ST} {s : ST} (h : f_X5_closeAtom_17 sg = some s) : Fr W sg s := by
  unfold f_X5_closeAtom_17 at h
  have F := Fr.rf W sg
  rcases ite_or h with h | h
  · obtain ⟨s2, hp, h⟩ := bd_some h
    replace F := F.tr (Fr.mono (fr_X1_addSo hp) (fun x hx => hW x (by unfold W_X1_addSo at hx; unfold W_X5_closeAtom_17; omega)))
    cases h; exact F
  · obtain ⟨s1, hp, h⟩ := bd_some h
    replace F := F.tr (Fr.mono (fr_X1_addAbove hp) (fun x hx => hW x (by unfold W_X1_addAbove at hx; unfold W_X5_closeAtom_17; omega)))
    cases h; exact F
def W_X5_closeAtom (x : Nat) : Prop := x = 190 ∨ x = 190 + 1 ∨ x = 190 + 2 ∨ x = 190 + 3 ∨ x = 190 + 4
theorem fr_X5_closeAtom {σ : ST} {s : ST} (h : f_X5_closeAtom σ = some s) : Fr (W_X5_closeAtom ) σ s := by
  unfold f_X5_closeAtom at h
  have F := Fr.rf (W_X5_closeAtom ) σ
  rcases ite_or h with h | h
  · refine F.tr (fr_X5_closeAtom_17 (fun x hx => by unfold W_X5_closeAtom_17 at hx; unfold W_X5_closeAtom; omega) h)
  · obtain ⟨s3, hp, h⟩ := bd_some h
    replace F := F.tr (Fr.mono (fr_X1_openAll hp) (fun x hx => by unfold W_X1_openAll at hx; unfold W_X5_closeAtom; omega))
    refine F.tr (fr_X5_closeAtom_17 (fun x hx => by unfold W_X5_closeAtom_17 at hx; unfold W_X5_closeAtom; omega) h)
def W_X5_afterAtom_44 (x : Nat) : Prop := x = 188
theorem fr_X5_afterAtom_44 {W : Nat → Prop} (hW : ∀ x, W_X5_afterAtom_44 x → W x) {x1 : Int32} {z1 : Int32} {sg : ST} {v : Int32} {s : ST} (h : f_X5_afterAtom_44 x1 z1 sg = some (v, s)) : Fr W sg s := by
  unfold f_X5_afterAtom_44 at h
  have F := Fr.rf W sg
  obtain ⟨s2, hw, h⟩ := bd_some h
  replace F := F.tr (Fr_pfZ (hW _ (by unfold W_X5_afterAtom_44; omega)) hw)
  rcases ite_or h with h | h
  · cases h; exact F
  · cases h; exact F
def W_X5_afterAtom_28 (x : Nat) : Prop := x = 188 ∨ x = 190 ∨ x = 190 + 1 ∨ x = 190 + 2 ∨ x = 190 + 3 ∨ x = 190 + 4
theorem fr_X5_afterAtom_28 {W : Nat → Prop} (hW : ∀ x, W_X5_afterAtom_28 x → W x) {x1 : Int32} {sg : ST} {v : Int32} {s : ST} (h : f_X5_afterAtom_28 x1 sg = some (v, s)) : Fr W sg s := by
  unfold f_X5_afterAtom_28 at h
  have F := Fr.rf W sg
  obtain ⟨s1, hp, h⟩ := bd_some h
  replace F := F.tr (Fr.mono (fr_X5_closeAtom hp) (fun x hx => hW x (by unfold W_X5_closeAtom at hx; unfold W_X5_afterAtom_28; omega)))
  rcases ite_or h with h | h
  · refine F.tr (fr_X5_afterAtom_44 (fun x hx => hW x (by unfold W_X5_afterAtom_44 at hx; unfold W_X5_afterAtom_28; omega)) h)
  · refine F.tr (fr_X5_afterAtom_44 (fun x hx => hW x (by unfold W_X5_afterAtom_44 at hx; unfold W_X5_afterAtom_28; omega)) h)
def W_X5_afterAtom (x : Nat) : Prop := x = 188 ∨ x = 190 ∨ x = 190 + 1 ∨ x = 190 + 2 ∨ x = 190 + 3 ∨ x = 190 + 4
theorem fr_X5_afterAtom {x1 : Int32} {σ : ST} {v : Int32} {s : ST} (h : f_X5_afterAtom x1 σ = some (v, s)) : Fr (W_X5_afterAtom ) σ s := by
  unfold f_X5_afterAtom at h
  have F := Fr.rf (W_X5_afterAtom ) σ
  rcases ite_or h with h | h
  · refine F.tr (fr_X5_afterAtom_28 (fun x hx => by unfold W_X5_afterAtom_28 at hx; unfold W_X5_afterAtom; omega) h)
  · rcases ite_or h with h | h
    · refine F.tr (fr_X5_afterAtom_28 (fun x hx => by unfold W_X5_afterAtom_28 at hx; unfold W_X5_afterAtom; omega) h)
    · rcases ite_or h with h | h
      · rcases ite_or h with h | h
        · cases h; exact F
        · refine F.tr (fr_X5_afterAtom_28 (fun x hx => by unfold W_X5_afterAtom_28 at hx; unfold W_X5_afterAtom; omega) h)
      · cases h; exact F
def W_X5_kindOf (x : Nat) : Prop := False
theorem fr_X5_kindOf {x1 : Int32} {σ : ST} {v : Int32} {s : ST} (h : f_X5_kindOf x1 σ = some (v, s)) : Fr (W_X5_kindOf ) σ s := by
  unfold f_X5_kindOf at h
  have F := Fr.rf (W_X5_kindOf ) σ
  rcases ite_or h with h | h
  · cases h; exact F
  · rcases ite_or h with h | h
    · obtain ⟨v1, -, h⟩ := bd_some h
      cases h; exact F
    · cases h; exact F
def W_X5_afterName (x : Nat) : Prop := x = 188
theorem fr_X5_afterName {x1 : Int32} {x2 : Int32} {σ : ST} {v : Int32} {s : ST} (h : f_X5_afterName x1 x2 σ = some (v, s)) : Fr (W_X5_afterName ) σ s := by
  unfold f_X5_afterName at h
  have F := Fr.rf (W_X5_afterName ) σ
  obtain ⟨v2, s1, hp, h⟩ := bd2_some h
  replace F := F.tr (Fr.mono (fr_X5_kindOf hp) (fun x hx => by unfold W_X5_kindOf at hx; exact hx.elim))
  rcases ite_or h with h | h
  · cases h; exact F
  · obtain ⟨s3, hw, h⟩ := bd_some h
    replace F := F.tr (Fr_pfI (by unfold W_X5_afterName; omega) hw)
    obtain ⟨s4, hw, h⟩ := bd_some h
    replace F := F.tr (Fr_pfZ (by unfold W_X5_afterName; omega) hw)
    obtain ⟨s5, hw, h⟩ := bd_some h
    replace F := F.tr (Fr_pfI (by unfold W_X5_afterName; omega) hw)
    cases h; exact F
def W_X5_afterAtomBegan (x : Nat) : Prop := x = 188
theorem fr_X5_afterAtomBegan {x1 : Int32} {σ : ST} {v : Int32} {s : ST} (h : f_X5_afterAtomBegan x1 σ = some (v, s)) : Fr (W_X5_afterAtomBegan ) σ s := by
  unfold f_X5_afterAtomBegan at h
  have F := Fr.rf (W_X5_afterAtomBegan ) σ
  rcases ite_or h with h | h
  · cases h; exact F
  · obtain ⟨v2, s1, hp, h⟩ := bd2_some h
    replace F := F.tr (Fr.mono (fr_X5_afterName hp) (fun x hx => by unfold W_X5_afterName at hx; unfold W_X5_afterAtomBegan; omega))
    cases h; exact F
def W_X5_afterBound (x : Nat) : Prop := x = 188
theorem fr_X5_afterBound {x1 : Int32} {σ : ST} {v : Int32} {s : ST} (h : f_X5_afterBound x1 σ = some (v, s)) : Fr (W_X5_afterBound ) σ s := by
  unfold f_X5_afterBound at h
  have F := Fr.rf (W_X5_afterBound ) σ
  rcases ite_or h with h | h
  · cases h; exact F
  · rcases ite_or h with h | h
    · cases h; exact F
    · obtain ⟨s1, hw, h⟩ := bd_some h
      replace F := F.tr (Fr_pfI (by unfold W_X5_afterBound; omega) hw)
      cases h; exact F
def W_X5_afterEffectBegan (x : Nat) : Prop := False
theorem fr_X5_afterEffectBegan {x1 : Int32} {σ : ST} {v : Int32} {s : ST} (h : f_X5_afterEffectBegan x1 σ = some (v, s)) : Fr (W_X5_afterEffectBegan ) σ s := by
  unfold f_X5_afterEffectBegan at h
  have F := Fr.rf (W_X5_afterEffectBegan ) σ
  rcases ite_or h with h | h
  · cases h; exact F
  rcases ite_or h with h | h
  · cases h; exact F
  rcases ite_or h with h | h
  · cases h; exact F
  cases h; exact F
def W_X5_afterKept (x : Nat) : Prop := x = 189
theorem fr_X5_afterKept {x1 : Int32} {x2 : Int32} {σ : ST} {v : Int32} {s : ST} (h : f_X5_afterKept x1 x2 σ = some (v, s)) : Fr (W_X5_afterKept ) σ s := by
  unfold f_X5_afterKept at h
  have F := Fr.rf (W_X5_afterKept ) σ
  obtain ⟨v2, s1, hp, h⟩ := bd2_some h
  replace F := F.tr (Fr.mono (fr_X5_kindOf hp) (fun x hx => by unfold W_X5_kindOf at hx; exact hx.elim))
  rcases ite_or h with h | h
  · obtain ⟨v3, -, h⟩ := bd_some h
    obtain ⟨s4, hp, h⟩ := bd_some h
    replace F := F.tr (Fr.mono (fr_X3_addEffect hp) (fun x hx => by unfold W_X3_addEffect at hx; unfold W_X5_afterKept; omega))
    cases h; exact F
  · cases h; exact F
def W_X5_afterStilled (x : Nat) : Prop := x = 189
theorem fr_X5_afterStilled {x1 : Int32} {σ : ST} {v : Int32} {s : ST} (h : f_X5_afterStilled x1 σ = some (v, s)) : Fr (W_X5_afterStilled ) σ s := by
  unfold f_X5_afterStilled at h
  have F := Fr.rf (W_X5_afterStilled ) σ
  obtain ⟨v2, s1, hp, h⟩ := bd2_some h
  replace F := F.tr (Fr.mono (fr_X5_kindOf hp) (fun x hx => by unfold W_X5_kindOf at hx; exact hx.elim))
  rcases ite_or h with h | h
  · obtain ⟨s3, hw, h⟩ := bd_some h
    replace F := F.tr (Fr_pfZ (by unfold W_X5_afterStilled; omega) hw)
    cases h; exact F
  · cases h; exact F
def W_X5_after (x : Nat) : Prop := x = 188 ∨ x = 189 ∨ x = 190 ∨ x = 190 + 1 ∨ x = 190 + 2 ∨ x = 190 + 3 ∨ x = 190 + 4
theorem fr_X5_after {x1 : Int32} {x2 : Int32} {σ : ST} {v : Int32} {s : ST} (h : f_X5_after x1 x2 σ = some (v, s)) : Fr (W_X5_after ) σ s := by
  unfold f_X5_after at h
  have F := Fr.rf (W_X5_after ) σ
  rcases ite_or h with h | h
  · rcases ite_or h with h | h
    · cases h; exact F
    · obtain ⟨v2, s1, hp, h⟩ := bd2_some h
      replace F := F.tr (Fr.mono (fr_X5_afterAtomBegan hp) (fun x hx => by unfold W_X5_afterAtomBegan at hx; unfold W_X5_after; omega))
      cases h; exact F
  rcases ite_or h with h | h
  · obtain ⟨v4, s3, hp, h⟩ := bd2_some h
    replace F := F.tr (Fr.mono (fr_X5_afterAtomBegan hp) (fun x hx => by unfold W_X5_afterAtomBegan at hx; unfold W_X5_after; omega))
    cases h; exact F
  rcases ite_or h with h | h
  · obtain ⟨v6, s5, hp, h⟩ := bd2_some h
    replace F := F.tr (Fr.mono (fr_X5_afterName hp) (fun x hx => by unfold W_X5_afterName at hx; unfold W_X5_after; omega))
    cases h; exact F
  rcases ite_or h with h | h
  · rcases ite_or h with h | h
    · obtain ⟨v10, s9, hp, h⟩ := bd2_some h
      replace F := F.tr (Fr.mono (fr_X5_kindOf hp) (fun x hx => by unfold W_X5_kindOf at hx; exact hx.elim))
      rcases ite_or h with h | h
      · cases h; exact F
      · obtain ⟨v12, s11, hp, h⟩ := bd2_some h
        replace F := F.tr (Fr.mono (fr_X5_afterAtom hp) (fun x hx => by unfold W_X5_afterAtom at hx; unfold W_X5_after; omega))
        cases h; exact F
    · obtain ⟨v8, s7, hp, h⟩ := bd2_some h
      replace F := F.tr (Fr.mono (fr_X5_afterAtom hp) (fun x hx => by unfold W_X5_afterAtom at hx; unfold W_X5_after; omega))
      cases h; exact F
  rcases ite_or h with h | h
  · obtain ⟨v14, s13, hp, h⟩ := bd2_some h
    replace F := F.tr (Fr.mono (fr_X5_afterBound hp) (fun x hx => by unfold W_X5_afterBound at hx; unfold W_X5_after; omega))
    cases h; exact F
  rcases ite_or h with h | h
  · obtain ⟨v16, s15, hp, h⟩ := bd2_some h
    replace F := F.tr (Fr.mono (fr_X5_afterAtom hp) (fun x hx => by unfold W_X5_afterAtom at hx; unfold W_X5_after; omega))
    cases h; exact F
  rcases ite_or h with h | h
  · obtain ⟨v18, s17, hp, h⟩ := bd2_some h
    replace F := F.tr (Fr.mono (fr_X5_afterEffectBegan hp) (fun x hx => by unfold W_X5_afterEffectBegan at hx; exact hx.elim))
    cases h; exact F
  rcases ite_or h with h | h
  · obtain ⟨v20, s19, hp, h⟩ := bd2_some h
    replace F := F.tr (Fr.mono (fr_X5_afterKept hp) (fun x hx => by unfold W_X5_afterKept at hx; unfold W_X5_after; omega))
    cases h; exact F
  rcases ite_or h with h | h
  · obtain ⟨v22, s21, hp, h⟩ := bd2_some h
    replace F := F.tr (Fr.mono (fr_X5_afterKept hp) (fun x hx => by unfold W_X5_afterKept at hx; unfold W_X5_after; omega))
    cases h; exact F
  rcases ite_or h with h | h
  · obtain ⟨v24, s23, hp, h⟩ := bd2_some h
    replace F := F.tr (Fr.mono (fr_X5_afterStilled hp) (fun x hx => by unfold W_X5_afterStilled at hx; unfold W_X5_after; omega))
    cases h; exact F
  obtain ⟨v26, s25, hp, h⟩ := bd2_some h
  replace F := F.tr (Fr.mono (fr_X5_afterEffectBegan hp) (fun x hx => by unfold W_X5_afterEffectBegan at hx; exact hx.elim))
  cases h; exact F
def W_X7_has (a0 : Nat) (x : Nat) : Prop := False
theorem fr_X7_has {a0 : Nat} {x1 : Int32} {σ : ST} {v : Int32} {s : ST} (h : f_X7_has a0 x1 σ = some (v, s)) : Fr (W_X7_has a0) σ s := by
  unfold f_X7_has at h
  have F := Fr.rf (W_X7_has a0) σ
  rcases ite_or h with h | h
  · cases h; exact F
  · rcases ite_or h with h | h
    · cases h; exact F
    · cases h; exact F
def W_X7_cellAt (a0 : Nat) (x : Nat) : Prop := False
theorem fr_X7_cellAt {a0 : Nat} {x1 : Int32} {σ : ST} {v : Int64} {s : ST} (h : f_X7_cellAt a0 x1 σ = some (v, s)) : Fr (W_X7_cellAt a0) σ s := by
  unfold f_X7_cellAt at h
  have F := Fr.rf (W_X7_cellAt a0) σ
  obtain ⟨v2, s1, hp, h⟩ := bd2_some h
  replace F := F.tr (Fr.mono (fr_X7_has hp) (fun x hx => by unfold W_X7_has at hx; exact hx.elim))
  rcases ite_or h with h | h
  · cases h; exact F
  · obtain ⟨v3, -, h⟩ := bd_some h
    cases h; exact F
def W_X7_intAt (a0 : Nat) (x : Nat) : Prop := False
theorem fr_X7_intAt {a0 : Nat} {x1 : Int32} {σ : ST} {v : Int32} {s : ST} (h : f_X7_intAt a0 x1 σ = some (v, s)) : Fr (W_X7_intAt a0) σ s := by
  unfold f_X7_intAt at h
  have F := Fr.rf (W_X7_intAt a0) σ
  obtain ⟨v2, s1, hp, h⟩ := bd2_some h
  replace F := F.tr (Fr.mono (fr_X7_cellAt hp) (fun x hx => by unfold W_X7_cellAt at hx; exact hx.elim))
  cases h; exact F
def W_X5_read_33 (a1 : Nat) (x : Nat) : Prop := x = 188 ∨ x = 189 ∨ x = 190 ∨ x = 190 + 1 ∨ x = 190 + 2 ∨ x = 190 + 3 ∨ x = 190 + 4
theorem fr_X5_read_33 {a1 : Nat} {k69 : Int32 → ST → Option (Int32 × ST)} {W : Nat → Prop} (hW : ∀ x, W_X5_read_33 a1 x → W x) (hk69 : ∀ {u0 : Int32} {sg : ST} {v : Int32} {s : ST}, k69 u0 sg = some (v, s) → Fr W sg s) : ∀ (n : Nat) {x3 : Int32} {x4 : Int32} {sg : ST} {v : Int32} {s : ST}, f_X5_read_33 a1 k69 n x3 x4 sg = some (v, s) → Fr W sg s := by
  intro n
  induction n with
  | zero => intro _ _ _ _ _ h; rw [f_X5_read_33] at h; cases h
  | succ n ih =>
    intro x3 x4 sg v s h
    rw [f_X5_read_33] at h
    have F := Fr.rf W sg
    rcases ite_or h with h | h
    · obtain ⟨v5, s4, hp, h⟩ := bd2_some h
      replace F := F.tr (Fr.mono (fr_X7_intAt hp) (fun x hx => by unfold W_X7_intAt at hx; exact hx.elim))
      obtain ⟨v7, s6, hp, h⟩ := bd2_some h
      replace F := F.tr (Fr.mono (fr_X5_after hp) (fun x hx => hW x (by unfold W_X5_after at hx; unfold W_X5_read_33; omega)))
      rcases ite_or h with h | h
      · cases h; exact F
      · exact F.tr (ih h)
    · exact F.tr (hk69 h)
def W_X5_read_29 (a1 : Nat) (x : Nat) : Prop := x = 188 ∨ x = 189 ∨ x = 190 ∨ x = 190 + 1 ∨ x = 190 + 2 ∨ x = 190 + 3 ∨ x = 190 + 4
theorem fr_X5_read_29 {a1 : Nat} {W : Nat → Prop} (hW : ∀ x, W_X5_read_29 a1 x → W x) {z0 : Int32} {sg : ST} {v : Int32} {s : ST} (h : f_X5_read_29 a1 z0 sg = some (v, s)) : Fr W sg s := by
  unfold f_X5_read_29 at h
  have F := Fr.rf W sg
  refine F.tr (fr_X5_read_33 (fun x hx => hW x (by unfold W_X5_read_33 at hx; unfold W_X5_read_29; omega)) ?_ FU h)
  · intro x3_8 s9 _ _ h
    have F := Fr.rf W s9
    rcases ite_or h with h | h
    · rcases ite_or h with h | h
      · obtain ⟨s10, hp, h⟩ := bd_some h
        replace F := F.tr (Fr.mono (fr_X5_closeAtom hp) (fun x hx => hW x (by unfold W_X5_closeAtom at hx; unfold W_X5_read_29; omega)))
        cases h; exact F
      · rcases ite_or h with h | h
        · obtain ⟨s11, hp, h⟩ := bd_some h
          replace F := F.tr (Fr.mono (fr_X5_closeAtom hp) (fun x hx => hW x (by unfold W_X5_closeAtom at hx; unfold W_X5_read_29; omega)))
          cases h; exact F
        · cases h; exact F
    · rcases ite_or h with h | h
      · cases h; exact F
      · cases h; exact F
def W_X5_read (a1 : Nat) (x : Nat) : Prop := x = 188 ∨ x = 189 ∨ x = 189 + 1 ∨ x = 190 ∨ x = 190 + 1 ∨ x = 190 + 2 ∨ x = 190 + 3 ∨ x = 190 + 4
theorem fr_X5_read {a1 : Nat} {x2 : Int32} {σ : ST} {v : Int32} {s : ST} (h : f_X5_read a1 x2 σ = some (v, s)) : Fr (W_X5_read a1) σ s := by
  unfold f_X5_read at h
  have F := Fr.rf (W_X5_read a1) σ
  obtain ⟨s1, hp, h⟩ := bd_some h
  replace F := F.tr (Fr.mono (fr_X3_clear hp) (fun x hx => by unfold W_X3_clear at hx; unfold W_X5_read; omega))
  obtain ⟨s2, hw, h⟩ := bd_some h
  replace F := F.tr (Fr_pfZ (by unfold W_X5_read; omega) hw)
  obtain ⟨s3, hw, h⟩ := bd_some h
  replace F := F.tr (Fr_pfZ (by unfold W_X5_read; omega) hw)
  rcases ite_or h with h | h
  · refine F.tr (fr_X5_read_29 (fun x hx => by unfold W_X5_read_29 at hx; unfold W_X5_read; omega) h)
  · refine F.tr (fr_X5_read_29 (fun x hx => by unfold W_X5_read_29 at hx; unfold W_X5_read; omega) h)
def W_X6_init (p0 : Nat) (x : Nat) : Prop := x = p0
theorem fr_X6_init {p0 : Nat} {x1 : Int32} {x2 : Int32} {x3 : Int32} {x4 : Int32} {σ : ST} {s : ST} (h : f_X6_init p0 x1 x2 x3 x4 σ = some s) : Fr (W_X6_init p0) σ s := by
  unfold f_X6_init at h
  have F := Fr.rf (W_X6_init p0) σ
  obtain ⟨c2, hc, h⟩ := bd_some h
  obtain ⟨s1, hp, h⟩ := bd_some h
  replace F := F.tr (Fr.mono (fr_X6_init_ hp) (fun x hx => by unfold W_X6_init_ at hx; unfold W_X6_init; omega))
  cases h; exact F
def W_X6_weighs (p0 : Nat) (a2 : Nat) (n2 : Nat) (x : Nat) : Prop := x = a2
theorem fr_X6_weighs {p0 : Nat} {x1 : Int32} {a2 : Nat} {n2 : Nat} {σ : ST} {v : Int32} {s : ST} (h : f_X6_weighs p0 x1 a2 n2 σ = some (v, s)) : Fr (W_X6_weighs p0 a2 n2) σ s := by
  unfold f_X6_weighs at h
  have F := Fr.rf (W_X6_weighs p0 a2 n2) σ
  obtain ⟨s1, hp, h⟩ := bd_some h
  replace F := F.tr (Fr.mono (fr_X6_begin hp) (fun x hx => by unfold W_X6_begin at hx; unfold W_X6_weighs; omega))
  obtain ⟨c4, hc, h⟩ := bd_some h
  obtain ⟨v3, s2, hp, h⟩ := bd2_some h
  replace F := F.tr (Fr.mono (fr_V_binds hp) (fun x hx => by unfold W_V at hx; unfold W_X6_weighs; omega))
  obtain ⟨v5, -, h⟩ := bd_some h
  obtain ⟨c8, hc, h⟩ := bd_some h
  obtain ⟨v7, s6, hp, h⟩ := bd2_some h
  replace F := F.tr (Fr.mono (fr_V_tells hp) (fun x hx => by unfold W_V at hx; unfold W_X6_weighs; omega))
  cases h; exact F
def W_X7_holdsRow (a0 : Nat) (x : Nat) : Prop := False
theorem fr_X7_holdsRow {a0 : Nat} {σ : ST} {v : Int32} {s : ST} (h : f_X7_holdsRow a0 σ = some (v, s)) : Fr (W_X7_holdsRow a0) σ s := by
  unfold f_X7_holdsRow at h
  have F := Fr.rf (W_X7_holdsRow a0) σ
  rcases ite_or h with h | h
  · cases h; exact F
  · cases h; exact F
def W_X7_holdsPiece (a0 : Nat) (x : Nat) : Prop := False
theorem fr_X7_holdsPiece {a0 : Nat} {σ : ST} {v : Int32} {s : ST} (h : f_X7_holdsPiece a0 σ = some (v, s)) : Fr (W_X7_holdsPiece a0) σ s := by
  unfold f_X7_holdsPiece at h
  have F := Fr.rf (W_X7_holdsPiece a0) σ
  rcases ite_or h with h | h
  · cases h; exact F
  · rcases ite_or h with h | h
    · cases h; exact F
    · cases h; exact F
def W_J7_fill_d0a16_6 (a0 : Nat) (n0 : Nat) (x : Nat) : Prop := x = a0
theorem fr_J7_fill_d0a16_6 {a0 : Nat} {n0 : Nat} {W : Nat → Prop} (hW : ∀ x, W_J7_fill_d0a16_6 a0 n0 x → W x) : ∀ (n : Nat) {y1 : Int64} {x3 : Int32} {x4 : Int32} {sg : ST} {s : ST}, f_J7_fill_d0a16_6 a0 n0 n y1 x3 x4 sg = some s → Fr W sg s := by
  intro n
  induction n with
  | zero => intro _ _ _ _ _ h; rw [f_J7_fill_d0a16_6] at h; cases h
  | succ n ih =>
    intro y1 x3 x4 sg s h
    rw [f_J7_fill_d0a16_6] at h
    have F := Fr.rf W sg
    rcases ite_or h with h | h
    · obtain ⟨s1, hw, h⟩ := bd_some h
      replace F := F.tr (Fr_wrJ (hW _ (by unfold W_J7_fill_d0a16_6; omega)) hw)
      exact F.tr (ih h)
    · cases h; exact F
def W_J7_fill_d0a16 (a0 : Nat) (n0 : Nat) (x : Nat) : Prop := x = a0
theorem fr_J7_fill_d0a16 {a0 : Nat} {n0 : Nat} {y1 : Int64} {σ : ST} {s : ST} (h : f_J7_fill_d0a16 a0 n0 y1 σ = some s) : Fr (W_J7_fill_d0a16 a0 n0) σ s := by
  unfold f_J7_fill_d0a16 at h
  have F := Fr.rf (W_J7_fill_d0a16 a0 n0) σ
  refine F.tr (fr_J7_fill_d0a16_6 (fun x hx => by unfold W_J7_fill_d0a16_6 at hx; unfold W_J7_fill_d0a16; omega) FU h)
def W_X7_takeRow (a0 : Nat) (x : Nat) : Prop := x = (a0 + 1) ∨ x = a0
theorem fr_X7_takeRow {a0 : Nat} {x1 : Int32} {x2 : Int32} {σ : ST} {s : ST} (h : f_X7_takeRow a0 x1 x2 σ = some s) : Fr (W_X7_takeRow a0) σ s := by
  unfold f_X7_takeRow at h
  have F := Fr.rf (W_X7_takeRow a0) σ
  obtain ⟨s1, hw, h⟩ := bd_some h
  replace F := F.tr (Fr_pfI (by unfold W_X7_takeRow; omega) hw)
  obtain ⟨s2, hw, h⟩ := bd_some h
  replace F := F.tr (Fr_pfI (by unfold W_X7_takeRow; omega) hw)
  obtain ⟨s3, hp, h⟩ := bd_some h
  replace F := F.tr (Fr.mono (fr_J7_fill_d0a16 hp) (fun x hx => by unfold W_J7_fill_d0a16 at hx; unfold W_X7_takeRow; omega))
  cases h; exact F
def W_X7_takePiece (a0 : Nat) (x : Nat) : Prop := x = a0
theorem fr_X7_takePiece {a0 : Nat} {x1 : Int32} {σ : ST} {s : ST} (h : f_X7_takePiece a0 x1 σ = some s) : Fr (W_X7_takePiece a0) σ s := by
  unfold f_X7_takePiece at h
  have F := Fr.rf (W_X7_takePiece a0) σ
  obtain ⟨s1, hw, h⟩ := bd_some h
  replace F := F.tr (Fr_pfI (by unfold W_X7_takePiece; omega) hw)
  obtain ⟨s2, hw, h⟩ := bd_some h
  replace F := F.tr (Fr_pfI (by unfold W_X7_takePiece; omega) hw)
  cases h; exact F
def W_X7_reaches (a0 : Nat) (x : Nat) : Prop := False
theorem fr_X7_reaches {a0 : Nat} {x1 : Int32} {x2 : Int32} {σ : ST} {v : Int32} {s : ST} (h : f_X7_reaches a0 x1 x2 σ = some (v, s)) : Fr (W_X7_reaches a0) σ s := by
  unfold f_X7_reaches at h
  have F := Fr.rf (W_X7_reaches a0) σ
  rcases ite_or h with h | h
  · cases h; exact F
  · rcases ite_or h with h | h
    · cases h; exact F
    · cases h; exact F
def W_X7_narrowed (a0 : Nat) (x : Nat) : Prop := False
theorem fr_X7_narrowed {a0 : Nat} {y1 : Int64} {σ : ST} {v : Int64} {s : ST} (h : f_X7_narrowed a0 y1 σ = some (v, s)) : Fr (W_X7_narrowed a0) σ s := by
  unfold f_X7_narrowed at h
  have F := Fr.rf (W_X7_narrowed a0) σ
  rcases ite_or h with h | h
  · cases h; exact F
  rcases ite_or h with h | h
  · cases h; exact F
  rcases ite_or h with h | h
  · cases h; exact F
  cases h; exact F
def W_X7_put (a0 : Nat) (x : Nat) : Prop := x = a0 + 1
theorem fr_X7_put {a0 : Nat} {x1 : Int32} {y2 : Int64} {σ : ST} {s : ST} (h : f_X7_put a0 x1 y2 σ = some s) : Fr (W_X7_put a0) σ s := by
  unfold f_X7_put at h
  have F := Fr.rf (W_X7_put a0) σ
  obtain ⟨v2, s1, hp, h⟩ := bd2_some h
  replace F := F.tr (Fr.mono (fr_X7_has hp) (fun x hx => by unfold W_X7_has at hx; exact hx.elim))
  rcases ite_or h with h | h
  · cases h; exact F
  · obtain ⟨v4, s3, hp, h⟩ := bd2_some h
    replace F := F.tr (Fr.mono (fr_X7_narrowed hp) (fun x hx => by unfold W_X7_narrowed at hx; exact hx.elim))
    obtain ⟨s5, hw, h⟩ := bd_some h
    replace F := F.tr (Fr_wrJ (by unfold W_X7_put; omega) hw)
    cases h; exact F
def W_X8_init (p0 : Nat) (x : Nat) : Prop := x = p0
theorem fr_X8_init {p0 : Nat} {x1 : Int32} {x2 : Int32} {x3 : Int32} {x4 : Int32} {x5 : Int32} {σ : ST} {s : ST} (h : f_X8_init p0 x1 x2 x3 x4 x5 σ = some s) : Fr (W_X8_init p0) σ s := by
  unfold f_X8_init at h
  have F := Fr.rf (W_X8_init p0) σ
  obtain ⟨c2, hc, h⟩ := bd_some h
  obtain ⟨s1, hp, h⟩ := bd_some h
  replace F := F.tr (Fr.mono (fr_X6_init_ hp) (fun x hx => by unfold W_X6_init_ at hx; unfold W_X8_init; omega))
  cases h; exact F
def W_X9_init (p0 : Nat) (x : Nat) : Prop := x = p0
theorem fr_X9_init {p0 : Nat} {x1 : Int32} {x2 : Int32} {x3 : Int32} {x4 : Int32} {x5 : Int32} {x6 : Int32} {σ : ST} {s : ST} (h : f_X9_init p0 x1 x2 x3 x4 x5 x6 σ = some s) : Fr (W_X9_init p0) σ s := by
  unfold f_X9_init at h
  have F := Fr.rf (W_X9_init p0) σ
  obtain ⟨c2, hc, h⟩ := bd_some h
  obtain ⟨s1, hp, h⟩ := bd_some h
  replace F := F.tr (Fr.mono (fr_X6_init_ hp) (fun x hx => by unfold W_X6_init_ at hx; unfold W_X9_init; omega))
  cases h; exact F
def W_X9_weighs (p0 : Nat) (a2 : Nat) (n2 : Nat) (x : Nat) : Prop := x = a2
theorem fr_X9_weighs {p0 : Nat} {x1 : Int32} {a2 : Nat} {n2 : Nat} {σ : ST} {v : Int32} {s : ST} (h : f_X9_weighs p0 x1 a2 n2 σ = some (v, s)) : Fr (W_X9_weighs p0 a2 n2) σ s := by
  unfold f_X9_weighs at h
  have F := Fr.rf (W_X9_weighs p0 a2 n2) σ
  obtain ⟨s1, hp, h⟩ := bd_some h
  replace F := F.tr (Fr.mono (fr_X6_begin hp) (fun x hx => by unfold W_X6_begin at hx; unfold W_X9_weighs; omega))
  obtain ⟨c4, hc, h⟩ := bd_some h
  obtain ⟨v3, s2, hp, h⟩ := bd2_some h
  replace F := F.tr (Fr.mono (fr_X6_weighs hp) (fun x hx => by unfold W_X6_weighs at hx; unfold W_X9_weighs; omega))
  obtain ⟨v5, -, h⟩ := bd_some h
  cases h; exact F
theorem fr_V_weighs {c p0 : Nat} {x1 : Int32} {a2 n2 : Nat} {σ : ST} {v : Int32} {s : ST} (h : f_V_weighs c p0 x1 a2 n2 σ = some (v, s)) : Fr (W_V a2) σ s := by
  unfold f_V_weighs at h
  rcases ite_or h with h | h
  · exact Fr.mono (fr_X6_weighs h) (fun x hx => by unfold W_X6_weighs at hx; unfold W_V; omega)
  rcases ite_or h with h | h
  · exact Fr.mono (fr_X6_weighs h) (fun x hx => by unfold W_X6_weighs at hx; unfold W_V; omega)
  rcases ite_or h with h | h
  · exact Fr.mono (fr_X9_weighs h) (fun x hx => by unfold W_X9_weighs at hx; unfold W_V; omega)
  exact Fr.mono (fr_X6_weighs h) (fun x hx => by unfold W_X6_weighs at hx; unfold W_V; omega)
def W_X10_become_34 (a0 : Nat) (a1 : Nat) (x : Nat) : Prop := x = a0 + 1 ∨ x = a0 + 2 ∨ (a0 ≤ x ∧ x < a0 + 93)
theorem fr_X10_become_34 {a0 : Nat} {a1 : Nat} {k85 : ST → Option ST} {W : Nat → Prop} (hW : ∀ x, W_X10_become_34 a0 a1 x → W x) (h0 : (a0 = 2 ∨ a0 = 95)) (h1 : (a1 = 2 ∨ a1 = 95)) (hk85 : ∀ {sg : ST} {s : ST}, k85 sg = some s → Fr W sg s) : ∀ (n : Nat) {x2 : Int32} {sg : ST} {s : ST}, f_X10_become_34 a0 a1 k85 n x2 sg = some s → Fr W sg s := by
  intro n
  induction n with
  | zero => intro _ _ _ h; rw [f_X10_become_34] at h; cases h
  | succ n ih =>
    intro x2 sg s h
    rw [f_X10_become_34] at h
    have F := Fr.rf W sg
    rcases ite_or h with h | h
    · obtain ⟨v5, -, h⟩ := bd_some h
      obtain ⟨s6, hw, h⟩ := bd_some h
      replace F := F.tr (Fr_wrI (hW _ (by unfold W_X10_become_34; omega)) hw)
      obtain ⟨v7, -, h⟩ := bd_some h
      obtain ⟨s8, hw, h⟩ := bd_some h
      replace F := F.tr (Fr_wrI (hW _ (by unfold W_X10_become_34; omega)) hw)
      obtain ⟨j9, hj9, h⟩ := ixR_bd h
      obtain ⟨j10, hj10, h⟩ := ixR_bd h
      obtain ⟨s11, hp, h⟩ := bd_some h
      replace F := F.tr (Fr.mono (fr_X1_become hp) (fun x hx => hW x (by unfold W_X1_become at hx; unfold W_X10_become_34; omega)))
      exact F.tr (ih h)
    · exact F.tr (hk85 h)
def W_X10_become_87 (a0 : Nat) (a1 : Nat) (x : Nat) : Prop := (a0 ≤ x ∧ x < a0 + 93)
theorem fr_X10_become_87 {a0 : Nat} {a1 : Nat} {k114 : ST → Option ST} {W : Nat → Prop} (hW : ∀ x, W_X10_become_87 a0 a1 x → W x) (h0 : (a0 = 2 ∨ a0 = 95)) (h1 : (a1 = 2 ∨ a1 = 95)) (hk114 : ∀ {sg : ST} {s : ST}, k114 sg = some s → Fr W sg s) : ∀ (n : Nat) {x2 : Int32} {sg : ST} {s : ST}, f_X10_become_87 a0 a1 k114 n x2 sg = some s → Fr W sg s := by
  intro n
  induction n with
  | zero => intro _ _ _ h; rw [f_X10_become_87] at h; cases h
  | succ n ih =>
    intro x2 sg s h
    rw [f_X10_become_87] at h
    have F := Fr.rf W sg
    rcases ite_or h with h | h
    · obtain ⟨j13, hj13, h⟩ := ixR_bd h
      obtain ⟨j14, hj14, h⟩ := ixR_bd h
      obtain ⟨s15, hp, h⟩ := bd_some h
      replace F := F.tr (Fr.mono (fr_X3_become hp) (fun x hx => hW x (by unfold W_X3_become at hx; unfold W_X10_become_87; omega)))
      exact F.tr (ih h)
    · exact F.tr (hk114 h)
def W_X10_become_116 (a0 : Nat) (a1 : Nat) (x : Nat) : Prop := x = a0 + 5 ∨ x = a0 + 6
theorem fr_X10_become_116 {a0 : Nat} {a1 : Nat} {W : Nat → Prop} (hW : ∀ x, W_X10_become_116 a0 a1 x → W x) (h0 : (a0 = 2 ∨ a0 = 95)) (h1 : (a1 = 2 ∨ a1 = 95)) : ∀ (n : Nat) {x2 : Int32} {sg : ST} {s : ST}, f_X10_become_116 a0 a1 n x2 sg = some s → Fr W sg s := by
  intro n
  induction n with
  | zero => intro _ _ _ h; rw [f_X10_become_116] at h; cases h
  | succ n ih =>
    intro x2 sg s h
    rw [f_X10_become_116] at h
    have F := Fr.rf W sg
    rcases ite_or h with h | h
    · obtain ⟨q18, -, h⟩ := bd_some h
      obtain ⟨s19, hw, h⟩ := bd_some h
      replace F := F.tr (Fr_wrT (hW _ (by unfold W_X10_become_116; omega)) hw)
      exact F.tr (ih h)
    · obtain ⟨s17, hw, h⟩ := bd_some h
      replace F := F.tr (Fr_cpI (hW _ (by unfold W_X10_become_116; omega)) hw)
      cases h; exact F
def W_X10_become (a0 : Nat) (a1 : Nat) (x : Nat) : Prop := x = a0 ∨ x = a0 + 1 ∨ x = a0 + 2 ∨ x = a0 + 5 ∨ x = a0 + 6 ∨ (a0 ≤ x ∧ x < a0 + 93)
theorem fr_X10_become {a0 : Nat} {a1 : Nat} {σ : ST} {s : ST} (h0 : (a0 = 2 ∨ a0 = 95)) (h1 : (a1 = 2 ∨ a1 = 95)) (h : f_X10_become a0 a1 σ = some s) : Fr (W_X10_become a0 a1) σ s := by
  unfold f_X10_become at h
  have F := Fr.rf (W_X10_become a0 a1) σ
  obtain ⟨s1, hw, h⟩ := bd_some h
  replace F := F.tr (Fr_pfI (by unfold W_X10_become; omega) hw)
  obtain ⟨s2, hw, h⟩ := bd_some h
  replace F := F.tr (Fr_pfI (by unfold W_X10_become; omega) hw)
  obtain ⟨s3, hw, h⟩ := bd_some h
  replace F := F.tr (Fr_pfI (by unfold W_X10_become; omega) hw)
  obtain ⟨s4, hw, h⟩ := bd_some h
  replace F := F.tr (Fr_pfI (by unfold W_X10_become; omega) hw)
  refine F.tr (fr_X10_become_34 (fun x hx => by unfold W_X10_become_34 at hx; unfold W_X10_become; omega) h0 h1 ?_ FU h)
  · intro s12 _ h
    have F := Fr.rf (W_X10_become a0 a1) s12
    refine F.tr (fr_X10_become_87 (fun x hx => by unfold W_X10_become_87 at hx; unfold W_X10_become; omega) h0 h1 ?_ FU h)
    · intro s16 _ h
      have F := Fr.rf (W_X10_become a0 a1) s16
      refine F.tr (fr_X10_become_116 (fun x hx => by unfold W_X10_become_116 at hx; unfold W_X10_become; omega) h0 h1 FU h)
def W_X10_mostOf (x : Nat) : Prop := False
theorem fr_X10_mostOf {x0 : Int32} {σ : ST} {v : Int32} {s : ST} (h : f_X10_mostOf x0 σ = some (v, s)) : Fr (W_X10_mostOf ) σ s := by
  unfold f_X10_mostOf at h
  have F := Fr.rf (W_X10_mostOf ) σ
  rcases ite_or h with h | h
  · cases h; exact F
  rcases ite_or h with h | h
  · cases h; exact F
  rcases ite_or h with h | h
  · cases h; exact F
  cases h; exact F
def W_X10_hasRoomFor (x : Nat) : Prop := False
theorem fr_X10_hasRoomFor {x1 : Int32} {σ : ST} {v : Int32} {s : ST} (h : f_X10_hasRoomFor x1 σ = some (v, s)) : Fr (W_X10_hasRoomFor ) σ s := by
  unfold f_X10_hasRoomFor at h
  have F := Fr.rf (W_X10_hasRoomFor ) σ
  rcases ite_or h with h | h
  · obtain ⟨v2, s1, hp, h⟩ := bd2_some h
    replace F := F.tr (Fr.mono (fr_X10_countOf hp) (fun x hx => by unfold W_X10_countOf at hx; exact hx.elim))
    obtain ⟨v4, s3, hp, h⟩ := bd2_some h
    replace F := F.tr (Fr.mono (fr_X10_mostOf hp) (fun x hx => by unfold W_X10_mostOf at hx; exact hx.elim))
    rcases ite_or h with h | h
    · cases h; exact F
    · cases h; exact F
  · cases h; exact F
def W_X10_addThing_43 (a2 : Nat) (x : Nat) : Prop := x = 2 ∨ (2 ≤ x ∧ x < 2 + 93)
theorem fr_X10_addThing_43 {a2 : Nat} {W : Nat → Prop} (hW : ∀ x, W_X10_addThing_43 a2 x → W x) {x3 : Int32} {sg : ST} {v : Int32} {s : ST} (h : f_X10_addThing_43 a2 x3 sg = some (v, s)) : Fr W sg s := by
  unfold f_X10_addThing_43 at h
  have F := Fr.rf W sg
  obtain ⟨j7, hj7, h⟩ := ixR_bd h
  obtain ⟨s8, hp, h⟩ := bd_some h
  replace F := F.tr (Fr.mono (fr_X1_become hp) (fun x hx => hW x (by unfold W_X1_become at hx; unfold W_X10_addThing_43; omega)))
  obtain ⟨s9, hw, h⟩ := bd_some h
  replace F := F.tr (Fr_pfI (hW _ (by unfold W_X10_addThing_43; omega)) hw)
  cases h; exact F
def W_X10_addThing (a2 : Nat) (x : Nat) : Prop := x = 2 ∨ x = 3 ∨ x = 4 ∨ (2 ≤ x ∧ x < 2 + 93)
theorem fr_X10_addThing {x1 : Int32} {a2 : Nat} {σ : ST} {v : Int32} {s : ST} (h : f_X10_addThing x1 a2 σ = some (v, s)) : Fr (W_X10_addThing a2) σ s := by
  unfold f_X10_addThing at h
  have F := Fr.rf (W_X10_addThing a2) σ
  obtain ⟨v2, s1, hp, h⟩ := bd2_some h
  replace F := F.tr (Fr.mono (fr_X10_hasRoomFor hp) (fun x hx => by unfold W_X10_hasRoomFor at hx; exact hx.elim))
  rcases ite_or h with h | h
  · cases h; exact F
  · obtain ⟨v4, s3, hp, h⟩ := bd2_some h
    replace F := F.tr (Fr.mono (fr_X10_countOf hp) (fun x hx => by unfold W_X10_countOf at hx; exact hx.elim))
    obtain ⟨s5, hw, h⟩ := bd_some h
    replace F := F.tr (Fr_wrI (by unfold W_X10_addThing; omega) hw)
    obtain ⟨s6, hw, h⟩ := bd_some h
    replace F := F.tr (Fr_wrI (by unfold W_X10_addThing; omega) hw)
    rcases ite_or h with h | h
    · refine F.tr (fr_X10_addThing_43 (fun x hx => by unfold W_X10_addThing_43 at hx; unfold W_X10_addThing; omega) h)
    · rcases ite_or h with h | h
      · refine F.tr (fr_X10_addThing_43 (fun x hx => by unfold W_X10_addThing_43 at hx; unfold W_X10_addThing; omega) h)
      · obtain ⟨s10, hw, h⟩ := bd_some h
        replace F := F.tr (Fr_pfI (by unfold W_X10_addThing; omega) hw)
        cases h; exact F
def W_X10_addHappening (a1 : Nat) (x : Nat) : Prop := x = 2 ∨ (2 ≤ x ∧ x < 2 + 93)
theorem fr_X10_addHappening {a1 : Nat} {x2 : Int32} {x3 : Int32} {σ : ST} {v : Int32} {s : ST} (h : f_X10_addHappening a1 x2 x3 σ = some (v, s)) : Fr (W_X10_addHappening a1) σ s := by
  unfold f_X10_addHappening at h
  have F := Fr.rf (W_X10_addHappening a1) σ
  rcases ite_or h with h | h
  · obtain ⟨j1, hj1, h⟩ := ixR_bd h
    obtain ⟨s2, hp, h⟩ := bd_some h
    replace F := F.tr (Fr.mono (fr_X3_become hp) (fun x hx => by unfold W_X3_become at hx; unfold W_X10_addHappening; omega))
    obtain ⟨j3, hj3, h⟩ := ixR_bd h
    obtain ⟨s4, hw, h⟩ := bd_some h
    replace F := F.tr (Fr_pfI (by unfold W_X10_addHappening; omega) hw)
    obtain ⟨j5, hj5, h⟩ := ixR_bd h
    obtain ⟨s6, hw, h⟩ := bd_some h
    replace F := F.tr (Fr_pfZ (by unfold W_X10_addHappening; omega) hw)
    obtain ⟨s7, hw, h⟩ := bd_some h
    replace F := F.tr (Fr_pfI (by unfold W_X10_addHappening; omega) hw)
    cases h; exact F
  · cases h; exact F
def W_X10_hasRoomForPiece_15 (x : Nat) : Prop := False
theorem fr_X10_hasRoomForPiece_15 {k54 : Int32 → Int32 → ST → Option (Int32 × ST)} {W : Nat → Prop} (hW : ∀ x, W_X10_hasRoomForPiece_15 x → W x) (hk54 : ∀ {u0 : Int32} {u1 : Int32} {sg : ST} {v : Int32} {s : ST}, k54 u0 u1 sg = some (v, s) → Fr W sg s) : ∀ (n : Nat) {x1 : Int32} {x2 : Int32} {x3 : Int32} {sg : ST} {v : Int32} {s : ST}, f_X10_hasRoomForPiece_15 k54 n x1 x2 x3 sg = some (v, s) → Fr W sg s := by
  intro n
  induction n with
  | zero => intro _ _ _ _ _ _ h; rw [f_X10_hasRoomForPiece_15] at h; cases h
  | succ n ih =>
    intro x1 x2 x3 sg v s h
    rw [f_X10_hasRoomForPiece_15] at h
    have F := Fr.rf W sg
    rcases ite_or h with h | h
    · obtain ⟨q1, -, h⟩ := bd_some h
      rcases nl_or h with h | ⟨q2, h⟩
      · exact F.tr (ih h)
      · obtain ⟨v3, -, h⟩ := bd_some h
        rcases ite_or h with h | h
        · exact F.tr (ih h)
        · exact F.tr (ih h)
    · exact F.tr (hk54 h)
def W_X10_hasRoomForPiece (x : Nat) : Prop := False
theorem fr_X10_hasRoomForPiece {x1 : Int32} {σ : ST} {v : Int32} {s : ST} (h : f_X10_hasRoomForPiece x1 σ = some (v, s)) : Fr (W_X10_hasRoomForPiece ) σ s := by
  unfold f_X10_hasRoomForPiece at h
  have F := Fr.rf (W_X10_hasRoomForPiece ) σ
  rcases ite_or h with h | h
  · refine F.tr (fr_X10_hasRoomForPiece_15 (fun x hx => by unfold W_X10_hasRoomForPiece_15 at hx; unfold W_X10_hasRoomForPiece; omega) ?_ FU h)
    · intro x1_4 x2_5 s6 _ _ h
      have F := Fr.rf (W_X10_hasRoomForPiece ) s6
      rcases ite_or h with h | h
      · rcases ite_or h with h | h
        · cases h; exact F
        · cases h; exact F
      · cases h; exact F
  · cases h; exact F
def W_X10_addPiece (x : Nat) : Prop := x = 2 ∨ x = 7 ∨ x = p1 ∨ x = p13 ∨ x = p19 ∨ x = p7
def W_X10_pieceAt (x : Nat) : Prop := False
theorem fr_X10_pieceAt {x1 : Int32} {σ : ST} {v : Option Nat} {s : ST} (h : f_X10_pieceAt x1 σ = some (v, s)) : Fr (W_X10_pieceAt ) σ s := by
  unfold f_X10_pieceAt at h
  have F := Fr.rf (W_X10_pieceAt ) σ
  rcases ite_or h with h | h
  · cases h; exact F
  · rcases ite_or h with h | h
    · obtain ⟨q1, -, h⟩ := bd_some h
      cases h; exact F
    · cases h; exact F
def W_X10_isPutBy (x : Nat) : Prop := False
theorem fr_X10_isPutBy {x1 : Int32} {σ : ST} {v : Int32} {s : ST} (h : f_X10_isPutBy x1 σ = some (v, s)) : Fr (W_X10_isPutBy ) σ s := by
  unfold f_X10_isPutBy at h
  have F := Fr.rf (W_X10_isPutBy ) σ
  rcases ite_or h with h | h
  · cases h; exact F
  · cases h; exact F
def W_X10_inForce (x : Nat) : Prop := False
theorem fr_X10_inForce {σ : ST} {v : Int32} {s : ST} (h : f_X10_inForce σ = some (v, s)) : Fr (W_X10_inForce ) σ s := by
  unfold f_X10_inForce at h
  have F := Fr.rf (W_X10_inForce ) σ
  cases h; exact F
def W_X10_toldBy_5 (x : Nat) : Prop := False
theorem fr_X10_toldBy_5 {W : Nat → Prop} (hW : ∀ x, W_X10_toldBy_5 x → W x) : ∀ (n : Nat) {x1 : Int32} {x2 : Int32} {x3 : Int32} {x4 : Int32} {sg : ST} {v : Int32} {s : ST}, f_X10_toldBy_5 n x1 x2 x3 x4 sg = some (v, s) → Fr W sg s := by
  intro n
  induction n with
  | zero => intro _ _ _ _ _ _ _ h; rw [f_X10_toldBy_5] at h; cases h
  | succ n ih =>
    intro x1 x2 x3 x4 sg v s h
    rw [f_X10_toldBy_5] at h
    have F := Fr.rf W sg
    rcases ite_or h with h | h
    · obtain ⟨q3, -, h⟩ := bd_some h
      rcases nl_or h with h | ⟨q4, h⟩
      · exact F.tr (ih h)
      · obtain ⟨v5, -, h⟩ := bd_some h
        rcases ite_or h with h | h
        · obtain ⟨v6, -, h⟩ := bd_some h
          rcases ite_or h with h | h
          · exact F.tr (ih h)
          · exact F.tr (ih h)
        · exact F.tr (ih h)
    · obtain ⟨v2, s1, hp, h⟩ := bd2_some h
      replace F := F.tr (Fr.mono (fr_X10_inForce hp) (fun x hx => by unfold W_X10_inForce at hx; exact hx.elim))
      cases h; exact F
def W_X10_toldBy (x : Nat) : Prop := False
theorem fr_X10_toldBy {x1 : Int32} {x2 : Int32} {σ : ST} {v : Int32} {s : ST} (h : f_X10_toldBy x1 x2 σ = some (v, s)) : Fr (W_X10_toldBy ) σ s := by
  unfold f_X10_toldBy at h
  have F := Fr.rf (W_X10_toldBy ) σ
  refine F.tr (fr_X10_toldBy_5 (fun x hx => by unfold W_X10_toldBy_5 at hx; unfold W_X10_toldBy; omega) FU h)
def W_X10_weightOf (x : Nat) : Prop := False
theorem fr_X10_weightOf {x1 : Int32} {σ : ST} {v : Int32} {s : ST} (h : f_X10_weightOf x1 σ = some (v, s)) : Fr (W_X10_weightOf ) σ s := by
  unfold f_X10_weightOf at h
  have F := Fr.rf (W_X10_weightOf ) σ
  obtain ⟨v2, s1, hp, h⟩ := bd2_some h
  replace F := F.tr (Fr.mono (fr_X10_pieceAt hp) (fun x hx => by unfold W_X10_pieceAt at hx; exact hx.elim))
  rcases nl_or h with h | ⟨q3, h⟩
  · cases h; exact F
  · obtain ⟨v4, -, h⟩ := bd_some h
    obtain ⟨v5, -, h⟩ := bd_some h
    cases h; exact F
def W_X10_isSeenIn_2 (x : Nat) : Prop := False
theorem fr_X10_isSeenIn_2 {W : Nat → Prop} (hW : ∀ x, W_X10_isSeenIn_2 x → W x) : ∀ (n : Nat) {x1 : Int32} {x2 : Int32} {sg : ST} {v : Int32} {s : ST}, f_X10_isSeenIn_2 n x1 x2 sg = some (v, s) → Fr W sg s := by
  intro n
  induction n with
  | zero => intro _ _ _ _ _ h; rw [f_X10_isSeenIn_2] at h; cases h
  | succ n ih =>
    intro x1 x2 sg v s h
    rw [f_X10_isSeenIn_2] at h
    have F := Fr.rf W sg
    rcases ite_or h with h | h
    · obtain ⟨q1, -, h⟩ := bd_some h
      rcases nl_or h with h | ⟨q2, h⟩
      · exact F.tr (ih h)
      · obtain ⟨v3, -, h⟩ := bd_some h
        rcases ite_or h with h | h
        · obtain ⟨v4, -, h⟩ := bd_some h
          rcases ite_or h with h | h
          · obtain ⟨v6, s5, hp, h⟩ := bd2_some h
            replace F := F.tr (Fr.mono (fr_X10_isPutBy hp) (fun x hx => by unfold W_X10_isPutBy at hx; exact hx.elim))
            rcases ite_or h with h | h
            · cases h; exact F
            · exact F.tr (ih h)
          · exact F.tr (ih h)
        · exact F.tr (ih h)
    · cases h; exact F
def W_X10_isSeenIn (x : Nat) : Prop := False
theorem fr_X10_isSeenIn {x1 : Int32} {σ : ST} {v : Int32} {s : ST} (h : f_X10_isSeenIn x1 σ = some (v, s)) : Fr (W_X10_isSeenIn ) σ s := by
  unfold f_X10_isSeenIn at h
  have F := Fr.rf (W_X10_isSeenIn ) σ
  refine F.tr (fr_X10_isSeenIn_2 (fun x hx => by unfold W_X10_isSeenIn_2 at hx; unfold W_X10_isSeenIn; omega) FU h)
def W_X10_nextOf_96 (x : Nat) : Prop := False
theorem fr_X10_nextOf_96 {W : Nat → Prop} (hW : ∀ x, W_X10_nextOf_96 x → W x) {x3 : Int32} {x5 : Int32} {x6 : Int32} {x7 : Int32} {sg : ST} {v : Int32} {s : ST} (h : f_X10_nextOf_96 x3 x5 x6 x7 sg = some (v, s)) : Fr W sg s := by
  unfold f_X10_nextOf_96 at h
  have F := Fr.rf W sg
  rcases ite_or h with h | h
  · rcases ite_or h with h | h
    · obtain ⟨v2, s1, hp, h⟩ := bd2_some h
      replace F := F.tr (Fr.mono (fr_X10_countOf hp) (fun x hx => by unfold W_X10_countOf at hx; exact hx.elim))
      cases h; exact F
    · rcases ite_or h with h | h
      · obtain ⟨v6, s5, hp, h⟩ := bd2_some h
        replace F := F.tr (Fr.mono (fr_X10_countOf hp) (fun x hx => by unfold W_X10_countOf at hx; exact hx.elim))
        cases h; exact F
      · obtain ⟨v4, s3, hp, h⟩ := bd2_some h
        replace F := F.tr (Fr.mono (fr_X10_countOf hp) (fun x hx => by unfold W_X10_countOf at hx; exact hx.elim))
        cases h; exact F
  · obtain ⟨v8, s7, hp, h⟩ := bd2_some h
    replace F := F.tr (Fr.mono (fr_X10_countOf hp) (fun x hx => by unfold W_X10_countOf at hx; exact hx.elim))
    cases h; exact F
def W_X10_nextOf_66 (a8 : Nat) (x : Nat) : Prop := False
theorem fr_X10_nextOf_66 {a8 : Nat} {W : Nat → Prop} (hW : ∀ x, W_X10_nextOf_66 a8 x → W x) {x3 : Int32} {x5 : Int32} {x6 : Int32} {x7 : Int32} {x9 : Int32} {sg : ST} {v : Int32} {s : ST} (h : f_X10_nextOf_66 a8 x3 x5 x6 x7 x9 sg = some (v, s)) : Fr W sg s := by
  unfold f_X10_nextOf_66 at h
  have F := Fr.rf W sg
  rcases ite_or h with h | h
  · refine F.tr (fr_X10_nextOf_96 (fun x hx => hW x (by unfold W_X10_nextOf_96 at hx; unfold W_X10_nextOf_66; omega)) h)
  · refine F.tr (fr_X10_nextOf_96 (fun x hx => hW x (by unfold W_X10_nextOf_96 at hx; unfold W_X10_nextOf_66; omega)) h)
def W_X10_nextOf_49 (a8 : Nat) (x : Nat) : Prop := False
theorem fr_X10_nextOf_49 {a8 : Nat} {W : Nat → Prop} (hW : ∀ x, W_X10_nextOf_49 a8 x → W x) {x3 : Int32} {x5 : Int32} {x6 : Int32} {x7 : Int32} {z0 : Int32} {sg : ST} {v : Int32} {s : ST} (h : f_X10_nextOf_49 a8 x3 x5 x6 x7 z0 sg = some (v, s)) : Fr W sg s := by
  unfold f_X10_nextOf_49 at h
  have F := Fr.rf W sg
  rcases ite_or h with h | h
  · rcases ite_or h with h | h
    · refine F.tr (fr_X10_nextOf_66 (fun x hx => hW x (by unfold W_X10_nextOf_66 at hx; unfold W_X10_nextOf_49; omega)) h)
    · cases h; exact F
  · refine F.tr (fr_X10_nextOf_66 (fun x hx => hW x (by unfold W_X10_nextOf_66 at hx; unfold W_X10_nextOf_49; omega)) h)
def W_X10_nextOf (x : Nat) : Prop := False
theorem fr_X10_nextOf {x1 : Int32} {x2 : Int32} {x3 : Int32} {x4 : Int32} {σ : ST} {v : Int32} {s : ST} (h : f_X10_nextOf x1 x2 x3 x4 σ = some (v, s)) : Fr (W_X10_nextOf ) σ s := by
  unfold f_X10_nextOf at h
  have F := Fr.rf (W_X10_nextOf ) σ
  rcases ite_or h with h | h
  · refine F.tr (fr_X10_nextOf_96 (fun x hx => by unfold W_X10_nextOf_96 at hx; unfold W_X10_nextOf; omega) h)
  · rcases ite_or h with h | h
    · obtain ⟨j9, hj9, h⟩ := ixR_bd h
      rcases ite_or h with h | h
      · refine F.tr (fr_X10_nextOf_49 (fun x hx => by unfold W_X10_nextOf_49 at hx; unfold W_X10_nextOf; omega) h)
      · refine F.tr (fr_X10_nextOf_49 (fun x hx => by unfold W_X10_nextOf_49 at hx; unfold W_X10_nextOf; omega) h)
    · refine F.tr (fr_X10_nextOf_96 (fun x hx => by unfold W_X10_nextOf_96 at hx; unfold W_X10_nextOf; omega) h)
def W_X10_isThingSo (x : Nat) : Prop := False
theorem fr_X10_isThingSo {x1 : Int32} {x2 : Int32} {x3 : Int32} {x4 : Int32} {x5 : Int32} {σ : ST} {v : Int32} {s : ST} (h : f_X10_isThingSo x1 x2 x3 x4 x5 σ = some (v, s)) : Fr (W_X10_isThingSo ) σ s := by
  unfold f_X10_isThingSo at h
  have F := Fr.rf (W_X10_isThingSo ) σ
  obtain ⟨v1, -, h⟩ := bd_some h
  rcases ite_or h with h | h
  · obtain ⟨v2, -, h⟩ := bd_some h
    rcases ite_or h with h | h
    · cases h; exact F
    · cases h; exact F
  rcases ite_or h with h | h
  · obtain ⟨v3, -, h⟩ := bd_some h
    rcases ite_or h with h | h
    · cases h; exact F
    · cases h; exact F
  rcases ite_or h with h | h
  · obtain ⟨j4, hj4, h⟩ := ixR_bd h
    obtain ⟨v6, s5, hp, h⟩ := bd2_some h
    replace F := F.tr (Fr.mono (fr_X1_isMet hp) (fun x hx => by unfold W_X1_isMet at hx; exact hx.elim))
    rw [zr_st h]; exact F
  rcases ite_or h with h | h
  · cases h; exact F
  · cases h; exact F
def W_X10_truthOf_9 (x : Nat) : Prop := False
theorem fr_X10_truthOf_9 {k47 : Int32 → Int32 → Int32 → ST → Option (Int32 × ST)} {W : Nat → Prop} (hW : ∀ x, W_X10_truthOf_9 x → W x) (hk47 : ∀ {u0 : Int32} {u1 : Int32} {u2 : Int32} {sg : ST} {v : Int32} {s : ST}, k47 u0 u1 u2 sg = some (v, s) → Fr W sg s) : ∀ (n : Nat) {x1 : Int32} {x2 : Int32} {x3 : Int32} {x4 : Int32} {x5 : Int32} {x6 : Int32} {sg : ST} {v : Int32} {s : ST}, f_X10_truthOf_9 k47 n x1 x2 x3 x4 x5 x6 sg = some (v, s) → Fr W sg s := by
  intro n
  induction n with
  | zero => intro _ _ _ _ _ _ _ _ _ h; rw [f_X10_truthOf_9] at h; cases h
  | succ n ih =>
    intro x1 x2 x3 x4 x5 x6 sg v s h
    rw [f_X10_truthOf_9] at h
    have F := Fr.rf W sg
    rcases ite_or h with h | h
    · obtain ⟨v2, s1, hp, h⟩ := bd2_some h
      replace F := F.tr (Fr.mono (fr_X10_isThingSo hp) (fun x hx => by unfold W_X10_isThingSo at hx; exact hx.elim))
      rcases ite_or h with h | h
      · exact F.tr (ih h)
      · exact F.tr (ih h)
    · exact F.tr (hk47 h)
def W_X10_truthOf_50 (x : Nat) : Prop := False
theorem fr_X10_truthOf_50 {k96 : Int32 → Int32 → Int32 → ST → Option (Int32 × ST)} {W : Nat → Prop} (hW : ∀ x, W_X10_truthOf_50 x → W x) (hk96 : ∀ {u0 : Int32} {u1 : Int32} {u2 : Int32} {sg : ST} {v : Int32} {s : ST}, k96 u0 u1 u2 sg = some (v, s) → Fr W sg s) : ∀ (n : Nat) {x3 : Int32} {x4 : Int32} {x5 : Int32} {x6 : Int32} {sg : ST} {v : Int32} {s : ST}, f_X10_truthOf_50 k96 n x3 x4 x5 x6 sg = some (v, s) → Fr W sg s := by
  intro n
  induction n with
  | zero => intro _ _ _ _ _ _ _ h; rw [f_X10_truthOf_50] at h; cases h
  | succ n ih =>
    intro x3 x4 x5 x6 sg v s h
    rw [f_X10_truthOf_50] at h
    have F := Fr.rf W sg
    rcases ite_or h with h | h
    · obtain ⟨v7, -, h⟩ := bd_some h
      rcases ite_or h with h | h
      · obtain ⟨j8, hj8, h⟩ := ixR_bd h
        obtain ⟨v10, s9, hp, h⟩ := bd2_some h
        replace F := F.tr (Fr.mono (fr_X1_isMet hp) (fun x hx => by unfold W_X1_isMet at hx; exact hx.elim))
        rcases ite_or h with h | h
        · exact F.tr (ih h)
        · exact F.tr (ih h)
      · exact F.tr (ih h)
    · exact F.tr (hk96 h)
def W_X10_truthOf_99 (x : Nat) : Prop := False
theorem fr_X10_truthOf_99 {W : Nat → Prop} (hW : ∀ x, W_X10_truthOf_99 x → W x) : ∀ (n : Nat) {x3 : Int32} {x4 : Int32} {x5 : Int32} {x6 : Int32} {sg : ST} {v : Int32} {s : ST}, f_X10_truthOf_99 n x3 x4 x5 x6 sg = some (v, s) → Fr W sg s := by
  intro n
  induction n with
  | zero => intro _ _ _ _ _ _ _ h; rw [f_X10_truthOf_99] at h; cases h
  | succ n ih =>
    intro x3 x4 x5 x6 sg v s h
    rw [f_X10_truthOf_99] at h
    have F := Fr.rf W sg
    rcases ite_or h with h | h
    · obtain ⟨j15, hj15, h⟩ := ixR_bd h
      obtain ⟨v17, s16, hp, h⟩ := bd2_some h
      replace F := F.tr (Fr.mono (fr_X1_isMet hp) (fun x hx => by unfold W_X1_isMet at hx; exact hx.elim))
      rcases ite_or h with h | h
      · exact F.tr (ih h)
      · exact F.tr (ih h)
    · cases h; exact F
def W_X10_truthOf (x : Nat) : Prop := False
theorem fr_X10_truthOf {x1 : Int32} {x2 : Int32} {x3 : Int32} {σ : ST} {v : Int32} {s : ST} (h : f_X10_truthOf x1 x2 x3 σ = some (v, s)) : Fr (W_X10_truthOf ) σ s := by
  unfold f_X10_truthOf at h
  have F := Fr.rf (W_X10_truthOf ) σ
  refine F.tr (fr_X10_truthOf_9 (fun x hx => by unfold W_X10_truthOf_9 at hx; unfold W_X10_truthOf; omega) ?_ FU h)
  · intro x3_3 x4_4 x5_5 s6 _ _ h
    have F := Fr.rf (W_X10_truthOf ) s6
    refine F.tr (fr_X10_truthOf_50 (fun x hx => by unfold W_X10_truthOf_50 at hx; unfold W_X10_truthOf; omega) ?_ FU h)
    · intro x3_11 x4_12 x5_13 s14 _ _ h
      have F := Fr.rf (W_X10_truthOf ) s14
      refine F.tr (fr_X10_truthOf_99 (fun x hx => by unfold W_X10_truthOf_99 at hx; unfold W_X10_truthOf; omega) FU h)
def W_X10_fillTables_86 (a1 : Nat) (n1 : Nat) (a2 : Nat) (n2 : Nat) (x : Nat) : Prop := x = a2
theorem fr_X10_fillTables_86 {a1 : Nat} {n1 : Nat} {a2 : Nat} {n2 : Nat} {k121 : Int32 → Int32 → Int32 → Int32 → Int32 → ST → Option ST} {W : Nat → Prop} (hW : ∀ x, W_X10_fillTables_86 a1 n1 a2 n2 x → W x) (hk121 : ∀ {u0 : Int32} {u1 : Int32} {u2 : Int32} {u3 : Int32} {u4 : Int32} {sg : ST} {s : ST}, k121 u0 u1 u2 u3 u4 sg = some s → Fr W sg s) : ∀ (n : Nat) {x3 : Int32} {x4 : Int32} {x5 : Int32} {x6 : Int32} {x7 : Int32} {x8 : Int32} {x9 : Int32} {x10 : Int32} {x11 : Int32} {x12 : Int32} {sg : ST} {s : ST}, f_X10_fillTables_86 a1 n1 a2 n2 k121 n x3 x4 x5 x6 x7 x8 x9 x10 x11 x12 sg = some s → Fr W sg s := by
  intro n
  induction n with
  | zero => intro _ _ _ _ _ _ _ _ _ _ _ _ h; rw [f_X10_fillTables_86] at h; cases h
  | succ n ih =>
    intro x3 x4 x5 x6 x7 x8 x9 x10 x11 x12 sg s h
    rw [f_X10_fillTables_86] at h
    have F := Fr.rf W sg
    rcases ite_or h with h | h
    · obtain ⟨v11, s10, hp, h⟩ := bd2_some h
      replace F := F.tr (Fr.mono (fr_X10_nextOf hp) (fun x hx => by unfold W_X10_nextOf at hx; exact hx.elim))
      obtain ⟨s12, hw, h⟩ := bd_some h
      replace F := F.tr (Fr_wrI (hW _ (by unfold W_X10_fillTables_86; omega)) hw)
      exact F.tr (ih h)
    · exact F.tr (hk121 h)
def W_X10_fillTables_30 (a1 : Nat) (n1 : Nat) (a2 : Nat) (n2 : Nat) (x : Nat) : Prop := x = a1 ∨ x = a2
theorem fr_X10_fillTables_30 {a1 : Nat} {n1 : Nat} {a2 : Nat} {n2 : Nat} {k127 : Int32 → Int32 → Int32 → Int32 → ST → Option ST} {W : Nat → Prop} (hW : ∀ x, W_X10_fillTables_30 a1 n1 a2 n2 x → W x) (hk127 : ∀ {u0 : Int32} {u1 : Int32} {u2 : Int32} {u3 : Int32} {sg : ST} {s : ST}, k127 u0 u1 u2 u3 sg = some s → Fr W sg s) : ∀ (n : Nat) {x3 : Int32} {x4 : Int32} {x5 : Int32} {x6 : Int32} {x7 : Int32} {sg : ST} {s : ST}, f_X10_fillTables_30 a1 n1 a2 n2 k127 n x3 x4 x5 x6 x7 sg = some s → Fr W sg s := by
  intro n
  induction n with
  | zero => intro _ _ _ _ _ _ _ h; rw [f_X10_fillTables_30] at h; cases h
  | succ n ih =>
    intro x3 x4 x5 x6 x7 sg s h
    rw [f_X10_fillTables_30] at h
    have F := Fr.rf W sg
    rcases ite_or h with h | h
    · obtain ⟨v8, s7, hp, h⟩ := bd2_some h
      replace F := F.tr (Fr.mono (fr_X10_truthOf hp) (fun x hx => by unfold W_X10_truthOf at hx; exact hx.elim))
      obtain ⟨s9, hw, h⟩ := bd_some h
      replace F := F.tr (Fr_wrI (hW _ (by unfold W_X10_fillTables_30; omega)) hw)
      refine F.tr (fr_X10_fillTables_86 (fun x hx => hW x (by unfold W_X10_fillTables_86 at hx; unfold W_X10_fillTables_30; omega)) ?_ FU h)
      · intro x3_13 x4_14 x5_15 x6_16 x7_17 s18 _ h
        have F := Fr.rf W s18
        exact F.tr (ih h)
    · exact F.tr (hk127 h)
def W_X10_fillTables_21 (a1 : Nat) (n1 : Nat) (a2 : Nat) (n2 : Nat) (x : Nat) : Prop := x = a1 ∨ x = a2
theorem fr_X10_fillTables_21 {a1 : Nat} {n1 : Nat} {a2 : Nat} {n2 : Nat} {W : Nat → Prop} (hW : ∀ x, W_X10_fillTables_21 a1 n1 a2 n2 x → W x) : ∀ (n : Nat) {x3 : Int32} {x4 : Int32} {x5 : Int32} {x6 : Int32} {sg : ST} {s : ST}, f_X10_fillTables_21 a1 n1 a2 n2 n x3 x4 x5 x6 sg = some s → Fr W sg s := by
  intro n
  induction n with
  | zero => intro _ _ _ _ _ _ h; rw [f_X10_fillTables_21] at h; cases h
  | succ n ih =>
    intro x3 x4 x5 x6 sg s h
    rw [f_X10_fillTables_21] at h
    have F := Fr.rf W sg
    rcases ite_or h with h | h
    · refine F.tr (fr_X10_fillTables_30 (fun x hx => hW x (by unfold W_X10_fillTables_30 at hx; unfold W_X10_fillTables_21; omega)) ?_ FU h)
      · intro x3_19 x4_20 x5_21 x6_22 s23 _ h
        have F := Fr.rf W s23
        exact F.tr (ih h)
    · cases h; exact F
def W_X10_fillTables (a1 : Nat) (n1 : Nat) (a2 : Nat) (n2 : Nat) (x : Nat) : Prop := x = a1 ∨ x = a2
theorem fr_X10_fillTables {a1 : Nat} {n1 : Nat} {a2 : Nat} {n2 : Nat} {σ : ST} {s : ST} (h : f_X10_fillTables a1 n1 a2 n2 σ = some s) : Fr (W_X10_fillTables a1 n1 a2 n2) σ s := by
  unfold f_X10_fillTables at h
  have F := Fr.rf (W_X10_fillTables a1 n1 a2 n2) σ
  obtain ⟨v2, s1, hp, h⟩ := bd2_some h
  replace F := F.tr (Fr.mono (fr_X10_freeLooks hp) (fun x hx => by unfold W_X10_freeLooks at hx; exact hx.elim))
  obtain ⟨v4, s3, hp, h⟩ := bd2_some h
  replace F := F.tr (Fr.mono (fr_X10_lowStates hp) (fun x hx => by unfold W_X10_lowStates at hx; exact hx.elim))
  obtain ⟨v6, s5, hp, h⟩ := bd2_some h
  replace F := F.tr (Fr.mono (fr_X10_countOf hp) (fun x hx => by unfold W_X10_countOf at hx; exact hx.elim))
  refine F.tr (fr_X10_fillTables_21 (fun x hx => by unfold W_X10_fillTables_21 at hx; unfold W_X10_fillTables; omega) FU h)
def W_X11_isShelf (x : Nat) : Prop := False
theorem fr_X11_isShelf {x0 : Int32} {σ : ST} {v : Int32} {s : ST} (h : f_X11_isShelf x0 σ = some (v, s)) : Fr (W_X11_isShelf ) σ s := by
  unfold f_X11_isShelf at h
  have F := Fr.rf (W_X11_isShelf ) σ
  rcases ite_or h with h | h
  · cases h; exact F
  · rcases ite_or h with h | h
    · cases h; exact F
    · cases h; exact F
def W_X11_refuse (x : Nat) : Prop := x = 229
theorem fr_X11_refuse {x1 : Int32} {σ : ST} {v : Int32} {s : ST} (h : f_X11_refuse x1 σ = some (v, s)) : Fr (W_X11_refuse ) σ s := by
  unfold f_X11_refuse at h
  have F := Fr.rf (W_X11_refuse ) σ
  rcases ite_or h with h | h
  · cases h; exact F
  · rcases ite_or h with h | h
    · obtain ⟨v1, -, h⟩ := bd_some h
      obtain ⟨s2, hw, h⟩ := bd_some h
      replace F := F.tr (Fr_wrI (by unfold W_X11_refuse; omega) hw)
      cases h; exact F
    · cases h; exact F
def W_X11_row (x : Nat) : Prop := x = 229 ∨ (231 ≤ x ∧ x < 247)
theorem fr_X11_row {x1 : Int32} {x2 : Int32} {x3 : Int32} {σ : ST} {v : Int32} {s : ST} (h : f_X11_row x1 x2 x3 σ = some (v, s)) : Fr (W_X11_row ) σ s := by
  unfold f_X11_row at h
  have F := Fr.rf (W_X11_row ) σ
  obtain ⟨v2, s1, hp, h⟩ := bd2_some h
  replace F := F.tr (Fr.mono (fr_X11_isShelf hp) (fun x hx => by unfold W_X11_isShelf at hx; exact hx.elim))
  rcases ite_or h with h | h
  · obtain ⟨v14, s13, hp, h⟩ := bd2_some h
    replace F := F.tr (Fr.mono (fr_X11_refuse hp) (fun x hx => by unfold W_X11_refuse at hx; unfold W_X11_row; omega))
    cases h; exact F
  · rcases ite_or h with h | h
    · obtain ⟨v12, s11, hp, h⟩ := bd2_some h
      replace F := F.tr (Fr.mono (fr_X11_refuse hp) (fun x hx => by unfold W_X11_refuse at hx; unfold W_X11_row; omega))
      cases h; exact F
    · rcases ite_or h with h | h
      · obtain ⟨v4, s3, hp, h⟩ := bd2_some h
        replace F := F.tr (Fr.mono (fr_X11_refuse hp) (fun x hx => by unfold W_X11_refuse at hx; unfold W_X11_row; omega))
        cases h; exact F
      · rcases ite_or h with h | h
        · obtain ⟨v10, s9, hp, h⟩ := bd2_some h
          replace F := F.tr (Fr.mono (fr_X11_refuse hp) (fun x hx => by unfold W_X11_refuse at hx; unfold W_X11_row; omega))
          cases h; exact F
        · rcases ite_or h with h | h
          · obtain ⟨v8, s7, hp, h⟩ := bd2_some h
            replace F := F.tr (Fr.mono (fr_X11_refuse hp) (fun x hx => by unfold W_X11_refuse at hx; unfold W_X11_row; omega))
            cases h; exact F
          · obtain ⟨j5, hj5, h⟩ := ixR_bd h
            obtain ⟨s6, hp, h⟩ := bd_some h
            replace F := F.tr (Fr.mono (fr_X7_takeRow hp) (fun x hx => by unfold W_X7_takeRow at hx; unfold W_X11_row; omega))
            cases h; exact F
def W_X11_rowTrouble (x : Nat) : Prop := False
theorem fr_X11_rowTrouble {x1 : Int32} {σ : ST} {v : Int32} {s : ST} (h : f_X11_rowTrouble x1 σ = some (v, s)) : Fr (W_X11_rowTrouble ) σ s := by
  unfold f_X11_rowTrouble at h
  have F := Fr.rf (W_X11_rowTrouble ) σ
  obtain ⟨v2, s1, hp, h⟩ := bd2_some h
  replace F := F.tr (Fr.mono (fr_X11_isShelf hp) (fun x hx => by unfold W_X11_isShelf at hx; exact hx.elim))
  rcases ite_or h with h | h
  · cases h; exact F
  · obtain ⟨j3, hj3, h⟩ := ixR_bd h
    obtain ⟨v5, s4, hp, h⟩ := bd2_some h
    replace F := F.tr (Fr.mono (fr_X7_holdsRow hp) (fun x hx => by unfold W_X7_holdsRow at hx; exact hx.elim))
    rcases ite_or h with h | h
    · obtain ⟨j6, hj6, h⟩ := ixR_bd h
      obtain ⟨v8, s7, hp, h⟩ := bd2_some h
      replace F := F.tr (Fr.mono (fr_X7_holdsPiece hp) (fun x hx => by unfold W_X7_holdsPiece at hx; exact hx.elim))
      rcases ite_or h with h | h
      · cases h; exact F
      · cases h; exact F
    · cases h; exact F
def W_X11_set (x : Nat) : Prop := x = 229 ∨ (231 ≤ x ∧ x < 247)
theorem fr_X11_set {x1 : Int32} {x2 : Int32} {y3 : Int64} {σ : ST} {v : Int32} {s : ST} (h : f_X11_set x1 x2 y3 σ = some (v, s)) : Fr (W_X11_set ) σ s := by
  unfold f_X11_set at h
  have F := Fr.rf (W_X11_set ) σ
  obtain ⟨v2, s1, hp, h⟩ := bd2_some h
  replace F := F.tr (Fr.mono (fr_X11_rowTrouble hp) (fun x hx => by unfold W_X11_rowTrouble at hx; exact hx.elim))
  rcases ite_or h with h | h
  · obtain ⟨j3, hj3, h⟩ := ixR_bd h
    obtain ⟨v5, s4, hp, h⟩ := bd2_some h
    replace F := F.tr (Fr.mono (fr_X7_has hp) (fun x hx => by unfold W_X7_has at hx; exact hx.elim))
    rcases ite_or h with h | h
    · obtain ⟨v9, s8, hp, h⟩ := bd2_some h
      replace F := F.tr (Fr.mono (fr_X11_refuse hp) (fun x hx => by unfold W_X11_refuse at hx; unfold W_X11_set; omega))
      cases h; exact F
    · obtain ⟨j6, hj6, h⟩ := ixR_bd h
      obtain ⟨s7, hp, h⟩ := bd_some h
      replace F := F.tr (Fr.mono (fr_X7_put hp) (fun x hx => by unfold W_X7_put at hx; unfold W_X11_set; omega))
      cases h; exact F
  · obtain ⟨v11, s10, hp, h⟩ := bd2_some h
    replace F := F.tr (Fr.mono (fr_X11_refuse hp) (fun x hx => by unfold W_X11_refuse at hx; unfold W_X11_set; omega))
    cases h; exact F
def W_X11_copy_95 (a6 : Nat) (a7 : Nat) (x : Nat) : Prop := x = 229 ∨ x = a7 + 1
theorem fr_X11_copy_95 {a6 : Nat} {a7 : Nat} {W : Nat → Prop} (hW : ∀ x, W_X11_copy_95 a6 a7 x → W x) {x3 : Int32} {x4 : Int32} {x5 : Int32} {sg : ST} {v : Int32} {s : ST} (h : f_X11_copy_95 a6 a7 x3 x4 x5 sg = some (v, s)) : Fr W sg s := by
  unfold f_X11_copy_95 at h
  have F := Fr.rf W sg
  obtain ⟨v18, s17, hp, h⟩ := bd2_some h
  replace F := F.tr (Fr.mono (fr_X7_holdsRow hp) (fun x hx => by unfold W_X7_holdsRow at hx; exact hx.elim))
  rcases ite_or h with h | h
  · obtain ⟨v20, s19, hp, h⟩ := bd2_some h
    replace F := F.tr (Fr.mono (fr_X11_refuse hp) (fun x hx => hW x (by unfold W_X11_refuse at hx; unfold W_X11_copy_95; omega)))
    cases h; exact F
  · obtain ⟨v22, s21, hp, h⟩ := bd2_some h
    replace F := F.tr (Fr.mono (fr_X7_holdsRow hp) (fun x hx => by unfold W_X7_holdsRow at hx; exact hx.elim))
    rcases ite_or h with h | h
    · obtain ⟨v35, s34, hp, h⟩ := bd2_some h
      replace F := F.tr (Fr.mono (fr_X11_refuse hp) (fun x hx => hW x (by unfold W_X11_refuse at hx; unfold W_X11_copy_95; omega)))
      cases h; exact F
    · rcases ite_or h with h | h
      · obtain ⟨v33, s32, hp, h⟩ := bd2_some h
        replace F := F.tr (Fr.mono (fr_X11_refuse hp) (fun x hx => hW x (by unfold W_X11_refuse at hx; unfold W_X11_copy_95; omega)))
        cases h; exact F
      · obtain ⟨v24, s23, hp, h⟩ := bd2_some h
        replace F := F.tr (Fr.mono (fr_X7_reaches hp) (fun x hx => by unfold W_X7_reaches at hx; exact hx.elim))
        rcases ite_or h with h | h
        · obtain ⟨v26, s25, hp, h⟩ := bd2_some h
          replace F := F.tr (Fr.mono (fr_X11_refuse hp) (fun x hx => hW x (by unfold W_X11_refuse at hx; unfold W_X11_copy_95; omega)))
          cases h; exact F
        · obtain ⟨v28, s27, hp, h⟩ := bd2_some h
          replace F := F.tr (Fr.mono (fr_X7_reaches hp) (fun x hx => by unfold W_X7_reaches at hx; exact hx.elim))
          rcases ite_or h with h | h
          · obtain ⟨v31, s30, hp, h⟩ := bd2_some h
            replace F := F.tr (Fr.mono (fr_X11_refuse hp) (fun x hx => hW x (by unfold W_X11_refuse at hx; unfold W_X11_copy_95; omega)))
            cases h; exact F
          · obtain ⟨s29, hw, h⟩ := bd_some h
            replace F := F.tr (Fr_cpJ (hW _ (by unfold W_X11_copy_95; omega)) hw)
            cases h; exact F
def W_X11_copy (x : Nat) : Prop := x = 229 ∨ (231 ≤ x ∧ x < 247)
theorem fr_X11_copy {x1 : Int32} {x2 : Int32} {x3 : Int32} {x4 : Int32} {x5 : Int32} {σ : ST} {v : Int32} {s : ST} (h : f_X11_copy x1 x2 x3 x4 x5 σ = some (v, s)) : Fr (W_X11_copy ) σ s := by
  unfold f_X11_copy at h
  have F := Fr.rf (W_X11_copy ) σ
  obtain ⟨v2, s1, hp, h⟩ := bd2_some h
  replace F := F.tr (Fr.mono (fr_X11_isShelf hp) (fun x hx => by unfold W_X11_isShelf at hx; exact hx.elim))
  rcases ite_or h with h | h
  · obtain ⟨v4, s3, hp, h⟩ := bd2_some h
    replace F := F.tr (Fr.mono (fr_X11_refuse hp) (fun x hx => by unfold W_X11_refuse at hx; unfold W_X11_copy; omega))
    cases h; exact F
  · obtain ⟨v6, s5, hp, h⟩ := bd2_some h
    replace F := F.tr (Fr.mono (fr_X11_isShelf hp) (fun x hx => by unfold W_X11_isShelf at hx; exact hx.elim))
    rcases ite_or h with h | h
    · obtain ⟨v43, s42, hp, h⟩ := bd2_some h
      replace F := F.tr (Fr.mono (fr_X11_refuse hp) (fun x hx => by unfold W_X11_refuse at hx; unfold W_X11_copy; omega))
      cases h; exact F
    · obtain ⟨j7, hj7, h⟩ := ixR_bd h
      obtain ⟨j8, hj8, h⟩ := ixR_bd h
      obtain ⟨v10, s9, hp, h⟩ := bd2_some h
      replace F := F.tr (Fr.mono (fr_X7_holdsPiece hp) (fun x hx => by unfold W_X7_holdsPiece at hx; exact hx.elim))
      rcases ite_or h with h | h
      · obtain ⟨v14, s13, hp, h⟩ := bd2_some h
        replace F := F.tr (Fr.mono (fr_X7_holdsPiece hp) (fun x hx => by unfold W_X7_holdsPiece at hx; exact hx.elim))
        rcases ite_or h with h | h
        · obtain ⟨v16, s15, hp, h⟩ := bd2_some h
          replace F := F.tr (Fr.mono (fr_X7_holdsRow hp) (fun x hx => by unfold W_X7_holdsRow at hx; exact hx.elim))
          rcases ite_or h with h | h
          · refine F.tr (fr_X11_copy_95 (fun x hx => by unfold W_X11_copy_95 at hx; unfold W_X11_copy; omega) h)
          · obtain ⟨v37, s36, hp, h⟩ := bd2_some h
            replace F := F.tr (Fr.mono (fr_X7_holdsRow hp) (fun x hx => by unfold W_X7_holdsRow at hx; exact hx.elim))
            rcases ite_or h with h | h
            · refine F.tr (fr_X11_copy_95 (fun x hx => by unfold W_X11_copy_95 at hx; unfold W_X11_copy; omega) h)
            · rcases ite_or h with h | h
              · refine F.tr (fr_X11_copy_95 (fun x hx => by unfold W_X11_copy_95 at hx; unfold W_X11_copy; omega) h)
              · obtain ⟨v39, s38, hp, h⟩ := bd2_some h
                replace F := F.tr (Fr.mono (fr_X11_refuse hp) (fun x hx => by unfold W_X11_refuse at hx; unfold W_X11_copy; omega))
                cases h; exact F
        · obtain ⟨v41, s40, hp, h⟩ := bd2_some h
          replace F := F.tr (Fr.mono (fr_X11_refuse hp) (fun x hx => by unfold W_X11_refuse at hx; unfold W_X11_copy; omega))
          cases h; exact F
      · obtain ⟨v12, s11, hp, h⟩ := bd2_some h
        replace F := F.tr (Fr.mono (fr_X11_refuse hp) (fun x hx => by unfold W_X11_refuse at hx; unfold W_X11_copy; omega))
        cases h; exact F
def W_X11_element (x : Nat) : Prop := False
theorem fr_X11_element {x1 : Int32} {x2 : Int32} {σ : ST} {v : Int64} {s : ST} (h : f_X11_element x1 x2 σ = some (v, s)) : Fr (W_X11_element ) σ s := by
  unfold f_X11_element at h
  have F := Fr.rf (W_X11_element ) σ
  obtain ⟨v2, s1, hp, h⟩ := bd2_some h
  replace F := F.tr (Fr.mono (fr_X11_isShelf hp) (fun x hx => by unfold W_X11_isShelf at hx; exact hx.elim))
  rcases ite_or h with h | h
  · cases h; exact F
  · obtain ⟨j3, hj3, h⟩ := ixR_bd h
    obtain ⟨v5, s4, hp, h⟩ := bd2_some h
    replace F := F.tr (Fr.mono (fr_X7_cellAt hp) (fun x hx => by unfold W_X7_cellAt at hx; exact hx.elim))
    cases h; exact F
def W_X11_show_29 (x : Nat) : Prop := (231 ≤ x ∧ x < 247)
theorem fr_X11_show_29 {W : Nat → Prop} (hW : ∀ x, W_X11_show_29 x → W x) {x1 : Int32} {x2 : Int32} {sg : ST} {v : Int32} {s : ST} (h : f_X11_show_29 x1 x2 sg = some (v, s)) : Fr W sg s := by
  unfold f_X11_show_29 at h
  have F := Fr.rf W sg
  obtain ⟨j5, hj5, h⟩ := ixR_bd h
  obtain ⟨s6, hp, h⟩ := bd_some h
  replace F := F.tr (Fr.mono (fr_X7_takePiece hp) (fun x hx => hW x (by unfold W_X7_takePiece at hx; unfold W_X11_show_29; omega)))
  rcases ite_or h with h | h
  · cases h; exact F
  · cases h; exact F
def W_X11_show (x : Nat) : Prop := x = 229 ∨ (231 ≤ x ∧ x < 247)
theorem fr_X11_show {x1 : Int32} {x2 : Int32} {σ : ST} {v : Int32} {s : ST} (h : f_X11_show x1 x2 σ = some (v, s)) : Fr (W_X11_show ) σ s := by
  unfold f_X11_show at h
  have F := Fr.rf (W_X11_show ) σ
  obtain ⟨v2, s1, hp, h⟩ := bd2_some h
  replace F := F.tr (Fr.mono (fr_X11_isShelf hp) (fun x hx => by unfold W_X11_isShelf at hx; exact hx.elim))
  rcases ite_or h with h | h
  · obtain ⟨v4, s3, hp, h⟩ := bd2_some h
    replace F := F.tr (Fr.mono (fr_X11_refuse hp) (fun x hx => by unfold W_X11_refuse at hx; unfold W_X11_show; omega))
    cases h; exact F
  · rcases ite_or h with h | h
    · refine F.tr (fr_X11_show_29 (fun x hx => by unfold W_X11_show_29 at hx; unfold W_X11_show; omega) h)
    · obtain ⟨v8, s7, hp, h⟩ := bd2_some h
      replace F := F.tr (Fr.mono (fr_X10_pieceAt hp) (fun x hx => by unfold W_X10_pieceAt at hx; exact hx.elim))
      rcases nl_or h with h | ⟨q9, h⟩
      · obtain ⟨v11, s10, hp, h⟩ := bd2_some h
        replace F := F.tr (Fr.mono (fr_X11_refuse hp) (fun x hx => by unfold W_X11_refuse at hx; unfold W_X11_show; omega))
        cases h; exact F
      · refine F.tr (fr_X11_show_29 (fun x hx => by unfold W_X11_show_29 at hx; unfold W_X11_show; omega) h)
def W_X11_holds (x : Nat) : Prop := False
theorem fr_X11_holds {x1 : Int32} {σ : ST} {v : Int32} {s : ST} (h : f_X11_holds x1 σ = some (v, s)) : Fr (W_X11_holds ) σ s := by
  unfold f_X11_holds at h
  have F := Fr.rf (W_X11_holds ) σ
  obtain ⟨v2, s1, hp, h⟩ := bd2_some h
  replace F := F.tr (Fr.mono (fr_X11_isShelf hp) (fun x hx => by unfold W_X11_isShelf at hx; exact hx.elim))
  rcases ite_or h with h | h
  · cases h; exact F
  · obtain ⟨j3, hj3, h⟩ := ixR_bd h
    cases h; exact F
def W_X11_isKind (x : Nat) : Prop := False
theorem fr_X11_isKind {x0 : Int32} {σ : ST} {v : Int32} {s : ST} (h : f_X11_isKind x0 σ = some (v, s)) : Fr (W_X11_isKind ) σ s := by
  unfold f_X11_isKind at h
  have F := Fr.rf (W_X11_isKind ) σ
  rcases ite_or h with h | h
  · cases h; exact F
  · rcases ite_or h with h | h
    · cases h; exact F
    · cases h; exact F
def W_X11_isOf (p0 : Nat) (x : Nat) : Prop := False
theorem fr_X11_isOf {p0 : Nat} {x1 : Int32} {σ : ST} {v : Int32} {s : ST} (h : f_X11_isOf p0 x1 σ = some (v, s)) : Fr (W_X11_isOf p0) σ s := by
  unfold f_X11_isOf at h
  have F := Fr.rf (W_X11_isOf p0) σ
  rcases ite_or h with h | h
  · obtain ⟨c1, -, h⟩ := bd_some h
    rw [zr_st h]; exact F
  rcases ite_or h with h | h
  · obtain ⟨c2, -, h⟩ := bd_some h
    rw [zr_st h]; exact F
  rcases ite_or h with h | h
  · obtain ⟨c3, -, h⟩ := bd_some h
    rw [zr_st h]; exact F
  cases h; exact F
def W_X11_says (x : Nat) : Prop := x = 229
theorem fr_X11_says {x1 : Int32} {x2 : Int32} {σ : ST} {v : Int32} {s : ST} (h : f_X11_says x1 x2 σ = some (v, s)) : Fr (W_X11_says ) σ s := by
  unfold f_X11_says at h
  have F := Fr.rf (W_X11_says ) σ
  obtain ⟨v2, s1, hp, h⟩ := bd2_some h
  replace F := F.tr (Fr.mono (fr_X11_isShelf hp) (fun x hx => by unfold W_X11_isShelf at hx; exact hx.elim))
  rcases ite_or h with h | h
  · obtain ⟨v4, s3, hp, h⟩ := bd2_some h
    replace F := F.tr (Fr.mono (fr_X11_refuse hp) (fun x hx => by unfold W_X11_refuse at hx; unfold W_X11_says; omega))
    cases h; exact F
  · obtain ⟨v6, s5, hp, h⟩ := bd2_some h
    replace F := F.tr (Fr.mono (fr_X11_isKind hp) (fun x hx => by unfold W_X11_isKind at hx; exact hx.elim))
    rcases ite_or h with h | h
    · obtain ⟨v26, s25, hp, h⟩ := bd2_some h
      replace F := F.tr (Fr.mono (fr_X11_refuse hp) (fun x hx => by unfold W_X11_refuse at hx; unfold W_X11_says; omega))
      cases h; exact F
    · obtain ⟨j7, hj7, h⟩ := ixR_bd h
      obtain ⟨v9, s8, hp, h⟩ := bd2_some h
      replace F := F.tr (Fr.mono (fr_X7_holdsRow hp) (fun x hx => by unfold W_X7_holdsRow at hx; exact hx.elim))
      rcases ite_or h with h | h
      · obtain ⟨j10, hj10, h⟩ := ixR_bd h
        obtain ⟨v12, s11, hp, h⟩ := bd2_some h
        replace F := F.tr (Fr.mono (fr_X10_pieceAt hp) (fun x hx => by unfold W_X10_pieceAt at hx; exact hx.elim))
        rcases nl_or h with h | ⟨q13, h⟩
        · obtain ⟨v15, s14, hp, h⟩ := bd2_some h
          replace F := F.tr (Fr.mono (fr_X11_refuse hp) (fun x hx => by unfold W_X11_refuse at hx; unfold W_X11_says; omega))
          cases h; exact F
        · obtain ⟨v17, s16, hp, h⟩ := bd2_some h
          replace F := F.tr (Fr.mono (fr_X11_isOf hp) (fun x hx => by unfold W_X11_isOf at hx; exact hx.elim))
          rcases ite_or h with h | h
          · obtain ⟨v22, s21, hp, h⟩ := bd2_some h
            replace F := F.tr (Fr.mono (fr_X11_refuse hp) (fun x hx => by unfold W_X11_refuse at hx; unfold W_X11_says; omega))
            cases h; exact F
          · rcases ite_or h with h | h
            · obtain ⟨v20, -, h⟩ := bd_some h
              cases h; exact F
            · rcases ite_or h with h | h
              · obtain ⟨v19, -, h⟩ := bd_some h
                cases h; exact F
              · obtain ⟨v18, -, h⟩ := bd_some h
                cases h; exact F
      · obtain ⟨v24, s23, hp, h⟩ := bd2_some h
        replace F := F.tr (Fr.mono (fr_X11_refuse hp) (fun x hx => by unfold W_X11_refuse at hx; unfold W_X11_says; omega))
        cases h; exact F
def W_X11_readingTrouble (x : Nat) : Prop := x = 0 ∨ x = 188 ∨ x = 189 ∨ x = 189 + 1 ∨ x = 190 ∨ x = 190 + 1 ∨ x = 190 + 2 ∨ x = 190 + 3 ∨ x = 190 + 4
theorem fr_X11_readingTrouble {x1 : Int32} {x2 : Int32} {σ : ST} {v : Int32} {s : ST} (h : f_X11_readingTrouble x1 x2 σ = some (v, s)) : Fr (W_X11_readingTrouble ) σ s := by
  unfold f_X11_readingTrouble at h
  have F := Fr.rf (W_X11_readingTrouble ) σ
  obtain ⟨j1, hj1, h⟩ := ixR_bd h
  obtain ⟨v3, s2, hp, h⟩ := bd2_some h
  replace F := F.tr (Fr.mono (fr_X5_read hp) (fun x hx => by unfold W_X5_read at hx; unfold W_X11_readingTrouble; omega))
  obtain ⟨s4, hw, h⟩ := bd_some h
  replace F := F.tr (Fr_pfI (by unfold W_X11_readingTrouble; omega) hw)
  rcases ite_or h with h | h
  · cases h; exact F
  · cases h; exact F
def W_X11_thing_50 (x : Nat) : Prop := x = 0 ∨ x = 2 ∨ x = 229 ∨ x = 3 ∨ x = 4 ∨ (2 ≤ x ∧ x < 2 + 93)
theorem fr_X11_thing_50 {W : Nat → Prop} (hW : ∀ x, W_X11_thing_50 x → W x) {x1 : Int32} {sg : ST} {v : Int32} {s : ST} (h : f_X11_thing_50 x1 sg = some (v, s)) : Fr W sg s := by
  unfold f_X11_thing_50 at h
  have F := Fr.rf W sg
  obtain ⟨v6, s5, hp, h⟩ := bd2_some h
  replace F := F.tr (Fr.mono (fr_X10_hasRoomFor hp) (fun x hx => by unfold W_X10_hasRoomFor at hx; exact hx.elim))
  rcases ite_or h with h | h
  · obtain ⟨v12, s11, hp, h⟩ := bd2_some h
    replace F := F.tr (Fr.mono (fr_X11_refuse hp) (fun x hx => hW x (by unfold W_X11_refuse at hx; unfold W_X11_thing_50; omega)))
    cases h; exact F
  · obtain ⟨s7, hw, h⟩ := bd_some h
    replace F := F.tr (Fr_pfZ (hW _ (by unfold W_X11_thing_50; omega)) hw)
    obtain ⟨s8, hw, h⟩ := bd_some h
    replace F := F.tr (Fr_pfZ (hW _ (by unfold W_X11_thing_50; omega)) hw)
    obtain ⟨v10, s9, hp, h⟩ := bd2_some h
    replace F := F.tr (Fr.mono (fr_X10_addThing hp) (fun x hx => hW x (by unfold W_X10_addThing at hx; unfold W_X11_thing_50; omega)))
    cases h; exact F
def W_X11_thing_40 (x : Nat) : Prop := x = 0 ∨ x = 2 ∨ x = 229 ∨ x = 3 ∨ x = 4 ∨ (2 ≤ x ∧ x < 2 + 93)
theorem fr_X11_thing_40 {W : Nat → Prop} (hW : ∀ x, W_X11_thing_40 x → W x) {x1 : Int32} {x3 : Int32} {sg : ST} {v : Int32} {s : ST} (h : f_X11_thing_40 x1 x3 sg = some (v, s)) : Fr W sg s := by
  unfold f_X11_thing_40 at h
  have F := Fr.rf W sg
  rcases ite_or h with h | h
  · refine F.tr (fr_X11_thing_50 (fun x hx => hW x (by unfold W_X11_thing_50 at hx; unfold W_X11_thing_40; omega)) h)
  · obtain ⟨v14, s13, hp, h⟩ := bd2_some h
    replace F := F.tr (Fr.mono (fr_X11_refuse hp) (fun x hx => hW x (by unfold W_X11_refuse at hx; unfold W_X11_thing_40; omega)))
    cases h; exact F
def W_X11_thing_23 (x : Nat) : Prop := x = 0 ∨ x = 188 ∨ x = 189 ∨ x = 189 + 1 ∨ x = 190 ∨ x = 190 + 1 ∨ x = 190 + 2 ∨ x = 190 + 3 ∨ x = 190 + 4 ∨ x = 2 ∨ x = 229 ∨ x = 3 ∨ x = 4 ∨ (2 ≤ x ∧ x < 2 + 93)
theorem fr_X11_thing_23 {W : Nat → Prop} (hW : ∀ x, W_X11_thing_23 x → W x) {x1 : Int32} {x2 : Int32} {sg : ST} {v : Int32} {s : ST} (h : f_X11_thing_23 x1 x2 sg = some (v, s)) : Fr W sg s := by
  unfold f_X11_thing_23 at h
  have F := Fr.rf W sg
  obtain ⟨v4, s3, hp, h⟩ := bd2_some h
  replace F := F.tr (Fr.mono (fr_X11_rowTrouble hp) (fun x hx => by unfold W_X11_rowTrouble at hx; exact hx.elim))
  rcases ite_or h with h | h
  · obtain ⟨v16, s15, hp, h⟩ := bd2_some h
    replace F := F.tr (Fr.mono (fr_X11_readingTrouble hp) (fun x hx => hW x (by unfold W_X11_readingTrouble at hx; unfold W_X11_thing_23; omega)))
    refine F.tr (fr_X11_thing_40 (fun x hx => hW x (by unfold W_X11_thing_40 at hx; unfold W_X11_thing_23; omega)) h)
  · refine F.tr (fr_X11_thing_40 (fun x hx => hW x (by unfold W_X11_thing_40 at hx; unfold W_X11_thing_23; omega)) h)
def W_X11_thing (x : Nat) : Prop := x = 0 ∨ x = 188 ∨ x = 189 ∨ x = 189 + 1 ∨ x = 190 ∨ x = 190 + 1 ∨ x = 190 + 2 ∨ x = 190 + 3 ∨ x = 190 + 4 ∨ x = 2 ∨ x = 229 ∨ x = 3 ∨ x = 4 ∨ (2 ≤ x ∧ x < 2 + 93)
theorem fr_X11_thing {x1 : Int32} {x2 : Int32} {σ : ST} {v : Int32} {s : ST} (h : f_X11_thing x1 x2 σ = some (v, s)) : Fr (W_X11_thing ) σ s := by
  unfold f_X11_thing at h
  have F := Fr.rf (W_X11_thing ) σ
  obtain ⟨v2, s1, hp, h⟩ := bd2_some h
  replace F := F.tr (Fr.mono (fr_X11_isKind hp) (fun x hx => by unfold W_X11_isKind at hx; exact hx.elim))
  rcases ite_or h with h | h
  · obtain ⟨v18, s17, hp, h⟩ := bd2_some h
    replace F := F.tr (Fr.mono (fr_X11_refuse hp) (fun x hx => by unfold W_X11_refuse at hx; unfold W_X11_thing; omega))
    cases h; exact F
  · rcases ite_or h with h | h
    · refine F.tr (fr_X11_thing_23 (fun x hx => by unfold W_X11_thing_23 at hx; unfold W_X11_thing; omega) h)
    · rcases ite_or h with h | h
      · refine F.tr (fr_X11_thing_23 (fun x hx => by unfold W_X11_thing_23 at hx; unfold W_X11_thing; omega) h)
      · refine F.tr (fr_X11_thing_50 (fun x hx => by unfold W_X11_thing_50 at hx; unfold W_X11_thing; omega) h)
def W_X11_isNumber (x : Nat) : Prop := False
theorem fr_X11_isNumber {x0 : Int32} {σ : ST} {v : Int32} {s : ST} (h : f_X11_isNumber x0 σ = some (v, s)) : Fr (W_X11_isNumber ) σ s := by
  unfold f_X11_isNumber at h
  have F := Fr.rf (W_X11_isNumber ) σ
  rcases ite_or h with h | h
  · cases h; exact F
  · rcases ite_or h with h | h
    · cases h; exact F
    · cases h; exact F
def W_X11_happening_32 (x : Nat) : Prop := x = 0 ∨ x = 2 ∨ x = 229 ∨ (2 ≤ x ∧ x < 2 + 93)
theorem fr_X11_happening_32 {W : Nat → Prop} (hW : ∀ x, W_X11_happening_32 x → W x) {x2 : Int32} {x3 : Int32} {x4 : Int32} {sg : ST} {v : Int32} {s : ST} (h : f_X11_happening_32 x2 x3 x4 sg = some (v, s)) : Fr W sg s := by
  unfold f_X11_happening_32 at h
  have F := Fr.rf W sg
  rcases ite_or h with h | h
  · rcases ite_or h with h | h
    · obtain ⟨s3, hw, h⟩ := bd_some h
      replace F := F.tr (Fr_pfZ (hW _ (by unfold W_X11_happening_32; omega)) hw)
      obtain ⟨s4, hw, h⟩ := bd_some h
      replace F := F.tr (Fr_pfZ (hW _ (by unfold W_X11_happening_32; omega)) hw)
      obtain ⟨v6, s5, hp, h⟩ := bd2_some h
      replace F := F.tr (Fr.mono (fr_X10_addHappening hp) (fun x hx => hW x (by unfold W_X10_addHappening at hx; unfold W_X11_happening_32; omega)))
      cases h; exact F
    · obtain ⟨v8, s7, hp, h⟩ := bd2_some h
      replace F := F.tr (Fr.mono (fr_X11_refuse hp) (fun x hx => hW x (by unfold W_X11_refuse at hx; unfold W_X11_happening_32; omega)))
      cases h; exact F
  · obtain ⟨v10, s9, hp, h⟩ := bd2_some h
    replace F := F.tr (Fr.mono (fr_X11_refuse hp) (fun x hx => hW x (by unfold W_X11_refuse at hx; unfold W_X11_happening_32; omega)))
    cases h; exact F
def W_X11_happening_30 (x : Nat) : Prop := x = 0 ∨ x = 2 ∨ x = 229 ∨ (2 ≤ x ∧ x < 2 + 93)
theorem fr_X11_happening_30 {W : Nat → Prop} (hW : ∀ x, W_X11_happening_30 x → W x) {x2 : Int32} {x3 : Int32} {z0 : Int32} {sg : ST} {v : Int32} {s : ST} (h : f_X11_happening_30 x2 x3 z0 sg = some (v, s)) : Fr W sg s := by
  unfold f_X11_happening_30 at h
  have F := Fr.rf W sg
  refine F.tr (fr_X11_happening_32 (fun x hx => hW x (by unfold W_X11_happening_32 at hx; unfold W_X11_happening_30; omega)) h)
def W_X11_happening (x : Nat) : Prop := x = 0 ∨ x = 188 ∨ x = 189 ∨ x = 189 + 1 ∨ x = 190 ∨ x = 190 + 1 ∨ x = 190 + 2 ∨ x = 190 + 3 ∨ x = 190 + 4 ∨ x = 2 ∨ x = 229 ∨ (2 ≤ x ∧ x < 2 + 93)
theorem fr_X11_happening {x1 : Int32} {x2 : Int32} {x3 : Int32} {σ : ST} {v : Int32} {s : ST} (h : f_X11_happening x1 x2 x3 σ = some (v, s)) : Fr (W_X11_happening ) σ s := by
  unfold f_X11_happening at h
  have F := Fr.rf (W_X11_happening ) σ
  obtain ⟨v2, s1, hp, h⟩ := bd2_some h
  replace F := F.tr (Fr.mono (fr_X11_rowTrouble hp) (fun x hx => by unfold W_X11_rowTrouble at hx; exact hx.elim))
  rcases ite_or h with h | h
  · obtain ⟨v12, s11, hp, h⟩ := bd2_some h
    replace F := F.tr (Fr.mono (fr_X11_isNumber hp) (fun x hx => by unfold W_X11_isNumber at hx; exact hx.elim))
    rcases ite_or h with h | h
    · refine F.tr (fr_X11_happening_30 (fun x hx => by unfold W_X11_happening_30 at hx; unfold W_X11_happening; omega) h)
    · obtain ⟨v14, s13, hp, h⟩ := bd2_some h
      replace F := F.tr (Fr.mono (fr_X11_readingTrouble hp) (fun x hx => by unfold W_X11_readingTrouble at hx; unfold W_X11_happening; omega))
      refine F.tr (fr_X11_happening_30 (fun x hx => by unfold W_X11_happening_30 at hx; unfold W_X11_happening; omega) h)
  · refine F.tr (fr_X11_happening_32 (fun x hx => by unfold W_X11_happening_32 at hx; unfold W_X11_happening; omega) h)
def W_X11_fault (x : Nat) : Prop := False
theorem fr_X11_fault {σ : ST} {v : Int32} {s : ST} (h : f_X11_fault σ = some (v, s)) : Fr (W_X11_fault ) σ s := by
  unfold f_X11_fault at h
  have F := Fr.rf (W_X11_fault ) σ
  cases h; exact F
def W_X11_isHappening (x : Nat) : Prop := False
theorem fr_X11_isHappening {x1 : Int32} {σ : ST} {v : Int32} {s : ST} (h : f_X11_isHappening x1 σ = some (v, s)) : Fr (W_X11_isHappening ) σ s := by
  unfold f_X11_isHappening at h
  have F := Fr.rf (W_X11_isHappening ) σ
  rcases ite_or h with h | h
  · cases h; exact F
  · rcases ite_or h with h | h
    · cases h; exact F
    · cases h; exact F
def W_X11_price (x : Nat) : Prop := x = 0 ∨ x = 229 ∨ (2 ≤ x ∧ x < 2 + 93)
theorem fr_X11_price {x1 : Int32} {x2 : Int32} {σ : ST} {v : Int32} {s : ST} (h : f_X11_price x1 x2 σ = some (v, s)) : Fr (W_X11_price ) σ s := by
  unfold f_X11_price at h
  have F := Fr.rf (W_X11_price ) σ
  obtain ⟨v2, s1, hp, h⟩ := bd2_some h
  replace F := F.tr (Fr.mono (fr_X11_isHappening hp) (fun x hx => by unfold W_X11_isHappening at hx; exact hx.elim))
  rcases ite_or h with h | h
  · obtain ⟨v12, s11, hp, h⟩ := bd2_some h
    replace F := F.tr (Fr.mono (fr_X11_refuse hp) (fun x hx => by unfold W_X11_refuse at hx; unfold W_X11_price; omega))
    cases h; exact F
  · obtain ⟨v4, s3, hp, h⟩ := bd2_some h
    replace F := F.tr (Fr.mono (fr_X11_isNumber hp) (fun x hx => by unfold W_X11_isNumber at hx; exact hx.elim))
    rcases ite_or h with h | h
    · obtain ⟨v10, s9, hp, h⟩ := bd2_some h
      replace F := F.tr (Fr.mono (fr_X11_refuse hp) (fun x hx => by unfold W_X11_refuse at hx; unfold W_X11_price; omega))
      cases h; exact F
    · obtain ⟨j5, hj5, h⟩ := ixR_bd h
      obtain ⟨j6, hj6, h⟩ := ixR_bd h
      obtain ⟨s7, hw, h⟩ := bd_some h
      replace F := F.tr (Fr_pfI (by unfold W_X11_price; omega) hw)
      obtain ⟨s8, hw, h⟩ := bd_some h
      replace F := F.tr (Fr_pfZ (by unfold W_X11_price; omega) hw)
      cases h; exact F
def W_X11_isMouth (x : Nat) : Prop := False
theorem fr_X11_isMouth {x0 : Int32} {σ : ST} {v : Int32} {s : ST} (h : f_X11_isMouth x0 σ = some (v, s)) : Fr (W_X11_isMouth ) σ s := by
  unfold f_X11_isMouth at h
  have F := Fr.rf (W_X11_isMouth ) σ
  rcases ite_or h with h | h
  · cases h; exact F
  · rcases ite_or h with h | h
    · cases h; exact F
    · cases h; exact F
def W_X11_weigh (x : Nat) : Prop := x = 229 ∨ x = 8
theorem fr_X11_weigh {x1 : Int32} {x2 : Int32} {σ : ST} {v : Int32} {s : ST} (h : f_X11_weigh x1 x2 σ = some (v, s)) : Fr (W_X11_weigh ) σ s := by
  unfold f_X11_weigh at h
  have F := Fr.rf (W_X11_weigh ) σ
  obtain ⟨v2, s1, hp, h⟩ := bd2_some h
  replace F := F.tr (Fr.mono (fr_X11_isMouth hp) (fun x hx => by unfold W_X11_isMouth at hx; exact hx.elim))
  rcases ite_or h with h | h
  · obtain ⟨v10, s9, hp, h⟩ := bd2_some h
    replace F := F.tr (Fr.mono (fr_X11_refuse hp) (fun x hx => by unfold W_X11_refuse at hx; unfold W_X11_weigh; omega))
    cases h; exact F
  · obtain ⟨v4, s3, hp, h⟩ := bd2_some h
    replace F := F.tr (Fr.mono (fr_X11_isNumber hp) (fun x hx => by unfold W_X11_isNumber at hx; exact hx.elim))
    rcases ite_or h with h | h
    · obtain ⟨v8, s7, hp, h⟩ := bd2_some h
      replace F := F.tr (Fr.mono (fr_X11_refuse hp) (fun x hx => by unfold W_X11_refuse at hx; unfold W_X11_weigh; omega))
      cases h; exact F
    · obtain ⟨v5, -, h⟩ := bd_some h
      obtain ⟨s6, hw, h⟩ := bd_some h
      replace F := F.tr (Fr_wrI (by unfold W_X11_weigh; omega) hw)
      cases h; exact F
def W_X11_isHour (x : Nat) : Prop := False
theorem fr_X11_isHour {x0 : Int32} {σ : ST} {v : Int32} {s : ST} (h : f_X11_isHour x0 σ = some (v, s)) : Fr (W_X11_isHour ) σ s := by
  unfold f_X11_isHour at h
  have F := Fr.rf (W_X11_isHour ) σ
  rcases ite_or h with h | h
  · cases h; exact F
  · rcases ite_or h with h | h
    · cases h; exact F
    · cases h; exact F
def W_X11_tell (x : Nat) : Prop := x = 0 ∨ x = 2 ∨ x = 229 ∨ x = 7 ∨ x = p1 ∨ x = p13 ∨ x = p19 ∨ x = p7
def W_X11_seen (x : Nat) : Prop := x = 0 ∨ x = 2 ∨ x = 229 ∨ x = 7 ∨ x = p1 ∨ x = p13 ∨ x = p19 ∨ x = p7
def W_X11_areHours (x : Nat) : Prop := False
theorem fr_X11_areHours {x0 : Int32} {x1 : Int32} {σ : ST} {v : Int32} {s : ST} (h : f_X11_areHours x0 x1 σ = some (v, s)) : Fr (W_X11_areHours ) σ s := by
  unfold f_X11_areHours at h
  have F := Fr.rf (W_X11_areHours ) σ
  obtain ⟨v2, s1, hp, h⟩ := bd2_some h
  replace F := F.tr (Fr.mono (fr_X11_isHour hp) (fun x hx => by unfold W_X11_isHour at hx; exact hx.elim))
  rcases ite_or h with h | h
  · cases h; exact F
  · obtain ⟨v4, s3, hp, h⟩ := bd2_some h
    replace F := F.tr (Fr.mono (fr_X11_isHour hp) (fun x hx => by unfold W_X11_isHour at hx; exact hx.elim))
    rcases ite_or h with h | h
    · cases h; exact F
    · rcases ite_or h with h | h
      · cases h; exact F
      · cases h; exact F
def W_X11_span (x : Nat) : Prop := x = 0 ∨ x = 2 ∨ x = 229 ∨ x = 7 ∨ x = p1 ∨ x = p13 ∨ x = p19 ∨ x = p7
def W_X11_isThing (x : Nat) : Prop := False
theorem fr_X11_isThing {x1 : Int32} {σ : ST} {v : Int32} {s : ST} (h : f_X11_isThing x1 σ = some (v, s)) : Fr (W_X11_isThing ) σ s := by
  unfold f_X11_isThing at h
  have F := Fr.rf (W_X11_isThing ) σ
  rcases ite_or h with h | h
  · cases h; exact F
  · rcases ite_or h with h | h
    · cases h; exact F
    · cases h; exact F
def W_X11_isRunning (x : Nat) : Prop := False
theorem fr_X11_isRunning {x1 : Int32} {σ : ST} {v : Int32} {s : ST} (h : f_X11_isRunning x1 σ = some (v, s)) : Fr (W_X11_isRunning ) σ s := by
  unfold f_X11_isRunning at h
  have F := Fr.rf (W_X11_isRunning ) σ
  obtain ⟨v2, s1, hp, h⟩ := bd2_some h
  replace F := F.tr (Fr.mono (fr_X11_isThing hp) (fun x hx => by unfold W_X11_isThing at hx; exact hx.elim))
  rcases ite_or h with h | h
  · cases h; exact F
  · obtain ⟨v3, -, h⟩ := bd_some h
    rcases ite_or h with h | h
    · cases h; exact F
    · cases h; exact F
def W_X11_canHave_19 (x : Nat) : Prop := False
theorem fr_X11_canHave_19 {W : Nat → Prop} (hW : ∀ x, W_X11_canHave_19 x → W x) {z0 : Int32} {z1 : Int32} {sg : ST} {v : Int32} {s : ST} (h : f_X11_canHave_19 z0 z1 sg = some (v, s)) : Fr W sg s := by
  unfold f_X11_canHave_19 at h
  have F := Fr.rf W sg
  rcases ite_or h with h | h
  · cases h; exact F
  · cases h; exact F
def W_X11_canHave (x : Nat) : Prop := False
theorem fr_X11_canHave {x1 : Int32} {x2 : Int32} {σ : ST} {v : Int32} {s : ST} (h : f_X11_canHave x1 x2 σ = some (v, s)) : Fr (W_X11_canHave ) σ s := by
  unfold f_X11_canHave at h
  have F := Fr.rf (W_X11_canHave ) σ
  rcases ite_or h with h | h
  · cases h; exact F
  · obtain ⟨v2, s1, hp, h⟩ := bd2_some h
    replace F := F.tr (Fr.mono (fr_X11_isRunning hp) (fun x hx => by unfold W_X11_isRunning at hx; exact hx.elim))
    rcases ite_or h with h | h
    · refine F.tr (fr_X11_canHave_19 (fun x hx => by unfold W_X11_canHave_19 at hx; unfold W_X11_canHave; omega) h)
    · refine F.tr (fr_X11_canHave_19 (fun x hx => by unfold W_X11_canHave_19 at hx; unfold W_X11_canHave; omega) h)
def W_X11_was (x : Nat) : Prop := x = 0 ∨ x = 2 ∨ x = 229 ∨ x = 7 ∨ x = p1 ∨ x = p13 ∨ x = p19 ∨ x = p7
def W_X11_tellFrom_115 (x : Nat) : Prop := x = 0 ∨ x = 2 ∨ x = 229 ∨ x = 7 ∨ x = p1 ∨ x = p13 ∨ x = p19 ∨ x = p7
def W_X11_tellFrom_105 (x : Nat) : Prop := x = 0 ∨ x = 2 ∨ x = 229 ∨ x = 7 ∨ x = p1 ∨ x = p13 ∨ x = p19 ∨ x = p7
def W_X11_tellFrom_75 (x : Nat) : Prop := x = 0 ∨ x = 2 ∨ x = 229 ∨ x = 7 ∨ x = p1 ∨ x = p13 ∨ x = p19 ∨ x = p7
def W_X11_tellFrom (a1 : Nat) (x : Nat) : Prop := x = 0 ∨ x = 2 ∨ x = 229 ∨ x = 7 ∨ x = p1 ∨ x = p13 ∨ x = p19 ∨ x = p7
def W_X11_sheet_82 (x : Nat) : Prop := x = 0 ∨ x = 2 ∨ x = 229 ∨ x = 7 ∨ x = p1 ∨ x = p13 ∨ x = p19 ∨ x = p7
def W_X11_sheet_17 (x : Nat) : Prop := x = 0 ∨ x = 2 ∨ x = 229 ∨ x = 7 ∨ x = p1 ∨ x = p13 ∨ x = p19 ∨ x = p7
def W_X11_sheet (x : Nat) : Prop := x = 0 ∨ x = 2 ∨ x = 229 ∨ x = 7 ∨ x = p1 ∨ x = p13 ∨ x = p19 ∨ x = p7
def W_X11_by (x : Nat) : Prop := x = 0 ∨ x = 2 ∨ x = 229
theorem fr_X11_by {x1 : Int32} {x2 : Int32} {σ : ST} {v : Int32} {s : ST} (h : f_X11_by x1 x2 σ = some (v, s)) : Fr (W_X11_by ) σ s := by
  unfold f_X11_by at h
  have F := Fr.rf (W_X11_by ) σ
  obtain ⟨v2, s1, hp, h⟩ := bd2_some h
  replace F := F.tr (Fr.mono (fr_X10_pieceAt hp) (fun x hx => by unfold W_X10_pieceAt at hx; exact hx.elim))
  rcases nl_or h with h | ⟨q3, h⟩
  · obtain ⟨v5, s4, hp, h⟩ := bd2_some h
    replace F := F.tr (Fr.mono (fr_X11_refuse hp) (fun x hx => by unfold W_X11_refuse at hx; unfold W_X11_by; omega))
    cases h; exact F
  · obtain ⟨v7, s6, hp, h⟩ := bd2_some h
    replace F := F.tr (Fr.mono (fr_X10_isPutBy hp) (fun x hx => by unfold W_X10_isPutBy at hx; exact hx.elim))
    rcases ite_or h with h | h
    · cases h; exact F
    · obtain ⟨s8, hw, h⟩ := bd_some h
      replace F := F.tr (Fr_pfI (by unfold W_X11_by; omega) hw)
      obtain ⟨s9, hw, h⟩ := bd_some h
      replace F := F.tr (Fr_pfZ (by unfold W_X11_by; omega) hw)
      cases h; exact F
def W_X11_pieceOf (x : Nat) : Prop := x = 229
theorem fr_X11_pieceOf {x1 : Int32} {x2 : Int32} {σ : ST} {v : Int32} {s : ST} (h : f_X11_pieceOf x1 x2 σ = some (v, s)) : Fr (W_X11_pieceOf ) σ s := by
  unfold f_X11_pieceOf at h
  have F := Fr.rf (W_X11_pieceOf ) σ
  obtain ⟨v2, s1, hp, h⟩ := bd2_some h
  replace F := F.tr (Fr.mono (fr_X10_pieceAt hp) (fun x hx => by unfold W_X10_pieceAt at hx; exact hx.elim))
  rcases nl_or h with h | ⟨q3, h⟩
  · obtain ⟨v5, s4, hp, h⟩ := bd2_some h
    replace F := F.tr (Fr.mono (fr_X11_refuse hp) (fun x hx => by unfold W_X11_refuse at hx; unfold W_X11_pieceOf; omega))
    cases h; exact F
  · rcases ite_or h with h | h
    · obtain ⟨v6, -, h⟩ := bd_some h
      cases h; exact F
    rcases ite_or h with h | h
    · obtain ⟨v7, -, h⟩ := bd_some h
      cases h; exact F
    rcases ite_or h with h | h
    · obtain ⟨v8, -, h⟩ := bd_some h
      cases h; exact F
    rcases ite_or h with h | h
    · obtain ⟨v9, -, h⟩ := bd_some h
      cases h; exact F
    rcases ite_or h with h | h
    · obtain ⟨v10, -, h⟩ := bd_some h
      cases h; exact F
    rcases ite_or h with h | h
    · obtain ⟨v11, -, h⟩ := bd_some h
      cases h; exact F
    rcases ite_or h with h | h
    · obtain ⟨v13, s12, hp, h⟩ := bd2_some h
      replace F := F.tr (Fr.mono (fr_X10_isPutBy hp) (fun x hx => by unfold W_X10_isPutBy at hx; exact hx.elim))
      rcases ite_or h with h | h
      · cases h; exact F
      · cases h; exact F
    obtain ⟨v15, s14, hp, h⟩ := bd2_some h
    replace F := F.tr (Fr.mono (fr_X11_refuse hp) (fun x hx => by unfold W_X11_refuse at hx; unfold W_X11_pieceOf; omega))
    cases h; exact F
def W_X11_freshenTruth (x : Nat) : Prop := x = 0 ∨ x = 195 ∨ x = 196
theorem fr_X11_freshenTruth {σ : ST} {s : ST} (h : f_X11_freshenTruth σ = some s) : Fr (W_X11_freshenTruth ) σ s := by
  unfold f_X11_freshenTruth at h
  have F := Fr.rf (W_X11_freshenTruth ) σ
  rcases ite_or h with h | h
  · cases h; exact F
  · obtain ⟨s1, hw, h⟩ := bd_some h
    replace F := F.tr (Fr_pfZ (by unfold W_X11_freshenTruth; omega) hw)
    obtain ⟨s2, hp, h⟩ := bd_some h
    replace F := F.tr (Fr.mono (fr_X10_fillTables hp) (fun x hx => by unfold W_X10_fillTables at hx; unfold W_X11_freshenTruth; omega))
    cases h; exact F
def W_X11_current (x : Nat) : Prop := x = ((197 + 8) + 1) ∨ x = ((197 + 8) + 2) ∨ x = ((197 + 8) + 3) ∨ x = ((197 + 8) + 4) ∨ x = ((197 + 8) + 5) ∨ x = ((197 + 8) + 6) ∨ x = ((197 + 8) + 7) ∨ x = (197 + 1) ∨ x = (197 + 8) ∨ x = (197 + 8) + 1 ∨ x = (197 + 8) + 2 ∨ x = (197 + 8) + 3 ∨ x = (197 + 8) + 4 ∨ x = (197 + 8) + 5 ∨ x = (197 + 8) + 6 ∨ x = (197 + 8) + 7 ∨ x = 0 ∨ x = 195 ∨ x = 196 ∨ x = 197 ∨ x = 197 + 1 ∨ x = 197 + 2 ∨ x = 197 + 3 ∨ x = 197 + 4 ∨ x = 197 + 5 ∨ x = 197 + 6 ∨ x = 197 + 7
theorem fr_X11_current {σ : ST} {s : ST} (h : f_X11_current σ = some s) : Fr (W_X11_current ) σ s := by
  unfold f_X11_current at h
  have F := Fr.rf (W_X11_current ) σ
  obtain ⟨s1, hp, h⟩ := bd_some h
  replace F := F.tr (Fr.mono (fr_X11_freshenTruth hp) (fun x hx => by unfold W_X11_freshenTruth at hx; unfold W_X11_current; omega))
  rcases ite_or h with h | h
  · cases h; exact F
  · obtain ⟨s2, hw, h⟩ := bd_some h
    replace F := F.tr (Fr_pfZ (by unfold W_X11_current; omega) hw)
    obtain ⟨v4, s3, hp, h⟩ := bd2_some h
    replace F := F.tr (Fr.mono (fr_X10_inForce hp) (fun x hx => by unfold W_X10_inForce at hx; exact hx.elim))
    obtain ⟨v6, s5, hp, h⟩ := bd2_some h
    replace F := F.tr (Fr.mono (fr_X2_find hp) (fun x hx => by unfold W_X2_find at hx; unfold W_X11_current; omega))
    rcases ite_or h with h | h
    · cases h; exact F
    · obtain ⟨s7, hp, h⟩ := bd_some h
      replace F := F.tr (Fr.mono (fr_X2_keepBest hp) (fun x hx => by unfold W_X2_keepBest at hx; unfold W_X11_current; omega))
      cases h; exact F
def W_X11_least (x : Nat) : Prop := x = ((197 + 8) + 1) ∨ x = ((197 + 8) + 2) ∨ x = ((197 + 8) + 3) ∨ x = ((197 + 8) + 4) ∨ x = ((197 + 8) + 5) ∨ x = ((197 + 8) + 6) ∨ x = ((197 + 8) + 7) ∨ x = (197 + 1) ∨ x = (197 + 8) ∨ x = (197 + 8) + 1 ∨ x = (197 + 8) + 2 ∨ x = (197 + 8) + 3 ∨ x = (197 + 8) + 4 ∨ x = (197 + 8) + 5 ∨ x = (197 + 8) + 6 ∨ x = (197 + 8) + 7 ∨ x = 0 ∨ x = 195 ∨ x = 196 ∨ x = 197 ∨ x = 197 + 1 ∨ x = 197 + 2 ∨ x = 197 + 3 ∨ x = 197 + 4 ∨ x = 197 + 5 ∨ x = 197 + 6 ∨ x = 197 + 7
theorem fr_X11_least {σ : ST} {v : Int32} {s : ST} (h : f_X11_least σ = some (v, s)) : Fr (W_X11_least ) σ s := by
  unfold f_X11_least at h
  have F := Fr.rf (W_X11_least ) σ
  obtain ⟨s1, hp, h⟩ := bd_some h
  replace F := F.tr (Fr.mono (fr_X11_current hp) (fun x hx => by unfold W_X11_current at hx; unfold W_X11_least; omega))
  cases h; exact F
def W_X11_courses (x : Nat) : Prop := x = ((197 + 8) + 1) ∨ x = ((197 + 8) + 2) ∨ x = ((197 + 8) + 3) ∨ x = ((197 + 8) + 4) ∨ x = ((197 + 8) + 5) ∨ x = ((197 + 8) + 6) ∨ x = ((197 + 8) + 7) ∨ x = (197 + 1) ∨ x = (197 + 8) ∨ x = (197 + 8) + 1 ∨ x = (197 + 8) + 2 ∨ x = (197 + 8) + 3 ∨ x = (197 + 8) + 4 ∨ x = (197 + 8) + 5 ∨ x = (197 + 8) + 6 ∨ x = (197 + 8) + 7 ∨ x = 0 ∨ x = 195 ∨ x = 196 ∨ x = 197 ∨ x = 197 + 1 ∨ x = 197 + 2 ∨ x = 197 + 3 ∨ x = 197 + 4 ∨ x = 197 + 5 ∨ x = 197 + 6 ∨ x = 197 + 7
theorem fr_X11_courses {σ : ST} {v : Int64} {s : ST} (h : f_X11_courses σ = some (v, s)) : Fr (W_X11_courses ) σ s := by
  unfold f_X11_courses at h
  have F := Fr.rf (W_X11_courses ) σ
  obtain ⟨s1, hp, h⟩ := bd_some h
  replace F := F.tr (Fr.mono (fr_X11_current hp) (fun x hx => by unfold W_X11_current at hx; unfold W_X11_courses; omega))
  cases h; exact F
def W_X11_is (x : Nat) : Prop := x = ((197 + 8) + 1) ∨ x = ((197 + 8) + 2) ∨ x = ((197 + 8) + 3) ∨ x = ((197 + 8) + 4) ∨ x = ((197 + 8) + 5) ∨ x = ((197 + 8) + 6) ∨ x = ((197 + 8) + 7) ∨ x = (197 + 1) ∨ x = (197 + 8) ∨ x = (197 + 8) + 1 ∨ x = (197 + 8) + 2 ∨ x = (197 + 8) + 3 ∨ x = (197 + 8) + 4 ∨ x = (197 + 8) + 5 ∨ x = (197 + 8) + 6 ∨ x = (197 + 8) + 7 ∨ x = 0 ∨ x = 195 ∨ x = 196 ∨ x = 197 ∨ x = 197 + 1 ∨ x = 197 + 2 ∨ x = 197 + 3 ∨ x = 197 + 4 ∨ x = 197 + 5 ∨ x = 197 + 6 ∨ x = 197 + 7
theorem fr_X11_is {x1 : Int32} {x2 : Int32} {σ : ST} {v : Int32} {s : ST} (h : f_X11_is x1 x2 σ = some (v, s)) : Fr (W_X11_is ) σ s := by
  unfold f_X11_is at h
  have F := Fr.rf (W_X11_is ) σ
  obtain ⟨v2, s1, hp, h⟩ := bd2_some h
  replace F := F.tr (Fr.mono (fr_X11_isThing hp) (fun x hx => by unfold W_X11_isThing at hx; exact hx.elim))
  rcases ite_or h with h | h
  · cases h; exact F
  · obtain ⟨v4, s3, hp, h⟩ := bd2_some h
    replace F := F.tr (Fr.mono (fr_X11_isHour hp) (fun x hx => by unfold W_X11_isHour at hx; exact hx.elim))
    rcases ite_or h with h | h
    · cases h; exact F
    · obtain ⟨s5, hp, h⟩ := bd_some h
      replace F := F.tr (Fr.mono (fr_X11_current hp) (fun x hx => by unfold W_X11_current at hx; unfold W_X11_is; omega))
      obtain ⟨v7, s6, hp, h⟩ := bd2_some h
      replace F := F.tr (Fr.mono (fr_X2_soOf hp) (fun x hx => by unfold W_X2_soOf at hx; exact hx.elim))
      cases h; exact F
def W_X11_joined_8 (x : Nat) : Prop := False
theorem fr_X11_joined_8 {W : Nat → Prop} (hW : ∀ x, W_X11_joined_8 x → W x) : ∀ (n : Nat) {x0 : Int32} {x1 : Int32} {x2 : Int32} {x3 : Int32} {x4 : Int32} {sg : ST} {v : Int32} {s : ST}, f_X11_joined_8 n x0 x1 x2 x3 x4 sg = some (v, s) → Fr W sg s := by
  intro n
  induction n with
  | zero => intro _ _ _ _ _ _ _ _ h; rw [f_X11_joined_8] at h; cases h
  | succ n ih =>
    intro x0 x1 x2 x3 x4 sg v s h
    rw [f_X11_joined_8] at h
    have F := Fr.rf W sg
    rcases ite_or h with h | h
    · cases h; exact F
    · rcases ite_or h with h | h
      · exact F.tr (ih h)
      · exact F.tr (ih h)
def W_X11_joined (x : Nat) : Prop := False
theorem fr_X11_joined {x0 : Int32} {x1 : Int32} {σ : ST} {v : Int32} {s : ST} (h : f_X11_joined x0 x1 σ = some (v, s)) : Fr (W_X11_joined ) σ s := by
  unfold f_X11_joined at h
  have F := Fr.rf (W_X11_joined ) σ
  refine F.tr (fr_X11_joined_8 (fun x hx => by unfold W_X11_joined_8 at hx; unfold W_X11_joined; omega) FU h)
def W_X11_value (x : Nat) : Prop := x = ((197 + 8) + 1) ∨ x = ((197 + 8) + 2) ∨ x = ((197 + 8) + 3) ∨ x = ((197 + 8) + 4) ∨ x = ((197 + 8) + 5) ∨ x = ((197 + 8) + 6) ∨ x = ((197 + 8) + 7) ∨ x = (197 + 1) ∨ x = (197 + 8) ∨ x = (197 + 8) + 1 ∨ x = (197 + 8) + 2 ∨ x = (197 + 8) + 3 ∨ x = (197 + 8) + 4 ∨ x = (197 + 8) + 5 ∨ x = (197 + 8) + 6 ∨ x = (197 + 8) + 7 ∨ x = 0 ∨ x = 195 ∨ x = 196 ∨ x = 197 ∨ x = 197 + 1 ∨ x = 197 + 2 ∨ x = 197 + 3 ∨ x = 197 + 4 ∨ x = 197 + 5 ∨ x = 197 + 6 ∨ x = 197 + 7
theorem fr_X11_value {x1 : Int32} {x2 : Int32} {σ : ST} {v : Int32} {s : ST} (h : f_X11_value x1 x2 σ = some (v, s)) : Fr (W_X11_value ) σ s := by
  unfold f_X11_value at h
  have F := Fr.rf (W_X11_value ) σ
  obtain ⟨v2, s1, hp, h⟩ := bd2_some h
  replace F := F.tr (Fr.mono (fr_X11_isRunning hp) (fun x hx => by unfold W_X11_isRunning at hx; exact hx.elim))
  rcases ite_or h with h | h
  · cases h; exact F
  · obtain ⟨v4, s3, hp, h⟩ := bd2_some h
    replace F := F.tr (Fr.mono (fr_X11_isHour hp) (fun x hx => by unfold W_X11_isHour at hx; exact hx.elim))
    rcases ite_or h with h | h
    · cases h; exact F
    · obtain ⟨s5, hp, h⟩ := bd_some h
      replace F := F.tr (Fr.mono (fr_X11_current hp) (fun x hx => by unfold W_X11_current at hx; unfold W_X11_value; omega))
      rcases ite_or h with h | h
      · cases h; exact F
      · obtain ⟨v6, -, h⟩ := bd_some h
        obtain ⟨v8, s7, hp, h⟩ := bd2_some h
        replace F := F.tr (Fr.mono (fr_X11_joined hp) (fun x hx => by unfold W_X11_joined at hx; exact hx.elim))
        cases h; exact F
def W_X11_seems (x : Nat) : Prop := x = ((213 + 8) + 1) ∨ x = ((213 + 8) + 2) ∨ x = ((213 + 8) + 3) ∨ x = ((213 + 8) + 4) ∨ x = ((213 + 8) + 5) ∨ x = ((213 + 8) + 6) ∨ x = ((213 + 8) + 7) ∨ x = (213 + 1) ∨ x = (213 + 8) ∨ x = (213 + 8) + 1 ∨ x = (213 + 8) + 2 ∨ x = (213 + 8) + 3 ∨ x = (213 + 8) + 4 ∨ x = (213 + 8) + 5 ∨ x = (213 + 8) + 6 ∨ x = (213 + 8) + 7 ∨ x = 0 ∨ x = 195 ∨ x = 196 ∨ x = 213 ∨ x = 213 + 1 ∨ x = 213 + 2 ∨ x = 213 + 3 ∨ x = 213 + 4 ∨ x = 213 + 5 ∨ x = 213 + 6 ∨ x = 213 + 7
theorem fr_X11_seems {x1 : Int32} {x2 : Int32} {x3 : Int32} {σ : ST} {v : Int32} {s : ST} (h : f_X11_seems x1 x2 x3 σ = some (v, s)) : Fr (W_X11_seems ) σ s := by
  unfold f_X11_seems at h
  have F := Fr.rf (W_X11_seems ) σ
  obtain ⟨s1, hp, h⟩ := bd_some h
  replace F := F.tr (Fr.mono (fr_X11_freshenTruth hp) (fun x hx => by unfold W_X11_freshenTruth at hx; unfold W_X11_seems; omega))
  obtain ⟨v3, s2, hp, h⟩ := bd2_some h
  replace F := F.tr (Fr.mono (fr_X2_find hp) (fun x hx => by unfold W_X2_find at hx; unfold W_X11_seems; omega))
  rcases ite_or h with h | h
  · cases h; exact F
  · obtain ⟨s4, hp, h⟩ := bd_some h
    replace F := F.tr (Fr.mono (fr_X2_keepBest hp) (fun x hx => by unfold W_X2_keepBest at hx; unfold W_X11_seems; omega))
    obtain ⟨v6, s5, hp, h⟩ := bd2_some h
    replace F := F.tr (Fr.mono (fr_X2_soOf hp) (fun x hx => by unfold W_X2_soOf at hx; exact hx.elim))
    cases h; exact F
def W_X11_why_50 (x : Nat) : Prop := x = ((213 + 8) + 1) ∨ x = ((213 + 8) + 2) ∨ x = ((213 + 8) + 3) ∨ x = ((213 + 8) + 4) ∨ x = ((213 + 8) + 5) ∨ x = ((213 + 8) + 6) ∨ x = ((213 + 8) + 7) ∨ x = (213 + 1) ∨ x = (213 + 8) ∨ x = (213 + 8) + 1 ∨ x = (213 + 8) + 2 ∨ x = (213 + 8) + 3 ∨ x = (213 + 8) + 4 ∨ x = (213 + 8) + 5 ∨ x = (213 + 8) + 6 ∨ x = (213 + 8) + 7 ∨ x = 0 ∨ x = 195 ∨ x = 196 ∨ x = 213 ∨ x = 213 + 1 ∨ x = 213 + 2 ∨ x = 213 + 3 ∨ x = 213 + 4 ∨ x = 213 + 5 ∨ x = 213 + 6 ∨ x = 213 + 7
theorem fr_X11_why_50 {W : Nat → Prop} (hW : ∀ x, W_X11_why_50 x → W x) : ∀ (n : Nat) {x1 : Int32} {x2 : Int32} {x3 : Int32} {x4 : Int32} {x5 : Int32} {sg : ST} {v : Int32} {s : ST}, f_X11_why_50 n x1 x2 x3 x4 x5 sg = some (v, s) → Fr W sg s := by
  intro n
  induction n with
  | zero => intro _ _ _ _ _ _ _ _ h; rw [f_X11_why_50] at h; cases h
  | succ n ih =>
    intro x1 x2 x3 x4 x5 sg v s h
    rw [f_X11_why_50] at h
    have F := Fr.rf W sg
    rcases ite_or h with h | h
    · rcases ite_or h with h | h
      · exact F.tr (ih h)
      · obtain ⟨v11, s10, hp, h⟩ := bd2_some h
        replace F := F.tr (Fr.mono (fr_X11_seems hp) (fun x hx => hW x (by unfold W_X11_seems at hx; unfold W_X11_why_50; omega)))
        rcases ite_or h with h | h
        · exact F.tr (ih h)
        · exact F.tr (ih h)
    · cases h; exact F
def W_X11_why_38 (x : Nat) : Prop := x = ((213 + 8) + 1) ∨ x = ((213 + 8) + 2) ∨ x = ((213 + 8) + 3) ∨ x = ((213 + 8) + 4) ∨ x = ((213 + 8) + 5) ∨ x = ((213 + 8) + 6) ∨ x = ((213 + 8) + 7) ∨ x = (213 + 1) ∨ x = (213 + 8) ∨ x = (213 + 8) + 1 ∨ x = (213 + 8) + 2 ∨ x = (213 + 8) + 3 ∨ x = (213 + 8) + 4 ∨ x = (213 + 8) + 5 ∨ x = (213 + 8) + 6 ∨ x = (213 + 8) + 7 ∨ x = 0 ∨ x = 195 ∨ x = 196 ∨ x = 213 ∨ x = 213 + 1 ∨ x = 213 + 2 ∨ x = 213 + 3 ∨ x = 213 + 4 ∨ x = 213 + 5 ∨ x = 213 + 6 ∨ x = 213 + 7
theorem fr_X11_why_38 {W : Nat → Prop} (hW : ∀ x, W_X11_why_38 x → W x) {x1 : Int32} {x2 : Int32} {x3 : Int32} {sg : ST} {v : Int32} {s : ST} (h : f_X11_why_38 x1 x2 x3 sg = some (v, s)) : Fr W sg s := by
  unfold f_X11_why_38 at h
  have F := Fr.rf W sg
  obtain ⟨v9, s8, hp, h⟩ := bd2_some h
  replace F := F.tr (Fr.mono (fr_X10_inForce hp) (fun x hx => by unfold W_X10_inForce at hx; exact hx.elim))
  refine F.tr (fr_X11_why_50 (fun x hx => hW x (by unfold W_X11_why_50 at hx; unfold W_X11_why_38; omega)) FU h)
def W_X11_why (x : Nat) : Prop := x = ((197 + 8) + 1) ∨ x = ((197 + 8) + 2) ∨ x = ((197 + 8) + 3) ∨ x = ((197 + 8) + 4) ∨ x = ((197 + 8) + 5) ∨ x = ((197 + 8) + 6) ∨ x = ((197 + 8) + 7) ∨ x = ((213 + 8) + 1) ∨ x = ((213 + 8) + 2) ∨ x = ((213 + 8) + 3) ∨ x = ((213 + 8) + 4) ∨ x = ((213 + 8) + 5) ∨ x = ((213 + 8) + 6) ∨ x = ((213 + 8) + 7) ∨ x = (197 + 1) ∨ x = (197 + 8) ∨ x = (197 + 8) + 1 ∨ x = (197 + 8) + 2 ∨ x = (197 + 8) + 3 ∨ x = (197 + 8) + 4 ∨ x = (197 + 8) + 5 ∨ x = (197 + 8) + 6 ∨ x = (197 + 8) + 7 ∨ x = (213 + 1) ∨ x = (213 + 8) ∨ x = (213 + 8) + 1 ∨ x = (213 + 8) + 2 ∨ x = (213 + 8) + 3 ∨ x = (213 + 8) + 4 ∨ x = (213 + 8) + 5 ∨ x = (213 + 8) + 6 ∨ x = (213 + 8) + 7 ∨ x = 0 ∨ x = 195 ∨ x = 196 ∨ x = 197 ∨ x = 197 + 1 ∨ x = 197 + 2 ∨ x = 197 + 3 ∨ x = 197 + 4 ∨ x = 197 + 5 ∨ x = 197 + 6 ∨ x = 197 + 7 ∨ x = 213 ∨ x = 213 + 1 ∨ x = 213 + 2 ∨ x = 213 + 3 ∨ x = 213 + 4 ∨ x = 213 + 5 ∨ x = 213 + 6 ∨ x = 213 + 7
theorem fr_X11_why {x1 : Int32} {x2 : Int32} {σ : ST} {v : Int32} {s : ST} (h : f_X11_why x1 x2 σ = some (v, s)) : Fr (W_X11_why ) σ s := by
  unfold f_X11_why at h
  have F := Fr.rf (W_X11_why ) σ
  obtain ⟨v2, s1, hp, h⟩ := bd2_some h
  replace F := F.tr (Fr.mono (fr_X11_isThing hp) (fun x hx => by unfold W_X11_isThing at hx; exact hx.elim))
  rcases ite_or h with h | h
  · cases h; exact F
  · obtain ⟨v4, s3, hp, h⟩ := bd2_some h
    replace F := F.tr (Fr.mono (fr_X11_isHour hp) (fun x hx => by unfold W_X11_isHour at hx; exact hx.elim))
    rcases ite_or h with h | h
    · cases h; exact F
    · obtain ⟨s5, hp, h⟩ := bd_some h
      replace F := F.tr (Fr.mono (fr_X11_current hp) (fun x hx => by unfold W_X11_current at hx; unfold W_X11_why; omega))
      obtain ⟨v7, s6, hp, h⟩ := bd2_some h
      replace F := F.tr (Fr.mono (fr_X2_soOf hp) (fun x hx => by unfold W_X2_soOf at hx; exact hx.elim))
      rcases ite_or h with h | h
      · refine F.tr (fr_X11_why_38 (fun x hx => by unfold W_X11_why_38 at hx; unfold W_X11_why; omega) h)
      · rcases ite_or h with h | h
        · refine F.tr (fr_X11_why_38 (fun x hx => by unfold W_X11_why_38 at hx; unfold W_X11_why; omega) h)
        · cases h; exact F
def W_X11_quarrel_23 (x : Nat) : Prop := x = ((213 + 8) + 1) ∨ x = ((213 + 8) + 2) ∨ x = ((213 + 8) + 3) ∨ x = ((213 + 8) + 4) ∨ x = ((213 + 8) + 5) ∨ x = ((213 + 8) + 6) ∨ x = ((213 + 8) + 7) ∨ x = (213 + 8) ∨ x = (213 + 8) + 1 ∨ x = (213 + 8) + 2 ∨ x = (213 + 8) + 3 ∨ x = (213 + 8) + 4 ∨ x = (213 + 8) + 5 ∨ x = (213 + 8) + 6 ∨ x = (213 + 8) + 7 ∨ x = 213 ∨ x = 213 + 1 ∨ x = 213 + 2 ∨ x = 213 + 3 ∨ x = 213 + 4 ∨ x = 213 + 5 ∨ x = 213 + 6 ∨ x = 213 + 7
theorem fr_X11_quarrel_23 {W : Nat → Prop} (hW : ∀ x, W_X11_quarrel_23 x → W x) : ∀ (n : Nat) {x1 : Int32} {x2 : Int32} {sg : ST} {v : Int32} {s : ST}, f_X11_quarrel_23 n x1 x2 sg = some (v, s) → Fr W sg s := by
  intro n
  induction n with
  | zero => intro _ _ _ _ _ h; rw [f_X11_quarrel_23] at h; cases h
  | succ n ih =>
    intro x1 x2 sg v s h
    rw [f_X11_quarrel_23] at h
    have F := Fr.rf W sg
    rcases ite_or h with h | h
    · rcases ite_or h with h | h
      · exact F.tr (ih h)
      · obtain ⟨v5, s4, hp, h⟩ := bd2_some h
        replace F := F.tr (Fr.mono (fr_X2_find hp) (fun x hx => hW x (by unfold W_X2_find at hx; unfold W_X11_quarrel_23; omega)))
        rcases ite_or h with h | h
        · exact F.tr (ih h)
        · exact F.tr (ih h)
    · cases h; exact F
def W_X11_quarrel (x : Nat) : Prop := x = ((197 + 8) + 1) ∨ x = ((197 + 8) + 2) ∨ x = ((197 + 8) + 3) ∨ x = ((197 + 8) + 4) ∨ x = ((197 + 8) + 5) ∨ x = ((197 + 8) + 6) ∨ x = ((197 + 8) + 7) ∨ x = ((213 + 8) + 1) ∨ x = ((213 + 8) + 2) ∨ x = ((213 + 8) + 3) ∨ x = ((213 + 8) + 4) ∨ x = ((213 + 8) + 5) ∨ x = ((213 + 8) + 6) ∨ x = ((213 + 8) + 7) ∨ x = (197 + 1) ∨ x = (197 + 8) ∨ x = (197 + 8) + 1 ∨ x = (197 + 8) + 2 ∨ x = (197 + 8) + 3 ∨ x = (197 + 8) + 4 ∨ x = (197 + 8) + 5 ∨ x = (197 + 8) + 6 ∨ x = (197 + 8) + 7 ∨ x = (213 + 8) ∨ x = (213 + 8) + 1 ∨ x = (213 + 8) + 2 ∨ x = (213 + 8) + 3 ∨ x = (213 + 8) + 4 ∨ x = (213 + 8) + 5 ∨ x = (213 + 8) + 6 ∨ x = (213 + 8) + 7 ∨ x = 0 ∨ x = 195 ∨ x = 196 ∨ x = 197 ∨ x = 197 + 1 ∨ x = 197 + 2 ∨ x = 197 + 3 ∨ x = 197 + 4 ∨ x = 197 + 5 ∨ x = 197 + 6 ∨ x = 197 + 7 ∨ x = 213 ∨ x = 213 + 1 ∨ x = 213 + 2 ∨ x = 213 + 3 ∨ x = 213 + 4 ∨ x = 213 + 5 ∨ x = 213 + 6 ∨ x = 213 + 7
theorem fr_X11_quarrel {σ : ST} {v : Int32} {s : ST} (h : f_X11_quarrel σ = some (v, s)) : Fr (W_X11_quarrel ) σ s := by
  unfold f_X11_quarrel at h
  have F := Fr.rf (W_X11_quarrel ) σ
  obtain ⟨s1, hp, h⟩ := bd_some h
  replace F := F.tr (Fr.mono (fr_X11_current hp) (fun x hx => by unfold W_X11_current at hx; unfold W_X11_quarrel; omega))
  rcases ite_or h with h | h
  · obtain ⟨v3, s2, hp, h⟩ := bd2_some h
    replace F := F.tr (Fr.mono (fr_X10_inForce hp) (fun x hx => by unfold W_X10_inForce at hx; exact hx.elim))
    refine F.tr (fr_X11_quarrel_23 (fun x hx => by unfold W_X11_quarrel_23 at hx; unfold W_X11_quarrel; omega) FU h)
  · cases h; exact F
def W_X11_out_29 (x : Nat) : Prop := x = ((213 + 8) + 1) ∨ x = ((213 + 8) + 2) ∨ x = ((213 + 8) + 3) ∨ x = ((213 + 8) + 4) ∨ x = ((213 + 8) + 5) ∨ x = ((213 + 8) + 6) ∨ x = ((213 + 8) + 7) ∨ x = (213 + 8) ∨ x = (213 + 8) + 1 ∨ x = (213 + 8) + 2 ∨ x = (213 + 8) + 3 ∨ x = (213 + 8) + 4 ∨ x = (213 + 8) + 5 ∨ x = (213 + 8) + 6 ∨ x = (213 + 8) + 7 ∨ x = 213 ∨ x = 213 + 1 ∨ x = 213 + 2 ∨ x = 213 + 3 ∨ x = 213 + 4 ∨ x = 213 + 5 ∨ x = 213 + 6 ∨ x = 213 + 7
theorem fr_X11_out_29 {W : Nat → Prop} (hW : ∀ x, W_X11_out_29 x → W x) : ∀ (n : Nat) {x1 : Int32} {x2 : Int32} {x3 : Int32} {x4 : Int32} {sg : ST} {v : Int32} {s : ST}, f_X11_out_29 n x1 x2 x3 x4 sg = some (v, s) → Fr W sg s := by
  intro n
  induction n with
  | zero => intro _ _ _ _ _ _ _ h; rw [f_X11_out_29] at h; cases h
  | succ n ih =>
    intro x1 x2 x3 x4 sg v s h
    rw [f_X11_out_29] at h
    have F := Fr.rf W sg
    rcases ite_or h with h | h
    · obtain ⟨v5, s4, hp, h⟩ := bd2_some h
      replace F := F.tr (Fr.mono (fr_X10_weightOf hp) (fun x hx => by unfold W_X10_weightOf at hx; exact hx.elim))
      rcases ite_or h with h | h
      · exact F.tr (ih h)
      · rcases ite_or h with h | h
        · obtain ⟨v7, s6, hp, h⟩ := bd2_some h
          replace F := F.tr (Fr.mono (fr_X2_find hp) (fun x hx => hW x (by unfold W_X2_find at hx; unfold W_X11_out_29; omega)))
          rcases ite_or h with h | h
          · exact F.tr (ih h)
          · exact F.tr (ih h)
        · exact F.tr (ih h)
    · cases h; exact F
def W_X11_out (x : Nat) : Prop := x = ((197 + 8) + 1) ∨ x = ((197 + 8) + 2) ∨ x = ((197 + 8) + 3) ∨ x = ((197 + 8) + 4) ∨ x = ((197 + 8) + 5) ∨ x = ((197 + 8) + 6) ∨ x = ((197 + 8) + 7) ∨ x = ((213 + 8) + 1) ∨ x = ((213 + 8) + 2) ∨ x = ((213 + 8) + 3) ∨ x = ((213 + 8) + 4) ∨ x = ((213 + 8) + 5) ∨ x = ((213 + 8) + 6) ∨ x = ((213 + 8) + 7) ∨ x = (197 + 1) ∨ x = (197 + 8) ∨ x = (197 + 8) + 1 ∨ x = (197 + 8) + 2 ∨ x = (197 + 8) + 3 ∨ x = (197 + 8) + 4 ∨ x = (197 + 8) + 5 ∨ x = (197 + 8) + 6 ∨ x = (197 + 8) + 7 ∨ x = (213 + 8) ∨ x = (213 + 8) + 1 ∨ x = (213 + 8) + 2 ∨ x = (213 + 8) + 3 ∨ x = (213 + 8) + 4 ∨ x = (213 + 8) + 5 ∨ x = (213 + 8) + 6 ∨ x = (213 + 8) + 7 ∨ x = 0 ∨ x = 195 ∨ x = 196 ∨ x = 197 ∨ x = 197 + 1 ∨ x = 197 + 2 ∨ x = 197 + 3 ∨ x = 197 + 4 ∨ x = 197 + 5 ∨ x = 197 + 6 ∨ x = 197 + 7 ∨ x = 213 ∨ x = 213 + 1 ∨ x = 213 + 2 ∨ x = 213 + 3 ∨ x = 213 + 4 ∨ x = 213 + 5 ∨ x = 213 + 6 ∨ x = 213 + 7
theorem fr_X11_out {σ : ST} {v : Int32} {s : ST} (h : f_X11_out σ = some (v, s)) : Fr (W_X11_out ) σ s := by
  unfold f_X11_out at h
  have F := Fr.rf (W_X11_out ) σ
  obtain ⟨s1, hp, h⟩ := bd_some h
  replace F := F.tr (Fr.mono (fr_X11_current hp) (fun x hx => by unfold W_X11_current at hx; unfold W_X11_out; omega))
  rcases ite_or h with h | h
  · obtain ⟨v3, s2, hp, h⟩ := bd2_some h
    replace F := F.tr (Fr.mono (fr_X10_inForce hp) (fun x hx => by unfold W_X10_inForce at hx; exact hx.elim))
    refine F.tr (fr_X11_out_29 (fun x hx => by unfold W_X11_out_29 at hx; unfold W_X11_out; omega) FU h)
  · cases h; exact F
def W_X11_inSome (x : Nat) : Prop := False
theorem fr_X11_inSome {x0 : Int32} {σ : ST} {v : Int32} {s : ST} (h : f_X11_inSome x0 σ = some (v, s)) : Fr (W_X11_inSome ) σ s := by
  unfold f_X11_inSome at h
  have F := Fr.rf (W_X11_inSome ) σ
  rcases ite_or h with h | h
  · cases h; exact F
  · rcases ite_or h with h | h
    · cases h; exact F
    · rcases ite_or h with h | h
      · cases h; exact F
      · cases h; exact F
def W_X11_must (x : Nat) : Prop := x = ((197 + 8) + 1) ∨ x = ((197 + 8) + 2) ∨ x = ((197 + 8) + 3) ∨ x = ((197 + 8) + 4) ∨ x = ((197 + 8) + 5) ∨ x = ((197 + 8) + 6) ∨ x = ((197 + 8) + 7) ∨ x = (197 + 1) ∨ x = (197 + 8) ∨ x = (197 + 8) + 1 ∨ x = (197 + 8) + 2 ∨ x = (197 + 8) + 3 ∨ x = (197 + 8) + 4 ∨ x = (197 + 8) + 5 ∨ x = (197 + 8) + 6 ∨ x = (197 + 8) + 7 ∨ x = 0 ∨ x = 195 ∨ x = 196 ∨ x = 197 ∨ x = 197 + 1 ∨ x = 197 + 2 ∨ x = 197 + 3 ∨ x = 197 + 4 ∨ x = 197 + 5 ∨ x = 197 + 6 ∨ x = 197 + 7
theorem fr_X11_must {x1 : Int32} {x2 : Int32} {x3 : Int32} {σ : ST} {v : Int32} {s : ST} (h : f_X11_must x1 x2 x3 σ = some (v, s)) : Fr (W_X11_must ) σ s := by
  unfold f_X11_must at h
  have F := Fr.rf (W_X11_must ) σ
  obtain ⟨v2, s1, hp, h⟩ := bd2_some h
  replace F := F.tr (Fr.mono (fr_X11_isHappening hp) (fun x hx => by unfold W_X11_isHappening at hx; exact hx.elim))
  rcases ite_or h with h | h
  · cases h; exact F
  · obtain ⟨v4, s3, hp, h⟩ := bd2_some h
    replace F := F.tr (Fr.mono (fr_X11_areHours hp) (fun x hx => by unfold W_X11_areHours at hx; exact hx.elim))
    rcases ite_or h with h | h
    · cases h; exact F
    · obtain ⟨s5, hp, h⟩ := bd_some h
      replace F := F.tr (Fr.mono (fr_X11_current hp) (fun x hx => by unfold W_X11_current at hx; unfold W_X11_must; omega))
      obtain ⟨v7, s6, hp, h⟩ := bd2_some h
      replace F := F.tr (Fr.mono (fr_X2_tally hp) (fun x hx => by unfold W_X2_tally at hx; unfold W_X11_must; omega))
      obtain ⟨v9, s8, hp, h⟩ := bd2_some h
      replace F := F.tr (Fr.mono (fr_X11_inSome hp) (fun x hx => by unfold W_X11_inSome at hx; exact hx.elim))
      cases h; exact F
def W_X11_could (x : Nat) : Prop := x = ((197 + 8) + 1) ∨ x = ((197 + 8) + 2) ∨ x = ((197 + 8) + 3) ∨ x = ((197 + 8) + 4) ∨ x = ((197 + 8) + 5) ∨ x = ((197 + 8) + 6) ∨ x = ((197 + 8) + 7) ∨ x = (197 + 1) ∨ x = (197 + 8) ∨ x = (197 + 8) + 1 ∨ x = (197 + 8) + 2 ∨ x = (197 + 8) + 3 ∨ x = (197 + 8) + 4 ∨ x = (197 + 8) + 5 ∨ x = (197 + 8) + 6 ∨ x = (197 + 8) + 7 ∨ x = 0 ∨ x = 195 ∨ x = 196 ∨ x = 197 ∨ x = 197 + 1 ∨ x = 197 + 2 ∨ x = 197 + 3 ∨ x = 197 + 4 ∨ x = 197 + 5 ∨ x = 197 + 6 ∨ x = 197 + 7
theorem fr_X11_could {x1 : Int32} {σ : ST} {v : Int32} {s : ST} (h : f_X11_could x1 σ = some (v, s)) : Fr (W_X11_could ) σ s := by
  unfold f_X11_could at h
  have F := Fr.rf (W_X11_could ) σ
  obtain ⟨v2, s1, hp, h⟩ := bd2_some h
  replace F := F.tr (Fr.mono (fr_X11_isHour hp) (fun x hx => by unfold W_X11_isHour at hx; exact hx.elim))
  rcases ite_or h with h | h
  · cases h; exact F
  · obtain ⟨s3, hp, h⟩ := bd_some h
    replace F := F.tr (Fr.mono (fr_X11_current hp) (fun x hx => by unfold W_X11_current at hx; unfold W_X11_could; omega))
    rcases ite_or h with h | h
    · cases h; exact F
    · obtain ⟨v4, -, h⟩ := bd_some h
      cases h; exact F
def W_X11_ever (x : Nat) : Prop := x = ((197 + 8) + 1) ∨ x = ((197 + 8) + 2) ∨ x = ((197 + 8) + 3) ∨ x = ((197 + 8) + 4) ∨ x = ((197 + 8) + 5) ∨ x = ((197 + 8) + 6) ∨ x = ((197 + 8) + 7) ∨ x = (197 + 1) ∨ x = (197 + 8) ∨ x = (197 + 8) + 1 ∨ x = (197 + 8) + 2 ∨ x = (197 + 8) + 3 ∨ x = (197 + 8) + 4 ∨ x = (197 + 8) + 5 ∨ x = (197 + 8) + 6 ∨ x = (197 + 8) + 7 ∨ x = 0 ∨ x = 195 ∨ x = 196 ∨ x = 197 ∨ x = 197 + 1 ∨ x = 197 + 2 ∨ x = 197 + 3 ∨ x = 197 + 4 ∨ x = 197 + 5 ∨ x = 197 + 6 ∨ x = 197 + 7
theorem fr_X11_ever {x1 : Int32} {x2 : Int32} {x3 : Int32} {σ : ST} {v : Int32} {s : ST} (h : f_X11_ever x1 x2 x3 σ = some (v, s)) : Fr (W_X11_ever ) σ s := by
  unfold f_X11_ever at h
  have F := Fr.rf (W_X11_ever ) σ
  obtain ⟨v2, s1, hp, h⟩ := bd2_some h
  replace F := F.tr (Fr.mono (fr_X11_isThing hp) (fun x hx => by unfold W_X11_isThing at hx; exact hx.elim))
  rcases ite_or h with h | h
  · cases h; exact F
  · obtain ⟨v4, s3, hp, h⟩ := bd2_some h
    replace F := F.tr (Fr.mono (fr_X11_areHours hp) (fun x hx => by unfold W_X11_areHours at hx; exact hx.elim))
    rcases ite_or h with h | h
    · cases h; exact F
    · obtain ⟨s5, hp, h⟩ := bd_some h
      replace F := F.tr (Fr.mono (fr_X11_current hp) (fun x hx => by unfold W_X11_current at hx; unfold W_X11_ever; omega))
      obtain ⟨v7, s6, hp, h⟩ := bd2_some h
      replace F := F.tr (Fr.mono (fr_X2_tally hp) (fun x hx => by unfold W_X2_tally at hx; unfold W_X11_ever; omega))
      obtain ⟨v9, s8, hp, h⟩ := bd2_some h
      replace F := F.tr (Fr.mono (fr_X11_inSome hp) (fun x hx => by unfold W_X11_inSome at hx; exact hx.elim))
      cases h; exact F
def W_X11_howLong (x : Nat) : Prop := x = ((197 + 8) + 1) ∨ x = ((197 + 8) + 2) ∨ x = ((197 + 8) + 3) ∨ x = ((197 + 8) + 4) ∨ x = ((197 + 8) + 5) ∨ x = ((197 + 8) + 6) ∨ x = ((197 + 8) + 7) ∨ x = (197 + 1) ∨ x = (197 + 8) ∨ x = (197 + 8) + 1 ∨ x = (197 + 8) + 2 ∨ x = (197 + 8) + 3 ∨ x = (197 + 8) + 4 ∨ x = (197 + 8) + 5 ∨ x = (197 + 8) + 6 ∨ x = (197 + 8) + 7 ∨ x = 0 ∨ x = 195 ∨ x = 196 ∨ x = 197 ∨ x = 197 + 1 ∨ x = 197 + 2 ∨ x = 197 + 3 ∨ x = 197 + 4 ∨ x = 197 + 5 ∨ x = 197 + 6 ∨ x = 197 + 7
theorem fr_X11_howLong {x1 : Int32} {x2 : Int32} {x3 : Int32} {σ : ST} {v : Int32} {s : ST} (h : f_X11_howLong x1 x2 x3 σ = some (v, s)) : Fr (W_X11_howLong ) σ s := by
  unfold f_X11_howLong at h
  have F := Fr.rf (W_X11_howLong ) σ
  obtain ⟨v2, s1, hp, h⟩ := bd2_some h
  replace F := F.tr (Fr.mono (fr_X11_isThing hp) (fun x hx => by unfold W_X11_isThing at hx; exact hx.elim))
  rcases ite_or h with h | h
  · cases h; exact F
  · obtain ⟨v4, s3, hp, h⟩ := bd2_some h
    replace F := F.tr (Fr.mono (fr_X11_areHours hp) (fun x hx => by unfold W_X11_areHours at hx; exact hx.elim))
    rcases ite_or h with h | h
    · cases h; exact F
    · obtain ⟨s5, hp, h⟩ := bd_some h
      replace F := F.tr (Fr.mono (fr_X11_current hp) (fun x hx => by unfold W_X11_current at hx; unfold W_X11_howLong; omega))
      obtain ⟨v7, s6, hp, h⟩ := bd2_some h
      replace F := F.tr (Fr.mono (fr_X2_tally hp) (fun x hx => by unfold W_X2_tally at hx; unfold W_X11_howLong; omega))
      rcases ite_or h with h | h
      · cases h; exact F
      · obtain ⟨v9, s8, hp, h⟩ := bd2_some h
        replace F := F.tr (Fr.mono (fr_X11_joined hp) (fun x hx => by unfold W_X11_joined at hx; exact hx.elim))
        cases h; exact F
def W_X11_since_35 (x : Nat) : Prop := False
theorem fr_X11_since_35 {W : Nat → Prop} (hW : ∀ x, W_X11_since_35 x → W x) : ∀ (n : Nat) {x1 : Int32} {x3 : Int32} {x4 : Int32} {sg : ST} {v : Int32} {s : ST}, f_X11_since_35 n x1 x3 x4 sg = some (v, s) → Fr W sg s := by
  intro n
  induction n with
  | zero => intro _ _ _ _ _ _ h; rw [f_X11_since_35] at h; cases h
  | succ n ih =>
    intro x1 x3 x4 sg v s h
    rw [f_X11_since_35] at h
    have F := Fr.rf W sg
    rcases ite_or h with h | h
    · cases h; exact F
    · obtain ⟨v9, s8, hp, h⟩ := bd2_some h
      replace F := F.tr (Fr.mono (fr_X2_soOf hp) (fun x hx => by unfold W_X2_soOf at hx; exact hx.elim))
      rcases ite_or h with h | h
      · exact F.tr (ih h)
      · cases h; exact F
def W_X11_since (x : Nat) : Prop := x = ((197 + 8) + 1) ∨ x = ((197 + 8) + 2) ∨ x = ((197 + 8) + 3) ∨ x = ((197 + 8) + 4) ∨ x = ((197 + 8) + 5) ∨ x = ((197 + 8) + 6) ∨ x = ((197 + 8) + 7) ∨ x = (197 + 1) ∨ x = (197 + 8) ∨ x = (197 + 8) + 1 ∨ x = (197 + 8) + 2 ∨ x = (197 + 8) + 3 ∨ x = (197 + 8) + 4 ∨ x = (197 + 8) + 5 ∨ x = (197 + 8) + 6 ∨ x = (197 + 8) + 7 ∨ x = 0 ∨ x = 195 ∨ x = 196 ∨ x = 197 ∨ x = 197 + 1 ∨ x = 197 + 2 ∨ x = 197 + 3 ∨ x = 197 + 4 ∨ x = 197 + 5 ∨ x = 197 + 6 ∨ x = 197 + 7
theorem fr_X11_since {x1 : Int32} {x2 : Int32} {σ : ST} {v : Int32} {s : ST} (h : f_X11_since x1 x2 σ = some (v, s)) : Fr (W_X11_since ) σ s := by
  unfold f_X11_since at h
  have F := Fr.rf (W_X11_since ) σ
  obtain ⟨v2, s1, hp, h⟩ := bd2_some h
  replace F := F.tr (Fr.mono (fr_X11_isThing hp) (fun x hx => by unfold W_X11_isThing at hx; exact hx.elim))
  rcases ite_or h with h | h
  · cases h; exact F
  · obtain ⟨v4, s3, hp, h⟩ := bd2_some h
    replace F := F.tr (Fr.mono (fr_X11_isHour hp) (fun x hx => by unfold W_X11_isHour at hx; exact hx.elim))
    rcases ite_or h with h | h
    · cases h; exact F
    · obtain ⟨s5, hp, h⟩ := bd_some h
      replace F := F.tr (Fr.mono (fr_X11_current hp) (fun x hx => by unfold W_X11_current at hx; unfold W_X11_since; omega))
      obtain ⟨v7, s6, hp, h⟩ := bd2_some h
      replace F := F.tr (Fr.mono (fr_X2_soOf hp) (fun x hx => by unfold W_X2_soOf at hx; exact hx.elim))
      rcases ite_or h with h | h
      · refine F.tr (fr_X11_since_35 (fun x hx => by unfold W_X11_since_35 at hx; unfold W_X11_since; omega) FU h)
      · cases h; exact F
def W_X11_wouldBring (x : Nat) : Prop := x = ((213 + 8) + 1) ∨ x = ((213 + 8) + 2) ∨ x = ((213 + 8) + 3) ∨ x = ((213 + 8) + 4) ∨ x = ((213 + 8) + 5) ∨ x = ((213 + 8) + 6) ∨ x = ((213 + 8) + 7) ∨ x = (213 + 1) ∨ x = (213 + 8) ∨ x = (213 + 8) + 1 ∨ x = (213 + 8) + 2 ∨ x = (213 + 8) + 3 ∨ x = (213 + 8) + 4 ∨ x = (213 + 8) + 5 ∨ x = (213 + 8) + 6 ∨ x = (213 + 8) + 7 ∨ x = 213 ∨ x = 213 + 1 ∨ x = 213 + 2 ∨ x = 213 + 3 ∨ x = 213 + 4 ∨ x = 213 + 5 ∨ x = 213 + 6 ∨ x = 213 + 7
theorem fr_X11_wouldBring {x1 : Int32} {x2 : Int32} {x3 : Int32} {x4 : Int32} {σ : ST} {v : Int32} {s : ST} (h : f_X11_wouldBring x1 x2 x3 x4 σ = some (v, s)) : Fr (W_X11_wouldBring ) σ s := by
  unfold f_X11_wouldBring at h
  have F := Fr.rf (W_X11_wouldBring ) σ
  obtain ⟨v2, s1, hp, h⟩ := bd2_some h
  replace F := F.tr (Fr.mono (fr_X10_isSeenIn hp) (fun x hx => by unfold W_X10_isSeenIn at hx; exact hx.elim))
  rcases ite_or h with h | h
  · obtain ⟨v4, s3, hp, h⟩ := bd2_some h
    replace F := F.tr (Fr.mono (fr_X2_surely hp) (fun x hx => by unfold W_X2_surely at hx; exact hx.elim))
    rcases ite_or h with h | h
    · cases h; exact F
    · obtain ⟨v6, s5, hp, h⟩ := bd2_some h
      replace F := F.tr (Fr.mono (fr_X10_inForce hp) (fun x hx => by unfold W_X10_inForce at hx; exact hx.elim))
      obtain ⟨v8, s7, hp, h⟩ := bd2_some h
      replace F := F.tr (Fr.mono (fr_X2_find hp) (fun x hx => by unfold W_X2_find at hx; unfold W_X11_wouldBring; omega))
      rcases ite_or h with h | h
      · cases h; exact F
      · obtain ⟨s9, hp, h⟩ := bd_some h
        replace F := F.tr (Fr.mono (fr_X2_keepBest hp) (fun x hx => by unfold W_X2_keepBest at hx; unfold W_X11_wouldBring; omega))
        obtain ⟨v11, s10, hp, h⟩ := bd2_some h
        replace F := F.tr (Fr.mono (fr_X2_soOf hp) (fun x hx => by unfold W_X2_soOf at hx; exact hx.elim))
        rcases ite_or h with h | h
        · cases h; exact F
        · cases h; exact F
  · cases h; exact F
def W_X11_plan_41 (x : Nat) : Prop := x = ((213 + 8) + 1) ∨ x = ((213 + 8) + 2) ∨ x = ((213 + 8) + 3) ∨ x = ((213 + 8) + 4) ∨ x = ((213 + 8) + 5) ∨ x = ((213 + 8) + 6) ∨ x = ((213 + 8) + 7) ∨ x = (213 + 1) ∨ x = (213 + 8) ∨ x = (213 + 8) + 1 ∨ x = (213 + 8) + 2 ∨ x = (213 + 8) + 3 ∨ x = (213 + 8) + 4 ∨ x = (213 + 8) + 5 ∨ x = (213 + 8) + 6 ∨ x = (213 + 8) + 7 ∨ x = 213 ∨ x = 213 + 1 ∨ x = 213 + 2 ∨ x = 213 + 3 ∨ x = 213 + 4 ∨ x = 213 + 5 ∨ x = 213 + 6 ∨ x = 213 + 7
theorem fr_X11_plan_41 {k81 : Int32 → Int32 → Int32 → ST → Option (Int32 × ST)} {W : Nat → Prop} (hW : ∀ x, W_X11_plan_41 x → W x) (hk81 : ∀ {u0 : Int32} {u1 : Int32} {u2 : Int32} {sg : ST} {v : Int32} {s : ST}, k81 u0 u1 u2 sg = some (v, s) → Fr W sg s) : ∀ (n : Nat) {x1 : Int32} {x3 : Int32} {x4 : Int32} {x5 : Int32} {sg : ST} {v : Int32} {s : ST}, f_X11_plan_41 k81 n x1 x3 x4 x5 sg = some (v, s) → Fr W sg s := by
  intro n
  induction n with
  | zero => intro _ _ _ _ _ _ _ h; rw [f_X11_plan_41] at h; cases h
  | succ n ih =>
    intro x1 x3 x4 x5 sg v s h
    rw [f_X11_plan_41] at h
    have F := Fr.rf W sg
    rcases ite_or h with h | h
    · obtain ⟨v7, s6, hp, h⟩ := bd2_some h
      replace F := F.tr (Fr.mono (fr_X11_wouldBring hp) (fun x hx => hW x (by unfold W_X11_wouldBring at hx; unfold W_X11_plan_41; omega)))
      rcases ite_or h with h | h
      · exact F.tr (ih h)
      · cases h; exact F
    · exact F.tr (hk81 h)
def W_X11_plan_32 (x : Nat) : Prop := x = ((213 + 8) + 1) ∨ x = ((213 + 8) + 2) ∨ x = ((213 + 8) + 3) ∨ x = ((213 + 8) + 4) ∨ x = ((213 + 8) + 5) ∨ x = ((213 + 8) + 6) ∨ x = ((213 + 8) + 7) ∨ x = (213 + 1) ∨ x = (213 + 8) ∨ x = (213 + 8) + 1 ∨ x = (213 + 8) + 2 ∨ x = (213 + 8) + 3 ∨ x = (213 + 8) + 4 ∨ x = (213 + 8) + 5 ∨ x = (213 + 8) + 6 ∨ x = (213 + 8) + 7 ∨ x = 213 ∨ x = 213 + 1 ∨ x = 213 + 2 ∨ x = 213 + 3 ∨ x = 213 + 4 ∨ x = 213 + 5 ∨ x = 213 + 6 ∨ x = 213 + 7
theorem fr_X11_plan_32 {W : Nat → Prop} (hW : ∀ x, W_X11_plan_32 x → W x) : ∀ (n : Nat) {x1 : Int32} {x3 : Int32} {x4 : Int32} {sg : ST} {v : Int32} {s : ST}, f_X11_plan_32 n x1 x3 x4 sg = some (v, s) → Fr W sg s := by
  intro n
  induction n with
  | zero => intro _ _ _ _ _ _ h; rw [f_X11_plan_32] at h; cases h
  | succ n ih =>
    intro x1 x3 x4 sg v s h
    rw [f_X11_plan_32] at h
    have F := Fr.rf W sg
    rcases ite_or h with h | h
    · refine F.tr (fr_X11_plan_41 (fun x hx => hW x (by unfold W_X11_plan_41 at hx; unfold W_X11_plan_32; omega)) ?_ FU h)
      · intro x1_8 x3_9 x4_10 s11 _ _ h
        have F := Fr.rf W s11
        exact F.tr (ih h)
    · cases h; exact F
def W_X11_plan (x : Nat) : Prop := x = ((197 + 8) + 1) ∨ x = ((197 + 8) + 2) ∨ x = ((197 + 8) + 3) ∨ x = ((197 + 8) + 4) ∨ x = ((197 + 8) + 5) ∨ x = ((197 + 8) + 6) ∨ x = ((197 + 8) + 7) ∨ x = ((213 + 8) + 1) ∨ x = ((213 + 8) + 2) ∨ x = ((213 + 8) + 3) ∨ x = ((213 + 8) + 4) ∨ x = ((213 + 8) + 5) ∨ x = ((213 + 8) + 6) ∨ x = ((213 + 8) + 7) ∨ x = (197 + 1) ∨ x = (197 + 8) ∨ x = (197 + 8) + 1 ∨ x = (197 + 8) + 2 ∨ x = (197 + 8) + 3 ∨ x = (197 + 8) + 4 ∨ x = (197 + 8) + 5 ∨ x = (197 + 8) + 6 ∨ x = (197 + 8) + 7 ∨ x = (213 + 1) ∨ x = (213 + 8) ∨ x = (213 + 8) + 1 ∨ x = (213 + 8) + 2 ∨ x = (213 + 8) + 3 ∨ x = (213 + 8) + 4 ∨ x = (213 + 8) + 5 ∨ x = (213 + 8) + 6 ∨ x = (213 + 8) + 7 ∨ x = 0 ∨ x = 195 ∨ x = 196 ∨ x = 197 ∨ x = 197 + 1 ∨ x = 197 + 2 ∨ x = 197 + 3 ∨ x = 197 + 4 ∨ x = 197 + 5 ∨ x = 197 + 6 ∨ x = 197 + 7 ∨ x = 213 ∨ x = 213 + 1 ∨ x = 213 + 2 ∨ x = 213 + 3 ∨ x = 213 + 4 ∨ x = 213 + 5 ∨ x = 213 + 6 ∨ x = 213 + 7
theorem fr_X11_plan {x1 : Int32} {x2 : Int32} {x3 : Int32} {σ : ST} {v : Int32} {s : ST} (h : f_X11_plan x1 x2 x3 σ = some (v, s)) : Fr (W_X11_plan ) σ s := by
  unfold f_X11_plan at h
  have F := Fr.rf (W_X11_plan ) σ
  obtain ⟨v2, s1, hp, h⟩ := bd2_some h
  replace F := F.tr (Fr.mono (fr_X11_isThing hp) (fun x hx => by unfold W_X11_isThing at hx; exact hx.elim))
  rcases ite_or h with h | h
  · cases h; exact F
  · obtain ⟨v4, s3, hp, h⟩ := bd2_some h
    replace F := F.tr (Fr.mono (fr_X11_areHours hp) (fun x hx => by unfold W_X11_areHours at hx; exact hx.elim))
    rcases ite_or h with h | h
    · cases h; exact F
    · obtain ⟨s5, hp, h⟩ := bd_some h
      replace F := F.tr (Fr.mono (fr_X11_current hp) (fun x hx => by unfold W_X11_current at hx; unfold W_X11_plan; omega))
      rcases ite_or h with h | h
      · cases h; exact F
      · refine F.tr (fr_X11_plan_32 (fun x hx => by unfold W_X11_plan_32 at hx; unfold W_X11_plan; omega) FU h)
def W_X11_seemed (x : Nat) : Prop := x = ((213 + 8) + 1) ∨ x = ((213 + 8) + 2) ∨ x = ((213 + 8) + 3) ∨ x = ((213 + 8) + 4) ∨ x = ((213 + 8) + 5) ∨ x = ((213 + 8) + 6) ∨ x = ((213 + 8) + 7) ∨ x = (213 + 1) ∨ x = (213 + 8) ∨ x = (213 + 8) + 1 ∨ x = (213 + 8) + 2 ∨ x = (213 + 8) + 3 ∨ x = (213 + 8) + 4 ∨ x = (213 + 8) + 5 ∨ x = (213 + 8) + 6 ∨ x = (213 + 8) + 7 ∨ x = 0 ∨ x = 195 ∨ x = 196 ∨ x = 213 ∨ x = 213 + 1 ∨ x = 213 + 2 ∨ x = 213 + 3 ∨ x = 213 + 4 ∨ x = 213 + 5 ∨ x = 213 + 6 ∨ x = 213 + 7
theorem fr_X11_seemed {x1 : Int32} {x2 : Int32} {x3 : Int32} {x4 : Int32} {σ : ST} {v : Int32} {s : ST} (h : f_X11_seemed x1 x2 x3 x4 σ = some (v, s)) : Fr (W_X11_seemed ) σ s := by
  unfold f_X11_seemed at h
  have F := Fr.rf (W_X11_seemed ) σ
  obtain ⟨v2, s1, hp, h⟩ := bd2_some h
  replace F := F.tr (Fr.mono (fr_X11_isMouth hp) (fun x hx => by unfold W_X11_isMouth at hx; exact hx.elim))
  rcases ite_or h with h | h
  · cases h; exact F
  · obtain ⟨v4, s3, hp, h⟩ := bd2_some h
    replace F := F.tr (Fr.mono (fr_X11_isHour hp) (fun x hx => by unfold W_X11_isHour at hx; exact hx.elim))
    rcases ite_or h with h | h
    · cases h; exact F
    · obtain ⟨v6, s5, hp, h⟩ := bd2_some h
      replace F := F.tr (Fr.mono (fr_X11_isThing hp) (fun x hx => by unfold W_X11_isThing at hx; exact hx.elim))
      rcases ite_or h with h | h
      · cases h; exact F
      · obtain ⟨v8, s7, hp, h⟩ := bd2_some h
        replace F := F.tr (Fr.mono (fr_X11_isHour hp) (fun x hx => by unfold W_X11_isHour at hx; exact hx.elim))
        rcases ite_or h with h | h
        · cases h; exact F
        · obtain ⟨v10, s9, hp, h⟩ := bd2_some h
          replace F := F.tr (Fr.mono (fr_X10_toldBy hp) (fun x hx => by unfold W_X10_toldBy at hx; exact hx.elim))
          obtain ⟨v12, s11, hp, h⟩ := bd2_some h
          replace F := F.tr (Fr.mono (fr_X11_seems hp) (fun x hx => by unfold W_X11_seems at hx; unfold W_X11_seemed; omega))
          cases h; exact F
def W_X11_act (x : Nat) : Prop := x = 230
theorem fr_X11_act {x1 : Int32} {x2 : Int32} {x3 : Int32} {σ : ST} {v : Int32} {s : ST} (h : f_X11_act x1 x2 x3 σ = some (v, s)) : Fr (W_X11_act ) σ s := by
  unfold f_X11_act at h
  have F := Fr.rf (W_X11_act ) σ
  obtain ⟨s1, hw, h⟩ := bd_some h
  replace F := F.tr (Fr_wrI (by unfold W_X11_act; omega) hw)
  obtain ⟨v3, s2, hp, h⟩ := bd2_some h
  replace F := F.tr (Fr.mono (fr_X10_pieceAt hp) (fun x hx => by unfold W_X10_pieceAt at hx; exact hx.elim))
  rcases nl_or h with h | ⟨q4, h⟩
  · cases h; exact F
  · rcases ite_or h with h | h
    · cases h; exact F
    · rcases ite_or h with h | h
      · rcases ite_or h with h | h
        · obtain ⟨c13, hc, h⟩ := bd_some h
          obtain ⟨v12, s11, hp, h⟩ := bd2_some h
          replace F := F.tr (Fr.mono (fr_V_tells hp) (fun x hx => by unfold W_V at hx; unfold W_X11_act; omega))
          cases h; exact F
        · rcases ite_or h with h | h
          · obtain ⟨c10, hc, h⟩ := bd_some h
            obtain ⟨v9, s8, hp, h⟩ := bd2_some h
            replace F := F.tr (Fr.mono (fr_V_binds hp) (fun x hx => by unfold W_V at hx; unfold W_X11_act; omega))
            cases h; exact F
          · obtain ⟨c7, hc, h⟩ := bd_some h
            obtain ⟨v6, s5, hp, h⟩ := bd2_some h
            replace F := F.tr (Fr.mono (fr_V_weighs hp) (fun x hx => by unfold W_V at hx; unfold W_X11_act; omega))
            cases h; exact F
      · cases h; exact F
def W_X11_trace (x : Nat) : Prop := False
theorem fr_X11_trace {x1 : Int32} {σ : ST} {v : Int32} {s : ST} (h : f_X11_trace x1 σ = some (v, s)) : Fr (W_X11_trace ) σ s := by
  unfold f_X11_trace at h
  have F := Fr.rf (W_X11_trace ) σ
  rcases ite_or h with h | h
  · cases h; exact F
  · rcases ite_or h with h | h
    · obtain ⟨v1, -, h⟩ := bd_some h
      rcases ite_or h with h | h
      · obtain ⟨v2, -, h⟩ := bd_some h
        cases h; exact F
      · cases h; exact F
    · cases h; exact F
def W_X11_image (x : Nat) : Prop := x = 0 ∨ x = 95 ∨ x = 95 + 1 ∨ x = 95 + 2 ∨ x = 95 + 5 ∨ x = 95 + 6 ∨ (95 ≤ x ∧ x < 95 + 93)
theorem fr_X11_image {σ : ST} {v : Int32} {s : ST} (h : f_X11_image σ = some (v, s)) : Fr (W_X11_image ) σ s := by
  unfold f_X11_image at h
  have F := Fr.rf (W_X11_image ) σ
  obtain ⟨s1, hp, h⟩ := bd_some h
  replace F := F.tr (Fr.mono (fr_X10_become (Or.inr rfl) (Or.inl rfl) hp) (fun x hx => by unfold W_X10_become at hx; unfold W_X11_image; omega))
  obtain ⟨s2, hw, h⟩ := bd_some h
  replace F := F.tr (Fr_pfZ (by unfold W_X11_image; omega) hw)
  cases h; exact F
def W_X11_restore_37 (x : Nat) : Prop := (231 ≤ x ∧ x < 247)
theorem fr_X11_restore_37 {W : Nat → Prop} (hW : ∀ x, W_X11_restore_37 x → W x) : ∀ (n : Nat) {x1 : Int32} {sg : ST} {v : Int32} {s : ST}, f_X11_restore_37 n x1 sg = some (v, s) → Fr W sg s := by
  intro n
  induction n with
  | zero => intro _ _ _ _ h; rw [f_X11_restore_37] at h; cases h
  | succ n ih =>
    intro x1 sg v s h
    rw [f_X11_restore_37] at h
    have F := Fr.rf W sg
    rcases ite_or h with h | h
    · obtain ⟨j4, hj4, h⟩ := ixR_bd h
      obtain ⟨v6, s5, hp, h⟩ := bd2_some h
      replace F := F.tr (Fr.mono (fr_X7_holdsPiece hp) (fun x hx => by unfold W_X7_holdsPiece at hx; exact hx.elim))
      rcases ite_or h with h | h
      · exact F.tr (ih h)
      · obtain ⟨j7, hj7, h⟩ := ixR_bd h
        rcases ite_or h with h | h
        · exact F.tr (ih h)
        · obtain ⟨j8, hj8, h⟩ := ixR_bd h
          obtain ⟨s9, hp, h⟩ := bd_some h
          replace F := F.tr (Fr.mono (fr_X7_takePiece hp) (fun x hx => hW x (by unfold W_X7_takePiece at hx; unfold W_X11_restore_37; omega)))
          exact F.tr (ih h)
    · cases h; exact F
def W_X11_restore (x : Nat) : Prop := x = 0 ∨ x = 2 ∨ x = 2 + 1 ∨ x = 2 + 2 ∨ x = 2 + 5 ∨ x = 2 + 6 ∨ x = 229 ∨ (2 ≤ x ∧ x < 2 + 93) ∨ (231 ≤ x ∧ x < 247)
theorem fr_X11_restore {σ : ST} {v : Int32} {s : ST} (h : f_X11_restore σ = some (v, s)) : Fr (W_X11_restore ) σ s := by
  unfold f_X11_restore at h
  have F := Fr.rf (W_X11_restore ) σ
  rcases ite_or h with h | h
  · obtain ⟨v11, s10, hp, h⟩ := bd2_some h
    replace F := F.tr (Fr.mono (fr_X11_refuse hp) (fun x hx => by unfold W_X11_refuse at hx; unfold W_X11_restore; omega))
    cases h; exact F
  · obtain ⟨s1, hp, h⟩ := bd_some h
    replace F := F.tr (Fr.mono (fr_X10_become (Or.inl rfl) (Or.inr rfl) hp) (fun x hx => by unfold W_X10_become at hx; unfold W_X11_restore; omega))
    obtain ⟨s2, hw, h⟩ := bd_some h
    replace F := F.tr (Fr_pfZ (by unfold W_X11_restore; omega) hw)
    obtain ⟨s3, hw, h⟩ := bd_some h
    replace F := F.tr (Fr_pfZ (by unfold W_X11_restore; omega) hw)
    refine F.tr (fr_X11_restore_37 (fun x hx => by unfold W_X11_restore_37 at hx; unfold W_X11_restore; omega) FU h)
def W_J6_bitCount_0f7a4 (x : Nat) : Prop := False
theorem fr_J6_bitCount_0f7a4 {x0 : Int32} {σ : ST} {v : Int32} {s : ST} (h : f_J6_bitCount_0f7a4 x0 σ = some (v, s)) : Fr (W_J6_bitCount_0f7a4 ) σ s := by
  unfold f_J6_bitCount_0f7a4 at h
  have F := Fr.rf (W_J6_bitCount_0f7a4 ) σ
  cases h; exact F
def W_X11_status (x : Nat) : Prop := False
theorem fr_X11_status {x1 : Int32} {σ : ST} {v : Int32} {s : ST} (h : f_X11_status x1 σ = some (v, s)) : Fr (W_X11_status ) σ s := by
  unfold f_X11_status at h
  have F := Fr.rf (W_X11_status ) σ
  rcases ite_or h with h | h
  · cases h; exact F
  rcases ite_or h with h | h
  · cases h; exact F
  rcases ite_or h with h | h
  · cases h; exact F
  rcases ite_or h with h | h
  · obtain ⟨v2, s1, hp, h⟩ := bd2_some h
    replace F := F.tr (Fr.mono (fr_J6_bitCount_0f7a4 hp) (fun x hx => by unfold W_J6_bitCount_0f7a4 at hx; exact hx.elim))
    cases h; exact F
  rcases ite_or h with h | h
  · obtain ⟨v3, -, h⟩ := bd_some h
    cases h; exact F
  rcases ite_or h with h | h
  · cases h; exact F
  · rcases ite_or h with h | h
    · cases h; exact F
    · obtain ⟨v4, -, h⟩ := bd_some h
      cases h; exact F
