/-! ===== what a function leaves as it is ===== -/
def W_X12_no (x : Nat) : Prop := x = 294
theorem fr_X12_no {x1 : Int32} {σ : ST} {v : Int32} {s : ST} (h : f_X12_no x1 σ = some (v, s)) : Fr (W_X12_no ) σ s := by
  unfold f_X12_no at h
  have F := Fr.rf (W_X12_no ) σ
  obtain ⟨v1, -, h⟩ := bd_some h
  obtain ⟨s2, hw, h⟩ := bd_some h
  replace F := F.tr (Fr_wrI (by unfold W_X12_no; omega) hw)
  cases h; exact F
def W_X12_isShelf (x : Nat) : Prop := False
theorem fr_X12_isShelf {x1 : Int32} {σ : ST} {v : Int32} {s : ST} (h : f_X12_isShelf x1 σ = some (v, s)) : Fr (W_X12_isShelf ) σ s := by
  unfold f_X12_isShelf at h
  have F := Fr.rf (W_X12_isShelf ) σ
  rcases ite_or h with h | h
  · cases h; exact F
  · rcases ite_or h with h | h
    · cases h; exact F
    · cases h; exact F
def W_X12_isRow (x : Nat) : Prop := False
theorem fr_X12_isRow {x1 : Int32} {σ : ST} {v : Int32} {s : ST} (h : f_X12_isRow x1 σ = some (v, s)) : Fr (W_X12_isRow ) σ s := by
  unfold f_X12_isRow at h
  have F := Fr.rf (W_X12_isRow ) σ
  obtain ⟨v1, -, h⟩ := bd_some h
  rcases ite_or h with h | h
  · cases h; exact F
  · cases h; exact F
def W_X12_holdsPiece (x : Nat) : Prop := False
theorem fr_X12_holdsPiece {x1 : Int32} {σ : ST} {v : Int32} {s : ST} (h : f_X12_holdsPiece x1 σ = some (v, s)) : Fr (W_X12_holdsPiece ) σ s := by
  unfold f_X12_holdsPiece at h
  have F := Fr.rf (W_X12_holdsPiece ) σ
  obtain ⟨v1, -, h⟩ := bd_some h
  rcases ite_or h with h | h
  · cases h; exact F
  · obtain ⟨v2, -, h⟩ := bd_some h
    rcases ite_or h with h | h
    · cases h; exact F
    · cases h; exact F
def W_X12_isThing (x : Nat) : Prop := False
theorem fr_X12_isThing {x1 : Int32} {σ : ST} {v : Int32} {s : ST} (h : f_X12_isThing x1 σ = some (v, s)) : Fr (W_X12_isThing ) σ s := by
  unfold f_X12_isThing at h
  have F := Fr.rf (W_X12_isThing ) σ
  rcases ite_or h with h | h
  · cases h; exact F
  · rcases ite_or h with h | h
    · cases h; exact F
    · cases h; exact F
def W_X12_isHappening (x : Nat) : Prop := False
theorem fr_X12_isHappening {x1 : Int32} {σ : ST} {v : Int32} {s : ST} (h : f_X12_isHappening x1 σ = some (v, s)) : Fr (W_X12_isHappening ) σ s := by
  unfold f_X12_isHappening at h
  have F := Fr.rf (W_X12_isHappening ) σ
  rcases ite_or h with h | h
  · cases h; exact F
  · rcases ite_or h with h | h
    · cases h; exact F
    · cases h; exact F
def W_X12_isPiece (x : Nat) : Prop := False
theorem fr_X12_isPiece {x1 : Int32} {σ : ST} {v : Int32} {s : ST} (h : f_X12_isPiece x1 σ = some (v, s)) : Fr (W_X12_isPiece ) σ s := by
  unfold f_X12_isPiece at h
  have F := Fr.rf (W_X12_isPiece ) σ
  rcases ite_or h with h | h
  · cases h; exact F
  · rcases ite_or h with h | h
    · cases h; exact F
    · cases h; exact F
def W_X12_isMouth (x : Nat) : Prop := False
theorem fr_X12_isMouth {x1 : Int32} {σ : ST} {v : Int32} {s : ST} (h : f_X12_isMouth x1 σ = some (v, s)) : Fr (W_X12_isMouth ) σ s := by
  unfold f_X12_isMouth at h
  have F := Fr.rf (W_X12_isMouth ) σ
  rcases ite_or h with h | h
  · cases h; exact F
  · rcases ite_or h with h | h
    · cases h; exact F
    · cases h; exact F
def W_X12_isHour (x : Nat) : Prop := False
theorem fr_X12_isHour {x1 : Int32} {σ : ST} {v : Int32} {s : ST} (h : f_X12_isHour x1 σ = some (v, s)) : Fr (W_X12_isHour ) σ s := by
  unfold f_X12_isHour at h
  have F := Fr.rf (W_X12_isHour ) σ
  rcases ite_or h with h | h
  · cases h; exact F
  · rcases ite_or h with h | h
    · cases h; exact F
    · cases h; exact F
def W_X12_areHours (x : Nat) : Prop := False
theorem fr_X12_areHours {x1 : Int32} {x2 : Int32} {σ : ST} {v : Int32} {s : ST} (h : f_X12_areHours x1 x2 σ = some (v, s)) : Fr (W_X12_areHours ) σ s := by
  unfold f_X12_areHours at h
  have F := Fr.rf (W_X12_areHours ) σ
  obtain ⟨v2, s1, hp, h⟩ := bd2_some h
  replace F := F.tr (Fr.mono (fr_X12_isHour hp) (fun x hx => by unfold W_X12_isHour at hx; exact hx.elim))
  rcases ite_or h with h | h
  · cases h; exact F
  · obtain ⟨v4, s3, hp, h⟩ := bd2_some h
    replace F := F.tr (Fr.mono (fr_X12_isHour hp) (fun x hx => by unfold W_X12_isHour at hx; exact hx.elim))
    rcases ite_or h with h | h
    · cases h; exact F
    · rcases ite_or h with h | h
      · cases h; exact F
      · cases h; exact F
def W_X12_row_74 (x : Nat) : Prop := x = 265
theorem fr_X12_row_74 {W : Nat → Prop} (hW : ∀ x, W_X12_row_74 x → W x) : ∀ (n : Nat) {x1 : Int32} {x4 : Int32} {sg : ST} {v : Int32} {s : ST}, f_X12_row_74 n x1 x4 sg = some (v, s) → Fr W sg s := by
  intro n
  induction n with
  | zero => intro _ _ _ _ _ h; rw [f_X12_row_74] at h; cases h
  | succ n ih =>
    intro x1 x4 sg v s h
    rw [f_X12_row_74] at h
    have F := Fr.rf W sg
    rcases ite_or h with h | h
    · obtain ⟨s7, hw, h⟩ := bd_some h
      replace F := F.tr (Fr_wrJ (hW _ (by unfold W_X12_row_74; omega)) hw)
      exact F.tr (ih h)
    · cases h; exact F
def W_X12_row (x : Nat) : Prop := x = 263 ∨ x = 264 ∨ x = 265 ∨ x = 294
theorem fr_X12_row {x1 : Int32} {x2 : Int32} {x3 : Int32} {σ : ST} {v : Int32} {s : ST} (h : f_X12_row x1 x2 x3 σ = some (v, s)) : Fr (W_X12_row ) σ s := by
  unfold f_X12_row at h
  have F := Fr.rf (W_X12_row ) σ
  obtain ⟨v2, s1, hp, h⟩ := bd2_some h
  replace F := F.tr (Fr.mono (fr_X12_isShelf hp) (fun x hx => by unfold W_X12_isShelf at hx; exact hx.elim))
  rcases ite_or h with h | h
  · obtain ⟨v15, s14, hp, h⟩ := bd2_some h
    replace F := F.tr (Fr.mono (fr_X12_no hp) (fun x hx => by unfold W_X12_no at hx; unfold W_X12_row; omega))
    cases h; exact F
  · rcases ite_or h with h | h
    · obtain ⟨v13, s12, hp, h⟩ := bd2_some h
      replace F := F.tr (Fr.mono (fr_X12_no hp) (fun x hx => by unfold W_X12_no at hx; unfold W_X12_row; omega))
      cases h; exact F
    · rcases ite_or h with h | h
      · obtain ⟨v4, s3, hp, h⟩ := bd2_some h
        replace F := F.tr (Fr.mono (fr_X12_no hp) (fun x hx => by unfold W_X12_no at hx; unfold W_X12_row; omega))
        cases h; exact F
      · rcases ite_or h with h | h
        · obtain ⟨v11, s10, hp, h⟩ := bd2_some h
          replace F := F.tr (Fr.mono (fr_X12_no hp) (fun x hx => by unfold W_X12_no at hx; unfold W_X12_row; omega))
          cases h; exact F
        · rcases ite_or h with h | h
          · obtain ⟨v9, s8, hp, h⟩ := bd2_some h
            replace F := F.tr (Fr.mono (fr_X12_no hp) (fun x hx => by unfold W_X12_no at hx; unfold W_X12_row; omega))
            cases h; exact F
          · obtain ⟨s5, hw, h⟩ := bd_some h
            replace F := F.tr (Fr_wrI (by unfold W_X12_row; omega) hw)
            obtain ⟨s6, hw, h⟩ := bd_some h
            replace F := F.tr (Fr_wrI (by unfold W_X12_row; omega) hw)
            refine F.tr (fr_X12_row_74 (fun x hx => by unfold W_X12_row_74 at hx; unfold W_X12_row; omega) FU h)
def W_X12_noRow (x : Nat) : Prop := False
theorem fr_X12_noRow {x1 : Int32} {σ : ST} {v : Int32} {s : ST} (h : f_X12_noRow x1 σ = some (v, s)) : Fr (W_X12_noRow ) σ s := by
  unfold f_X12_noRow at h
  have F := Fr.rf (W_X12_noRow ) σ
  obtain ⟨v2, s1, hp, h⟩ := bd2_some h
  replace F := F.tr (Fr.mono (fr_X12_isShelf hp) (fun x hx => by unfold W_X12_isShelf at hx; exact hx.elim))
  rcases ite_or h with h | h
  · cases h; exact F
  · obtain ⟨v3, -, h⟩ := bd_some h
    rcases ite_or h with h | h
    · cases h; exact F
    · obtain ⟨v5, s4, hp, h⟩ := bd2_some h
      replace F := F.tr (Fr.mono (fr_X12_isRow hp) (fun x hx => by unfold W_X12_isRow at hx; exact hx.elim))
      rcases ite_or h with h | h
      · cases h; exact F
      · cases h; exact F
def W_X12_set (x : Nat) : Prop := x = 265 ∨ x = 294
theorem fr_X12_set {x1 : Int32} {x2 : Int32} {y3 : Int64} {σ : ST} {v : Int32} {s : ST} (h : f_X12_set x1 x2 y3 σ = some (v, s)) : Fr (W_X12_set ) σ s := by
  unfold f_X12_set at h
  have F := Fr.rf (W_X12_set ) σ
  obtain ⟨v2, s1, hp, h⟩ := bd2_some h
  replace F := F.tr (Fr.mono (fr_X12_noRow hp) (fun x hx => by unfold W_X12_noRow at hx; exact hx.elim))
  rcases ite_or h with h | h
  · obtain ⟨v14, s13, hp, h⟩ := bd2_some h
    replace F := F.tr (Fr.mono (fr_X12_no hp) (fun x hx => by unfold W_X12_no at hx; unfold W_X12_set; omega))
    cases h; exact F
  · rcases ite_or h with h | h
    · obtain ⟨v4, s3, hp, h⟩ := bd2_some h
      replace F := F.tr (Fr.mono (fr_X12_no hp) (fun x hx => by unfold W_X12_no at hx; unfold W_X12_set; omega))
      cases h; exact F
    · obtain ⟨v5, -, h⟩ := bd_some h
      rcases ite_or h with h | h
      · obtain ⟨v6, -, h⟩ := bd_some h
        rcases ite_or h with h | h
        · obtain ⟨s10, hw, h⟩ := bd_some h
          replace F := F.tr (Fr_wrJ (by unfold W_X12_set; omega) hw)
          cases h; exact F
        · rcases ite_or h with h | h
          · obtain ⟨s9, hw, h⟩ := bd_some h
            replace F := F.tr (Fr_wrJ (by unfold W_X12_set; omega) hw)
            cases h; exact F
          · rcases ite_or h with h | h
            · obtain ⟨s8, hw, h⟩ := bd_some h
              replace F := F.tr (Fr_wrJ (by unfold W_X12_set; omega) hw)
              cases h; exact F
            · obtain ⟨s7, hw, h⟩ := bd_some h
              replace F := F.tr (Fr_wrJ (by unfold W_X12_set; omega) hw)
              cases h; exact F
      · obtain ⟨v12, s11, hp, h⟩ := bd2_some h
        replace F := F.tr (Fr.mono (fr_X12_no hp) (fun x hx => by unfold W_X12_no at hx; unfold W_X12_set; omega))
        cases h; exact F
def W_X12_copy_227 (x : Nat) : Prop := x = 265
theorem fr_X12_copy_227 {W : Nat → Prop} (hW : ∀ x, W_X12_copy_227 x → W x) : ∀ (n : Nat) {x1 : Int32} {x2 : Int32} {x3 : Int32} {x4 : Int32} {x5 : Int32} {x6 : Int32} {sg : ST} {v : Int32} {s : ST}, f_X12_copy_227 n x1 x2 x3 x4 x5 x6 sg = some (v, s) → Fr W sg s := by
  intro n
  induction n with
  | zero => intro _ _ _ _ _ _ _ _ _ h; rw [f_X12_copy_227] at h; cases h
  | succ n ih =>
    intro x1 x2 x3 x4 x5 x6 sg v s h
    rw [f_X12_copy_227] at h
    have F := Fr.rf W sg
    rcases ite_or h with h | h
    · obtain ⟨v29, -, h⟩ := bd_some h
      obtain ⟨s30, hw, h⟩ := bd_some h
      replace F := F.tr (Fr_wrJ (hW _ (by unfold W_X12_copy_227; omega)) hw)
      exact F.tr (ih h)
    · cases h; exact F
def W_X12_copy_224 (x : Nat) : Prop := x = 265
theorem fr_X12_copy_224 {W : Nat → Prop} (hW : ∀ x, W_X12_copy_224 x → W x) {x1 : Int32} {x2 : Int32} {x3 : Int32} {x4 : Int32} {x5 : Int32} {sg : ST} {v : Int32} {s : ST} (h : f_X12_copy_224 x1 x2 x3 x4 x5 sg = some (v, s)) : Fr W sg s := by
  unfold f_X12_copy_224 at h
  have F := Fr.rf W sg
  refine F.tr (fr_X12_copy_227 (fun x hx => hW x (by unfold W_X12_copy_227 at hx; unfold W_X12_copy_224; omega)) FU h)
def W_X12_copy_181 (x : Nat) : Prop := x = 265
theorem fr_X12_copy_181 {W : Nat → Prop} (hW : ∀ x, W_X12_copy_181 x → W x) : ∀ (n : Nat) {x1 : Int32} {x2 : Int32} {x3 : Int32} {x4 : Int32} {x6 : Int32} {sg : ST} {v : Int32} {s : ST}, f_X12_copy_181 n x1 x2 x3 x4 x6 sg = some (v, s) → Fr W sg s := by
  intro n
  induction n with
  | zero => intro _ _ _ _ _ _ _ _ h; rw [f_X12_copy_181] at h; cases h
  | succ n ih =>
    intro x1 x2 x3 x4 x6 sg v s h
    rw [f_X12_copy_181] at h
    have F := Fr.rf W sg
    rcases ite_or h with h | h
    · cases h; exact F
    · obtain ⟨v31, -, h⟩ := bd_some h
      obtain ⟨s32, hw, h⟩ := bd_some h
      replace F := F.tr (Fr_wrJ (hW _ (by unfold W_X12_copy_181; omega)) hw)
      exact F.tr (ih h)
def W_X12_copy_76 (x : Nat) : Prop := x = 265 ∨ x = 294
theorem fr_X12_copy_76 {W : Nat → Prop} (hW : ∀ x, W_X12_copy_76 x → W x) {x1 : Int32} {x2 : Int32} {x3 : Int32} {x4 : Int32} {x5 : Int32} {sg : ST} {v : Int32} {s : ST} (h : f_X12_copy_76 x1 x2 x3 x4 x5 sg = some (v, s)) : Fr W sg s := by
  unfold f_X12_copy_76 at h
  have F := Fr.rf W sg
  obtain ⟨v17, -, h⟩ := bd_some h
  rcases ite_or h with h | h
  · obtain ⟨v19, s18, hp, h⟩ := bd2_some h
    replace F := F.tr (Fr.mono (fr_X12_no hp) (fun x hx => hW x (by unfold W_X12_no at hx; unfold W_X12_copy_76; omega)))
    cases h; exact F
  · obtain ⟨v20, -, h⟩ := bd_some h
    rcases ite_or h with h | h
    · obtain ⟨v38, s37, hp, h⟩ := bd2_some h
      replace F := F.tr (Fr.mono (fr_X12_no hp) (fun x hx => hW x (by unfold W_X12_no at hx; unfold W_X12_copy_76; omega)))
      cases h; exact F
    · rcases ite_or h with h | h
      · obtain ⟨v36, s35, hp, h⟩ := bd2_some h
        replace F := F.tr (Fr.mono (fr_X12_no hp) (fun x hx => hW x (by unfold W_X12_no at hx; unfold W_X12_copy_76; omega)))
        cases h; exact F
      · rcases ite_or h with h | h
        · obtain ⟨v22, s21, hp, h⟩ := bd2_some h
          replace F := F.tr (Fr.mono (fr_X12_no hp) (fun x hx => hW x (by unfold W_X12_no at hx; unfold W_X12_copy_76; omega)))
          cases h; exact F
        · rcases ite_or h with h | h
          · obtain ⟨v24, s23, hp, h⟩ := bd2_some h
            replace F := F.tr (Fr.mono (fr_X12_no hp) (fun x hx => hW x (by unfold W_X12_no at hx; unfold W_X12_copy_76; omega)))
            cases h; exact F
          · obtain ⟨v25, -, h⟩ := bd_some h
            rcases ite_or h with h | h
            · obtain ⟨v27, s26, hp, h⟩ := bd2_some h
              replace F := F.tr (Fr.mono (fr_X12_no hp) (fun x hx => hW x (by unfold W_X12_no at hx; unfold W_X12_copy_76; omega)))
              cases h; exact F
            · obtain ⟨v28, -, h⟩ := bd_some h
              rcases ite_or h with h | h
              · obtain ⟨v34, s33, hp, h⟩ := bd2_some h
                replace F := F.tr (Fr.mono (fr_X12_no hp) (fun x hx => hW x (by unfold W_X12_no at hx; unfold W_X12_copy_76; omega)))
                cases h; exact F
              · rcases ite_or h with h | h
                · rcases ite_or h with h | h
                  · refine F.tr (fr_X12_copy_181 (fun x hx => hW x (by unfold W_X12_copy_181 at hx; unfold W_X12_copy_76; omega)) FU h)
                  · refine F.tr (fr_X12_copy_224 (fun x hx => hW x (by unfold W_X12_copy_224 at hx; unfold W_X12_copy_76; omega)) h)
                · refine F.tr (fr_X12_copy_224 (fun x hx => hW x (by unfold W_X12_copy_224 at hx; unfold W_X12_copy_76; omega)) h)
def W_X12_copy (x : Nat) : Prop := x = 265 ∨ x = 294
theorem fr_X12_copy {x1 : Int32} {x2 : Int32} {x3 : Int32} {x4 : Int32} {x5 : Int32} {σ : ST} {v : Int32} {s : ST} (h : f_X12_copy x1 x2 x3 x4 x5 σ = some (v, s)) : Fr (W_X12_copy ) σ s := by
  unfold f_X12_copy at h
  have F := Fr.rf (W_X12_copy ) σ
  obtain ⟨v2, s1, hp, h⟩ := bd2_some h
  replace F := F.tr (Fr.mono (fr_X12_isShelf hp) (fun x hx => by unfold W_X12_isShelf at hx; exact hx.elim))
  rcases ite_or h with h | h
  · obtain ⟨v4, s3, hp, h⟩ := bd2_some h
    replace F := F.tr (Fr.mono (fr_X12_no hp) (fun x hx => by unfold W_X12_no at hx; unfold W_X12_copy; omega))
    cases h; exact F
  · obtain ⟨v6, s5, hp, h⟩ := bd2_some h
    replace F := F.tr (Fr.mono (fr_X12_isShelf hp) (fun x hx => by unfold W_X12_isShelf at hx; exact hx.elim))
    rcases ite_or h with h | h
    · obtain ⟨v46, s45, hp, h⟩ := bd2_some h
      replace F := F.tr (Fr.mono (fr_X12_no hp) (fun x hx => by unfold W_X12_no at hx; unfold W_X12_copy; omega))
      cases h; exact F
    · obtain ⟨v8, s7, hp, h⟩ := bd2_some h
      replace F := F.tr (Fr.mono (fr_X12_holdsPiece hp) (fun x hx => by unfold W_X12_holdsPiece at hx; exact hx.elim))
      rcases ite_or h with h | h
      · obtain ⟨v12, s11, hp, h⟩ := bd2_some h
        replace F := F.tr (Fr.mono (fr_X12_holdsPiece hp) (fun x hx => by unfold W_X12_holdsPiece at hx; exact hx.elim))
        rcases ite_or h with h | h
        · obtain ⟨v16, s15, hp, h⟩ := bd2_some h
          replace F := F.tr (Fr.mono (fr_X12_isRow hp) (fun x hx => by unfold W_X12_isRow at hx; exact hx.elim))
          rcases ite_or h with h | h
          · refine F.tr (fr_X12_copy_76 (fun x hx => by unfold W_X12_copy_76 at hx; unfold W_X12_copy; omega) h)
          · obtain ⟨v40, s39, hp, h⟩ := bd2_some h
            replace F := F.tr (Fr.mono (fr_X12_isRow hp) (fun x hx => by unfold W_X12_isRow at hx; exact hx.elim))
            rcases ite_or h with h | h
            · refine F.tr (fr_X12_copy_76 (fun x hx => by unfold W_X12_copy_76 at hx; unfold W_X12_copy; omega) h)
            · obtain ⟨v41, -, h⟩ := bd_some h
              obtain ⟨v42, -, h⟩ := bd_some h
              rcases ite_or h with h | h
              · refine F.tr (fr_X12_copy_76 (fun x hx => by unfold W_X12_copy_76 at hx; unfold W_X12_copy; omega) h)
              · obtain ⟨v44, s43, hp, h⟩ := bd2_some h
                replace F := F.tr (Fr.mono (fr_X12_no hp) (fun x hx => by unfold W_X12_no at hx; unfold W_X12_copy; omega))
                cases h; exact F
        · obtain ⟨v14, s13, hp, h⟩ := bd2_some h
          replace F := F.tr (Fr.mono (fr_X12_no hp) (fun x hx => by unfold W_X12_no at hx; unfold W_X12_copy; omega))
          cases h; exact F
      · obtain ⟨v10, s9, hp, h⟩ := bd2_some h
        replace F := F.tr (Fr.mono (fr_X12_no hp) (fun x hx => by unfold W_X12_no at hx; unfold W_X12_copy; omega))
        cases h; exact F
def W_X12_element (x : Nat) : Prop := False
theorem fr_X12_element {x1 : Int32} {x2 : Int32} {σ : ST} {v : Int64} {s : ST} (h : f_X12_element x1 x2 σ = some (v, s)) : Fr (W_X12_element ) σ s := by
  unfold f_X12_element at h
  have F := Fr.rf (W_X12_element ) σ
  obtain ⟨v2, s1, hp, h⟩ := bd2_some h
  replace F := F.tr (Fr.mono (fr_X12_isShelf hp) (fun x hx => by unfold W_X12_isShelf at hx; exact hx.elim))
  rcases ite_or h with h | h
  · cases h; exact F
  · obtain ⟨v4, s3, hp, h⟩ := bd2_some h
    replace F := F.tr (Fr.mono (fr_X12_isRow hp) (fun x hx => by unfold W_X12_isRow at hx; exact hx.elim))
    rcases ite_or h with h | h
    · cases h; exact F
    · rcases ite_or h with h | h
      · cases h; exact F
      · obtain ⟨v5, -, h⟩ := bd_some h
        rcases ite_or h with h | h
        · obtain ⟨v6, -, h⟩ := bd_some h
          cases h; exact F
        · cases h; exact F
def W_X12_show_27 (x : Nat) : Prop := x = 263
theorem fr_X12_show_27 {W : Nat → Prop} (hW : ∀ x, W_X12_show_27 x → W x) {x1 : Int32} {x2 : Int32} {sg : ST} {v : Int32} {s : ST} (h : f_X12_show_27 x1 x2 sg = some (v, s)) : Fr W sg s := by
  unfold f_X12_show_27 at h
  have F := Fr.rf W sg
  obtain ⟨s5, hw, h⟩ := bd_some h
  replace F := F.tr (Fr_wrI (hW _ (by unfold W_X12_show_27; omega)) hw)
  rcases ite_or h with h | h
  · cases h; exact F
  · cases h; exact F
def W_X12_show (x : Nat) : Prop := x = 263 ∨ x = 294
theorem fr_X12_show {x1 : Int32} {x2 : Int32} {σ : ST} {v : Int32} {s : ST} (h : f_X12_show x1 x2 σ = some (v, s)) : Fr (W_X12_show ) σ s := by
  unfold f_X12_show at h
  have F := Fr.rf (W_X12_show ) σ
  obtain ⟨v2, s1, hp, h⟩ := bd2_some h
  replace F := F.tr (Fr.mono (fr_X12_isShelf hp) (fun x hx => by unfold W_X12_isShelf at hx; exact hx.elim))
  rcases ite_or h with h | h
  · obtain ⟨v4, s3, hp, h⟩ := bd2_some h
    replace F := F.tr (Fr.mono (fr_X12_no hp) (fun x hx => by unfold W_X12_no at hx; unfold W_X12_show; omega))
    cases h; exact F
  · rcases ite_or h with h | h
    · refine F.tr (fr_X12_show_27 (fun x hx => by unfold W_X12_show_27 at hx; unfold W_X12_show; omega) h)
    · obtain ⟨v7, s6, hp, h⟩ := bd2_some h
      replace F := F.tr (Fr.mono (fr_X12_isPiece hp) (fun x hx => by unfold W_X12_isPiece at hx; exact hx.elim))
      rcases ite_or h with h | h
      · obtain ⟨v9, s8, hp, h⟩ := bd2_some h
        replace F := F.tr (Fr.mono (fr_X12_no hp) (fun x hx => by unfold W_X12_no at hx; unfold W_X12_show; omega))
        cases h; exact F
      · refine F.tr (fr_X12_show_27 (fun x hx => by unfold W_X12_show_27 at hx; unfold W_X12_show; omega) h)
def W_X12_holds (x : Nat) : Prop := False
theorem fr_X12_holds {x1 : Int32} {σ : ST} {v : Int32} {s : ST} (h : f_X12_holds x1 σ = some (v, s)) : Fr (W_X12_holds ) σ s := by
  unfold f_X12_holds at h
  have F := Fr.rf (W_X12_holds ) σ
  obtain ⟨v2, s1, hp, h⟩ := bd2_some h
  replace F := F.tr (Fr.mono (fr_X12_isShelf hp) (fun x hx => by unfold W_X12_isShelf at hx; exact hx.elim))
  rcases ite_or h with h | h
  · cases h; exact F
  · obtain ⟨v3, -, h⟩ := bd_some h
    cases h; exact F
def W_X12_says_97 (x : Nat) : Prop := False
theorem fr_X12_says_97 {W : Nat → Prop} (hW : ∀ x, W_X12_says_97 x → W x) {x2 : Int32} {x3 : Int32} {sg : ST} {v : Int32} {s : ST} (h : f_X12_says_97 x2 x3 sg = some (v, s)) : Fr W sg s := by
  unfold f_X12_says_97 at h
  have F := Fr.rf W sg
  rcases ite_or h with h | h
  · obtain ⟨v13, -, h⟩ := bd_some h
    cases h; exact F
  · rcases ite_or h with h | h
    · obtain ⟨v12, -, h⟩ := bd_some h
      cases h; exact F
    · obtain ⟨v11, -, h⟩ := bd_some h
      cases h; exact F
def W_X12_says (x : Nat) : Prop := x = 294
theorem fr_X12_says {x1 : Int32} {x2 : Int32} {σ : ST} {v : Int32} {s : ST} (h : f_X12_says x1 x2 σ = some (v, s)) : Fr (W_X12_says ) σ s := by
  unfold f_X12_says at h
  have F := Fr.rf (W_X12_says ) σ
  obtain ⟨v2, s1, hp, h⟩ := bd2_some h
  replace F := F.tr (Fr.mono (fr_X12_isShelf hp) (fun x hx => by unfold W_X12_isShelf at hx; exact hx.elim))
  rcases ite_or h with h | h
  · obtain ⟨v4, s3, hp, h⟩ := bd2_some h
    replace F := F.tr (Fr.mono (fr_X12_no hp) (fun x hx => by unfold W_X12_no at hx; unfold W_X12_says; omega))
    cases h; exact F
  · rcases ite_or h with h | h
    · obtain ⟨v6, s5, hp, h⟩ := bd2_some h
      replace F := F.tr (Fr.mono (fr_X12_no hp) (fun x hx => by unfold W_X12_no at hx; unfold W_X12_says; omega))
      cases h; exact F
    · rcases ite_or h with h | h
      · obtain ⟨v25, s24, hp, h⟩ := bd2_some h
        replace F := F.tr (Fr.mono (fr_X12_no hp) (fun x hx => by unfold W_X12_no at hx; unfold W_X12_says; omega))
        cases h; exact F
      · obtain ⟨v8, s7, hp, h⟩ := bd2_some h
        replace F := F.tr (Fr.mono (fr_X12_isRow hp) (fun x hx => by unfold W_X12_isRow at hx; exact hx.elim))
        rcases ite_or h with h | h
        · obtain ⟨v9, -, h⟩ := bd_some h
          rcases ite_or h with h | h
          · obtain ⟨v21, s20, hp, h⟩ := bd2_some h
            replace F := F.tr (Fr.mono (fr_X12_no hp) (fun x hx => by unfold W_X12_no at hx; unfold W_X12_says; omega))
            cases h; exact F
          · obtain ⟨v10, -, h⟩ := bd_some h
            rcases ite_or h with h | h
            · refine F.tr (fr_X12_says_97 (fun x hx => by unfold W_X12_says_97 at hx; unfold W_X12_says; omega) h)
            · obtain ⟨v14, -, h⟩ := bd_some h
              rcases ite_or h with h | h
              · refine F.tr (fr_X12_says_97 (fun x hx => by unfold W_X12_says_97 at hx; unfold W_X12_says; omega) h)
              · rcases ite_or h with h | h
                · obtain ⟨v17, -, h⟩ := bd_some h
                  rcases ite_or h with h | h
                  · refine F.tr (fr_X12_says_97 (fun x hx => by unfold W_X12_says_97 at hx; unfold W_X12_says; omega) h)
                  · obtain ⟨v19, s18, hp, h⟩ := bd2_some h
                    replace F := F.tr (Fr.mono (fr_X12_no hp) (fun x hx => by unfold W_X12_no at hx; unfold W_X12_says; omega))
                    cases h; exact F
                · obtain ⟨v16, s15, hp, h⟩ := bd2_some h
                  replace F := F.tr (Fr.mono (fr_X12_no hp) (fun x hx => by unfold W_X12_no at hx; unfold W_X12_says; omega))
                  cases h; exact F
        · obtain ⟨v23, s22, hp, h⟩ := bd2_some h
          replace F := F.tr (Fr.mono (fr_X12_no hp) (fun x hx => by unfold W_X12_no at hx; unfold W_X12_says; omega))
          cases h; exact F
def W_X12_letter (x : Nat) : Prop := False
theorem fr_X12_letter {x1 : Int32} {x2 : Int32} {σ : ST} {v : Int32} {s : ST} (h : f_X12_letter x1 x2 σ = some (v, s)) : Fr (W_X12_letter ) σ s := by
  unfold f_X12_letter at h
  have F := Fr.rf (W_X12_letter ) σ
  obtain ⟨v1, -, h⟩ := bd_some h
  rcases ite_or h with h | h
  · obtain ⟨v2, -, h⟩ := bd_some h
    cases h; exact F
  · cases h; exact F
def W_X12_isDigitOf (x : Nat) : Prop := False
theorem fr_X12_isDigitOf {x1 : Int32} {x2 : Int32} {σ : ST} {v : Int32} {s : ST} (h : f_X12_isDigitOf x1 x2 σ = some (v, s)) : Fr (W_X12_isDigitOf ) σ s := by
  unfold f_X12_isDigitOf at h
  have F := Fr.rf (W_X12_isDigitOf ) σ
  rcases ite_or h with h | h
  · cases h; exact F
  · rcases ite_or h with h | h
    · obtain ⟨v2, s1, hp, h⟩ := bd2_some h
      replace F := F.tr (Fr.mono (fr_X12_isThing hp) (fun x hx => by unfold W_X12_isThing at hx; exact hx.elim))
      rcases ite_or h with h | h
      · cases h; exact F
      · rcases ite_or h with h | h
        · cases h; exact F
        · obtain ⟨v3, -, h⟩ := bd_some h
          rcases ite_or h with h | h
          · cases h; exact F
          · cases h; exact F
    · cases h; exact F
def W_X12_overCondition_128 (x : Nat) : Prop := x = 247
theorem fr_X12_overCondition_128 {k0 : Int32 → ST → Option (Int32 × ST)} {W : Nat → Prop} (hW : ∀ x, W_X12_overCondition_128 x → W x) (hk0 : ∀ {u0 : Int32} {sg : ST} {v : Int32} {s : ST}, k0 u0 sg = some (v, s) → Fr W sg s) {x1 : Int32} {sg : ST} {v : Int32} {s : ST} (h : f_X12_overCondition_128 k0 x1 sg = some (v, s)) : Fr W sg s := by
  unfold f_X12_overCondition_128 at h
  have F := Fr.rf W sg
  obtain ⟨v11, s10, hp, h⟩ := bd2_some h
  replace F := F.tr (Fr.mono (fr_X12_letter hp) (fun x hx => by unfold W_X12_letter at hx; exact hx.elim))
  rcases ite_or h with h | h
  · obtain ⟨s12, hw, h⟩ := bd_some h
    replace F := F.tr (Fr_pfI (hW _ (by unfold W_X12_overCondition_128; omega)) hw)
    exact F.tr (hk0 h)
  · obtain ⟨v14, s13, hp, h⟩ := bd2_some h
    replace F := F.tr (Fr.mono (fr_X12_letter hp) (fun x hx => by unfold W_X12_letter at hx; exact hx.elim))
    rcases ite_or h with h | h
    · obtain ⟨s15, hw, h⟩ := bd_some h
      replace F := F.tr (Fr_pfI (hW _ (by unfold W_X12_overCondition_128; omega)) hw)
      exact F.tr (hk0 h)
    · cases h; exact F
def W_X12_overCondition_24 (x : Nat) : Prop := x = 247
theorem fr_X12_overCondition_24 {k0 : Int32 → ST → Option (Int32 × ST)} {W : Nat → Prop} (hW : ∀ x, W_X12_overCondition_24 x → W x) (hk0 : ∀ {u0 : Int32} {sg : ST} {v : Int32} {s : ST}, k0 u0 sg = some (v, s) → Fr W sg s) {x1 : Int32} {sg : ST} {v : Int32} {s : ST} (h : f_X12_overCondition_24 k0 x1 sg = some (v, s)) : Fr W sg s := by
  unfold f_X12_overCondition_24 at h
  have F := Fr.rf W sg
  obtain ⟨v4, s3, hp, h⟩ := bd2_some h
  replace F := F.tr (Fr.mono (fr_X12_letter hp) (fun x hx => by unfold W_X12_letter at hx; exact hx.elim))
  obtain ⟨v6, s5, hp, h⟩ := bd2_some h
  replace F := F.tr (Fr.mono (fr_X12_isDigitOf hp) (fun x hx => by unfold W_X12_isDigitOf at hx; exact hx.elim))
  rcases ite_or h with h | h
  · cases h; exact F
  · obtain ⟨s7, hw, h⟩ := bd_some h
    replace F := F.tr (Fr_pfI (hW _ (by unfold W_X12_overCondition_24; omega)) hw)
    obtain ⟨v9, s8, hp, h⟩ := bd2_some h
    replace F := F.tr (Fr.mono (fr_X12_isDigitOf hp) (fun x hx => by unfold W_X12_isDigitOf at hx; exact hx.elim))
    rcases ite_or h with h | h
    · refine F.tr (fr_X12_overCondition_128 (fun x hx => hW x (by unfold W_X12_overCondition_128 at hx; unfold W_X12_overCondition_24; omega)) (fun h => hk0 h) h)
    · obtain ⟨v17, s16, hp, h⟩ := bd2_some h
      replace F := F.tr (Fr.mono (fr_X12_letter hp) (fun x hx => by unfold W_X12_letter at hx; exact hx.elim))
      rcases ite_or h with h | h
      · obtain ⟨s18, hw, h⟩ := bd_some h
        replace F := F.tr (Fr_pfI (hW _ (by unfold W_X12_overCondition_24; omega)) hw)
        obtain ⟨v20, s19, hp, h⟩ := bd2_some h
        replace F := F.tr (Fr.mono (fr_X12_letter hp) (fun x hx => by unfold W_X12_letter at hx; exact hx.elim))
        rcases ite_or h with h | h
        · cases h; exact F
        · obtain ⟨v22, s21, hp, h⟩ := bd2_some h
          replace F := F.tr (Fr.mono (fr_X12_letter hp) (fun x hx => by unfold W_X12_letter at hx; exact hx.elim))
          rcases ite_or h with h | h
          · cases h; exact F
          · obtain ⟨s23, hw, h⟩ := bd_some h
            replace F := F.tr (Fr_pfI (hW _ (by unfold W_X12_overCondition_24; omega)) hw)
            refine F.tr (fr_X12_overCondition_128 (fun x hx => hW x (by unfold W_X12_overCondition_128 at hx; unfold W_X12_overCondition_24; omega)) (fun h => hk0 h) h)
      · refine F.tr (fr_X12_overCondition_128 (fun x hx => hW x (by unfold W_X12_overCondition_128 at hx; unfold W_X12_overCondition_24; omega)) (fun h => hk0 h) h)
def W_X12_overCondition_0 (x : Nat) : Prop := x = 247
theorem fr_X12_overCondition_0 {W : Nat → Prop} (hW : ∀ x, W_X12_overCondition_0 x → W x) : ∀ (n : Nat) {x1 : Int32} {sg : ST} {v : Int32} {s : ST}, f_X12_overCondition_0 n x1 sg = some (v, s) → Fr W sg s := by
  intro n
  induction n with
  | zero => intro _ _ _ _ h; rw [f_X12_overCondition_0] at h; cases h
  | succ n ih =>
    intro x1 sg v s h
    rw [f_X12_overCondition_0] at h
    have F := Fr.rf W sg
    obtain ⟨v2, s1, hp, h⟩ := bd2_some h
    replace F := F.tr (Fr.mono (fr_X12_letter hp) (fun x hx => by unfold W_X12_letter at hx; exact hx.elim))
    rcases ite_or h with h | h
    · obtain ⟨s24, hw, h⟩ := bd_some h
      replace F := F.tr (Fr_pfI (hW _ (by unfold W_X12_overCondition_0; omega)) hw)
      refine F.tr (fr_X12_overCondition_24 (fun x hx => hW x (by unfold W_X12_overCondition_24 at hx; unfold W_X12_overCondition_0; omega)) (fun h => ih h) h)
    · refine F.tr (fr_X12_overCondition_24 (fun x hx => hW x (by unfold W_X12_overCondition_24 at hx; unfold W_X12_overCondition_0; omega)) (fun h => ih h) h)
def W_X12_overCondition (x : Nat) : Prop := x = 247
theorem fr_X12_overCondition {x1 : Int32} {σ : ST} {v : Int32} {s : ST} (h : f_X12_overCondition x1 σ = some (v, s)) : Fr (W_X12_overCondition ) σ s := by
  unfold f_X12_overCondition at h
  have F := Fr.rf (W_X12_overCondition ) σ
  refine F.tr (fr_X12_overCondition_0 (fun x hx => by unfold W_X12_overCondition_0 at hx; unfold W_X12_overCondition; omega) FU h)
def W_X12_conditionFault (x : Nat) : Prop := x = 247
theorem fr_X12_conditionFault {x1 : Int32} {σ : ST} {v : Int32} {s : ST} (h : f_X12_conditionFault x1 σ = some (v, s)) : Fr (W_X12_conditionFault ) σ s := by
  unfold f_X12_conditionFault at h
  have F := Fr.rf (W_X12_conditionFault ) σ
  obtain ⟨s1, hw, h⟩ := bd_some h
  replace F := F.tr (Fr_pfI (by unfold W_X12_conditionFault; omega) hw)
  obtain ⟨v3, s2, hp, h⟩ := bd2_some h
  replace F := F.tr (Fr.mono (fr_X12_overCondition hp) (fun x hx => by unfold W_X12_overCondition at hx; unfold W_X12_conditionFault; omega))
  rcases ite_or h with h | h
  · cases h; exact F
  · obtain ⟨v4, -, h⟩ := bd_some h
    rcases ite_or h with h | h
    · cases h; exact F
    · cases h; exact F
def W_X12_lawFault_137 (x : Nat) : Prop := x = 247
theorem fr_X12_lawFault_137 {k60 : Int32 → Int32 → ST → Option (Int32 × ST)} {W : Nat → Prop} (hW : ∀ x, W_X12_lawFault_137 x → W x) (hk60 : ∀ {u0 : Int32} {u1 : Int32} {sg : ST} {v : Int32} {s : ST}, k60 u0 u1 sg = some (v, s) → Fr W sg s) {x1 : Int32} {x2 : Int32} {z1 : Int32} {z2 : Int32} {sg : ST} {v : Int32} {s : ST} (h : f_X12_lawFault_137 k60 x1 x2 z1 z2 sg = some (v, s)) : Fr W sg s := by
  unfold f_X12_lawFault_137 at h
  have F := Fr.rf W sg
  obtain ⟨v14, s13, hp, h⟩ := bd2_some h
  replace F := F.tr (Fr.mono (fr_X12_isDigitOf hp) (fun x hx => by unfold W_X12_isDigitOf at hx; exact hx.elim))
  rcases ite_or h with h | h
  · cases h; exact F
  · obtain ⟨s15, hw, h⟩ := bd_some h
    replace F := F.tr (Fr_pfI (hW _ (by unfold W_X12_lawFault_137; omega)) hw)
    exact F.tr (hk60 h)
def W_X12_lawFault_106 (x : Nat) : Prop := x = 247
theorem fr_X12_lawFault_106 {k60 : Int32 → Int32 → ST → Option (Int32 × ST)} {W : Nat → Prop} (hW : ∀ x, W_X12_lawFault_106 x → W x) (hk60 : ∀ {u0 : Int32} {u1 : Int32} {sg : ST} {v : Int32} {s : ST}, k60 u0 u1 sg = some (v, s) → Fr W sg s) {x1 : Int32} {x2 : Int32} {x3 : Int32} {sg : ST} {v : Int32} {s : ST} (h : f_X12_lawFault_106 k60 x1 x2 x3 sg = some (v, s)) : Fr W sg s := by
  unfold f_X12_lawFault_106 at h
  have F := Fr.rf W sg
  obtain ⟨s10, hw, h⟩ := bd_some h
  replace F := F.tr (Fr_pfI (hW _ (by unfold W_X12_lawFault_106; omega)) hw)
  obtain ⟨v12, s11, hp, h⟩ := bd2_some h
  replace F := F.tr (Fr.mono (fr_X12_letter hp) (fun x hx => by unfold W_X12_letter at hx; exact hx.elim))
  rcases ite_or h with h | h
  · refine F.tr (fr_X12_lawFault_137 (fun x hx => hW x (by unfold W_X12_lawFault_137 at hx; unfold W_X12_lawFault_106; omega)) (fun h => hk60 h) h)
  · refine F.tr (fr_X12_lawFault_137 (fun x hx => hW x (by unfold W_X12_lawFault_137 at hx; unfold W_X12_lawFault_106; omega)) (fun h => hk60 h) h)
def W_X12_lawFault_60 (x : Nat) : Prop := x = 247
theorem fr_X12_lawFault_60 {k164 : Int32 → ST → Option (Int32 × ST)} {W : Nat → Prop} (hW : ∀ x, W_X12_lawFault_60 x → W x) (hk164 : ∀ {u0 : Int32} {sg : ST} {v : Int32} {s : ST}, k164 u0 sg = some (v, s) → Fr W sg s) : ∀ (n : Nat) {x1 : Int32} {x2 : Int32} {sg : ST} {v : Int32} {s : ST}, f_X12_lawFault_60 k164 n x1 x2 sg = some (v, s) → Fr W sg s := by
  intro n
  induction n with
  | zero => intro _ _ _ _ _ h; rw [f_X12_lawFault_60] at h; cases h
  | succ n ih =>
    intro x1 x2 sg v s h
    rw [f_X12_lawFault_60] at h
    have F := Fr.rf W sg
    obtain ⟨v7, -, h⟩ := bd_some h
    rcases ite_or h with h | h
    · obtain ⟨v9, s8, hp, h⟩ := bd2_some h
      replace F := F.tr (Fr.mono (fr_X12_letter hp) (fun x hx => by unfold W_X12_letter at hx; exact hx.elim))
      rcases ite_or h with h | h
      · refine F.tr (fr_X12_lawFault_106 (fun x hx => hW x (by unfold W_X12_lawFault_106 at hx; unfold W_X12_lawFault_60; omega)) (fun h => ih h) h)
      · rcases ite_or h with h | h
        · refine F.tr (fr_X12_lawFault_106 (fun x hx => hW x (by unfold W_X12_lawFault_106 at hx; unfold W_X12_lawFault_60; omega)) (fun h => ih h) h)
        · rcases ite_or h with h | h
          · refine F.tr (fr_X12_lawFault_106 (fun x hx => hW x (by unfold W_X12_lawFault_106 at hx; unfold W_X12_lawFault_60; omega)) (fun h => ih h) h)
          · cases h; exact F
    · exact F.tr (hk164 h)
def W_X12_lawFault_29 (x : Nat) : Prop := x = 247
theorem fr_X12_lawFault_29 {W : Nat → Prop} (hW : ∀ x, W_X12_lawFault_29 x → W x) {x1 : Int32} {sg : ST} {v : Int32} {s : ST} (h : f_X12_lawFault_29 x1 sg = some (v, s)) : Fr W sg s := by
  unfold f_X12_lawFault_29 at h
  have F := Fr.rf W sg
  obtain ⟨v5, s4, hp, h⟩ := bd2_some h
  replace F := F.tr (Fr.mono (fr_X12_letter hp) (fun x hx => by unfold W_X12_letter at hx; exact hx.elim))
  rcases ite_or h with h | h
  · obtain ⟨s6, hw, h⟩ := bd_some h
    replace F := F.tr (Fr_pfI (hW _ (by unfold W_X12_lawFault_29; omega)) hw)
    refine F.tr (fr_X12_lawFault_60 (fun x hx => hW x (by unfold W_X12_lawFault_60 at hx; unfold W_X12_lawFault_29; omega)) ?_ FU h)
    · intro x2_16 s17 _ _ h
      have F := Fr.rf W s17
      rcases ite_or h with h | h
      · cases h; exact F
      · cases h; exact F
  · cases h; exact F
def W_X12_lawFault (x : Nat) : Prop := x = 247
theorem fr_X12_lawFault {x1 : Int32} {σ : ST} {v : Int32} {s : ST} (h : f_X12_lawFault x1 σ = some (v, s)) : Fr (W_X12_lawFault ) σ s := by
  unfold f_X12_lawFault at h
  have F := Fr.rf (W_X12_lawFault ) σ
  obtain ⟨s1, hw, h⟩ := bd_some h
  replace F := F.tr (Fr_pfI (by unfold W_X12_lawFault; omega) hw)
  obtain ⟨v3, s2, hp, h⟩ := bd2_some h
  replace F := F.tr (Fr.mono (fr_X12_letter hp) (fun x hx => by unfold W_X12_letter at hx; exact hx.elim))
  rcases ite_or h with h | h
  · refine F.tr (fr_X12_lawFault_29 (fun x hx => by unfold W_X12_lawFault_29 at hx; unfold W_X12_lawFault; omega) h)
  · obtain ⟨v19, s18, hp, h⟩ := bd2_some h
    replace F := F.tr (Fr.mono (fr_X12_overCondition hp) (fun x hx => by unfold W_X12_overCondition at hx; unfold W_X12_lawFault; omega))
    rcases ite_or h with h | h
    · cases h; exact F
    · refine F.tr (fr_X12_lawFault_29 (fun x hx => by unfold W_X12_lawFault_29 at hx; unfold W_X12_lawFault; omega) h)
def W_X12_many_4 (x : Nat) : Prop := False
theorem fr_X12_many_4 {W : Nat → Prop} (hW : ∀ x, W_X12_many_4 x → W x) : ∀ (n : Nat) {x1 : Int32} {x2 : Int32} {x3 : Int32} {sg : ST} {v : Int32} {s : ST}, f_X12_many_4 n x1 x2 x3 sg = some (v, s) → Fr W sg s := by
  intro n
  induction n with
  | zero => intro _ _ _ _ _ _ h; rw [f_X12_many_4] at h; cases h
  | succ n ih =>
    intro x1 x2 x3 sg v s h
    rw [f_X12_many_4] at h
    have F := Fr.rf W sg
    rcases ite_or h with h | h
    · obtain ⟨v1, -, h⟩ := bd_some h
      rcases ite_or h with h | h
      · exact F.tr (ih h)
      · exact F.tr (ih h)
    · cases h; exact F
def W_X12_many (x : Nat) : Prop := False
theorem fr_X12_many {x1 : Int32} {σ : ST} {v : Int32} {s : ST} (h : f_X12_many x1 σ = some (v, s)) : Fr (W_X12_many ) σ s := by
  unfold f_X12_many at h
  have F := Fr.rf (W_X12_many ) σ
  refine F.tr (fr_X12_many_4 (fun x hx => by unfold W_X12_many_4 at hx; unfold W_X12_many; omega) FU h)
def W_X12_thing_130 (x : Nat) : Prop := x = 250
theorem fr_X12_thing_130 {k167 : Int32 → ST → Option (Int32 × ST)} {W : Nat → Prop} (hW : ∀ x, W_X12_thing_130 x → W x) (hk167 : ∀ {u0 : Int32} {sg : ST} {v : Int32} {s : ST}, k167 u0 sg = some (v, s) → Fr W sg s) : ∀ (n : Nat) {x1 : Int32} {x2 : Int32} {x4 : Int32} {sg : ST} {v : Int32} {s : ST}, f_X12_thing_130 k167 n x1 x2 x4 sg = some (v, s) → Fr W sg s := by
  intro n
  induction n with
  | zero => intro _ _ _ _ _ _ h; rw [f_X12_thing_130] at h; cases h
  | succ n ih =>
    intro x1 x2 x4 sg v s h
    rw [f_X12_thing_130] at h
    have F := Fr.rf W sg
    rcases ite_or h with h | h
    · obtain ⟨v9, s8, hp, h⟩ := bd2_some h
      replace F := F.tr (Fr.mono (fr_X12_letter hp) (fun x hx => by unfold W_X12_letter at hx; exact hx.elim))
      obtain ⟨s10, hw, h⟩ := bd_some h
      replace F := F.tr (Fr_wrI (hW _ (by unfold W_X12_thing_130; omega)) hw)
      exact F.tr (ih h)
    · exact F.tr (hk167 h)
def W_X12_thing_101 (x : Nat) : Prop := x = 247 ∨ x = 248 ∨ x = 249 ∨ x = 250 ∨ x = 294
theorem fr_X12_thing_101 {W : Nat → Prop} (hW : ∀ x, W_X12_thing_101 x → W x) {x1 : Int32} {x2 : Int32} {z0 : Int32} {sg : ST} {v : Int32} {s : ST} (h : f_X12_thing_101 x1 x2 z0 sg = some (v, s)) : Fr W sg s := by
  unfold f_X12_thing_101 at h
  have F := Fr.rf W sg
  rcases ite_or h with h | h
  · obtain ⟨v5, s4, hp, h⟩ := bd2_some h
    replace F := F.tr (Fr.mono (fr_X12_no hp) (fun x hx => hW x (by unfold W_X12_no at hx; unfold W_X12_thing_101; omega)))
    cases h; exact F
  · obtain ⟨v7, s6, hp, h⟩ := bd2_some h
    replace F := F.tr (Fr.mono (fr_X12_many hp) (fun x hx => by unfold W_X12_many at hx; exact hx.elim))
    rcases ite_or h with h | h
    · obtain ⟨v17, s16, hp, h⟩ := bd2_some h
      replace F := F.tr (Fr.mono (fr_X12_no hp) (fun x hx => hW x (by unfold W_X12_no at hx; unfold W_X12_thing_101; omega)))
      cases h; exact F
    · refine F.tr (fr_X12_thing_130 (fun x hx => hW x (by unfold W_X12_thing_130 at hx; unfold W_X12_thing_101; omega)) ?_ FU h)
      · intro x1_11 s12 _ _ h
        have F := Fr.rf W s12
        obtain ⟨s13, hw, h⟩ := bd_some h
        replace F := F.tr (Fr_wrI (hW _ (by unfold W_X12_thing_101; omega)) hw)
        obtain ⟨s14, hw, h⟩ := bd_some h
        replace F := F.tr (Fr_wrI (hW _ (by unfold W_X12_thing_101; omega)) hw)
        obtain ⟨s15, hw, h⟩ := bd_some h
        replace F := F.tr (Fr_pfI (hW _ (by unfold W_X12_thing_101; omega)) hw)
        cases h; exact F
def W_X12_thing_74 (x : Nat) : Prop := x = 247 ∨ x = 248 ∨ x = 249 ∨ x = 250 ∨ x = 294
theorem fr_X12_thing_74 {W : Nat → Prop} (hW : ∀ x, W_X12_thing_74 x → W x) {x1 : Int32} {x2 : Int32} {sg : ST} {v : Int32} {s : ST} (h : f_X12_thing_74 x1 x2 sg = some (v, s)) : Fr W sg s := by
  unfold f_X12_thing_74 at h
  have F := Fr.rf W sg
  rcases ite_or h with h | h
  · refine F.tr (fr_X12_thing_101 (fun x hx => hW x (by unfold W_X12_thing_101 at hx; unfold W_X12_thing_74; omega)) h)
  · rcases ite_or h with h | h
    · refine F.tr (fr_X12_thing_101 (fun x hx => hW x (by unfold W_X12_thing_101 at hx; unfold W_X12_thing_74; omega)) h)
    · rcases ite_or h with h | h
      · refine F.tr (fr_X12_thing_101 (fun x hx => hW x (by unfold W_X12_thing_101 at hx; unfold W_X12_thing_74; omega)) h)
      · refine F.tr (fr_X12_thing_101 (fun x hx => hW x (by unfold W_X12_thing_101 at hx; unfold W_X12_thing_74; omega)) h)
def W_X12_thing (x : Nat) : Prop := x = 247 ∨ x = 248 ∨ x = 249 ∨ x = 250 ∨ x = 294
theorem fr_X12_thing {x1 : Int32} {x2 : Int32} {σ : ST} {v : Int32} {s : ST} (h : f_X12_thing x1 x2 σ = some (v, s)) : Fr (W_X12_thing ) σ s := by
  unfold f_X12_thing at h
  have F := Fr.rf (W_X12_thing ) σ
  rcases ite_or h with h | h
  · obtain ⟨v2, s1, hp, h⟩ := bd2_some h
    replace F := F.tr (Fr.mono (fr_X12_no hp) (fun x hx => by unfold W_X12_no at hx; unfold W_X12_thing; omega))
    cases h; exact F
  · rcases ite_or h with h | h
    · obtain ⟨v30, s29, hp, h⟩ := bd2_some h
      replace F := F.tr (Fr.mono (fr_X12_no hp) (fun x hx => by unfold W_X12_no at hx; unfold W_X12_thing; omega))
      cases h; exact F
    · obtain ⟨s3, hw, h⟩ := bd_some h
      replace F := F.tr (Fr_pfI (by unfold W_X12_thing; omega) hw)
      rcases ite_or h with h | h
      · obtain ⟨v19, s18, hp, h⟩ := bd2_some h
        replace F := F.tr (Fr.mono (fr_X12_noRow hp) (fun x hx => by unfold W_X12_noRow at hx; exact hx.elim))
        rcases ite_or h with h | h
        · obtain ⟨v28, s27, hp, h⟩ := bd2_some h
          replace F := F.tr (Fr.mono (fr_X12_no hp) (fun x hx => by unfold W_X12_no at hx; unfold W_X12_thing; omega))
          cases h; exact F
        · obtain ⟨v21, s20, hp, h⟩ := bd2_some h
          replace F := F.tr (Fr.mono (fr_X12_conditionFault hp) (fun x hx => by unfold W_X12_conditionFault at hx; unfold W_X12_thing; omega))
          obtain ⟨s22, hw, h⟩ := bd_some h
          replace F := F.tr (Fr_pfI (by unfold W_X12_thing; omega) hw)
          rcases ite_or h with h | h
          · obtain ⟨v23, -, h⟩ := bd_some h
            obtain ⟨s24, hw, h⟩ := bd_some h
            replace F := F.tr (Fr_pfI (by unfold W_X12_thing; omega) hw)
            refine F.tr (fr_X12_thing_74 (fun x hx => by unfold W_X12_thing_74 at hx; unfold W_X12_thing; omega) h)
          · obtain ⟨v26, s25, hp, h⟩ := bd2_some h
            replace F := F.tr (Fr.mono (fr_X12_no hp) (fun x hx => by unfold W_X12_no at hx; unfold W_X12_thing; omega))
            cases h; exact F
      · refine F.tr (fr_X12_thing_74 (fun x hx => by unfold W_X12_thing_74 at hx; unfold W_X12_thing; omega) h)
def W_X12_happening_78 (x : Nat) : Prop := x = 252
theorem fr_X12_happening_78 {k117 : Int32 → Int32 → Int32 → ST → Option (Int32 × ST)} {W : Nat → Prop} (hW : ∀ x, W_X12_happening_78 x → W x) (hk117 : ∀ {u0 : Int32} {u1 : Int32} {u2 : Int32} {sg : ST} {v : Int32} {s : ST}, k117 u0 u1 u2 sg = some (v, s) → Fr W sg s) : ∀ (n : Nat) {x1 : Int32} {x2 : Int32} {x3 : Int32} {x5 : Int32} {sg : ST} {v : Int32} {s : ST}, f_X12_happening_78 k117 n x1 x2 x3 x5 sg = some (v, s) → Fr W sg s := by
  intro n
  induction n with
  | zero => intro _ _ _ _ _ _ _ h; rw [f_X12_happening_78] at h; cases h
  | succ n ih =>
    intro x1 x2 x3 x5 sg v s h
    rw [f_X12_happening_78] at h
    have F := Fr.rf W sg
    obtain ⟨v8, -, h⟩ := bd_some h
    rcases ite_or h with h | h
    · obtain ⟨v10, s9, hp, h⟩ := bd2_some h
      replace F := F.tr (Fr.mono (fr_X12_letter hp) (fun x hx => by unfold W_X12_letter at hx; exact hx.elim))
      obtain ⟨s11, hw, h⟩ := bd_some h
      replace F := F.tr (Fr_wrI (hW _ (by unfold W_X12_happening_78; omega)) hw)
      exact F.tr (ih h)
    · exact F.tr (hk117 h)
def W_X12_happening_159 (x : Nat) : Prop := x = 247 ∨ x = 254
theorem fr_X12_happening_159 {W : Nat → Prop} (hW : ∀ x, W_X12_happening_159 x → W x) {z1 : Int32} {z2 : Int32} {sg : ST} {v : Int32} {s : ST} (h : f_X12_happening_159 z1 z2 sg = some (v, s)) : Fr W sg s := by
  unfold f_X12_happening_159 at h
  have F := Fr.rf W sg
  obtain ⟨s19, hw, h⟩ := bd_some h
  replace F := F.tr (Fr_wrI (hW _ (by unfold W_X12_happening_159; omega)) hw)
  obtain ⟨s20, hw, h⟩ := bd_some h
  replace F := F.tr (Fr_pfI (hW _ (by unfold W_X12_happening_159; omega)) hw)
  cases h; exact F
def W_X12_happening (x : Nat) : Prop := x = 247 ∨ x = 251 ∨ x = 252 ∨ x = 253 ∨ x = 254 ∨ x = 294
theorem fr_X12_happening {x1 : Int32} {x2 : Int32} {x3 : Int32} {σ : ST} {v : Int32} {s : ST} (h : f_X12_happening x1 x2 x3 σ = some (v, s)) : Fr (W_X12_happening ) σ s := by
  unfold f_X12_happening at h
  have F := Fr.rf (W_X12_happening ) σ
  obtain ⟨v2, s1, hp, h⟩ := bd2_some h
  replace F := F.tr (Fr.mono (fr_X12_noRow hp) (fun x hx => by unfold W_X12_noRow at hx; exact hx.elim))
  rcases ite_or h with h | h
  · obtain ⟨v28, s27, hp, h⟩ := bd2_some h
    replace F := F.tr (Fr.mono (fr_X12_no hp) (fun x hx => by unfold W_X12_no at hx; unfold W_X12_happening; omega))
    cases h; exact F
  · rcases ite_or h with h | h
    · obtain ⟨v4, s3, hp, h⟩ := bd2_some h
      replace F := F.tr (Fr.mono (fr_X12_no hp) (fun x hx => by unfold W_X12_no at hx; unfold W_X12_happening; omega))
      cases h; exact F
    · rcases ite_or h with h | h
      · obtain ⟨v26, s25, hp, h⟩ := bd2_some h
        replace F := F.tr (Fr.mono (fr_X12_no hp) (fun x hx => by unfold W_X12_no at hx; unfold W_X12_happening; omega))
        cases h; exact F
      · obtain ⟨v6, s5, hp, h⟩ := bd2_some h
        replace F := F.tr (Fr.mono (fr_X12_lawFault hp) (fun x hx => by unfold W_X12_lawFault at hx; unfold W_X12_happening; omega))
        obtain ⟨s7, hw, h⟩ := bd_some h
        replace F := F.tr (Fr_pfI (by unfold W_X12_happening; omega) hw)
        rcases ite_or h with h | h
        · rcases ite_or h with h | h
          · obtain ⟨v22, s21, hp, h⟩ := bd2_some h
            replace F := F.tr (Fr.mono (fr_X12_no hp) (fun x hx => by unfold W_X12_no at hx; unfold W_X12_happening; omega))
            cases h; exact F
          · refine F.tr (fr_X12_happening_78 (fun x hx => by unfold W_X12_happening_78 at hx; unfold W_X12_happening; omega) ?_ FU h)
            · intro x1_12 x2_13 x3_14 s15 _ _ h
              have F := Fr.rf (W_X12_happening ) s15
              obtain ⟨v16, -, h⟩ := bd_some h
              obtain ⟨s17, hw, h⟩ := bd_some h
              replace F := F.tr (Fr_wrI (by unfold W_X12_happening; omega) hw)
              obtain ⟨s18, hw, h⟩ := bd_some h
              replace F := F.tr (Fr_wrI (by unfold W_X12_happening; omega) hw)
              rcases ite_or h with h | h
              · refine F.tr (fr_X12_happening_159 (fun x hx => by unfold W_X12_happening_159 at hx; unfold W_X12_happening; omega) h)
              · refine F.tr (fr_X12_happening_159 (fun x hx => by unfold W_X12_happening_159 at hx; unfold W_X12_happening; omega) h)
        · obtain ⟨v24, s23, hp, h⟩ := bd2_some h
          replace F := F.tr (Fr.mono (fr_X12_no hp) (fun x hx => by unfold W_X12_no at hx; unfold W_X12_happening; omega))
          cases h; exact F
def W_X12_fault (x : Nat) : Prop := False
theorem fr_X12_fault {σ : ST} {v : Int32} {s : ST} (h : f_X12_fault σ = some (v, s)) : Fr (W_X12_fault ) σ s := by
  unfold f_X12_fault at h
  have F := Fr.rf (W_X12_fault ) σ
  cases h; exact F
def W_X12_price (x : Nat) : Prop := x = 253 ∨ x = 294
theorem fr_X12_price {x1 : Int32} {x2 : Int32} {σ : ST} {v : Int32} {s : ST} (h : f_X12_price x1 x2 σ = some (v, s)) : Fr (W_X12_price ) σ s := by
  unfold f_X12_price at h
  have F := Fr.rf (W_X12_price ) σ
  obtain ⟨v2, s1, hp, h⟩ := bd2_some h
  replace F := F.tr (Fr.mono (fr_X12_isHappening hp) (fun x hx => by unfold W_X12_isHappening at hx; exact hx.elim))
  rcases ite_or h with h | h
  · obtain ⟨v10, s9, hp, h⟩ := bd2_some h
    replace F := F.tr (Fr.mono (fr_X12_no hp) (fun x hx => by unfold W_X12_no at hx; unfold W_X12_price; omega))
    cases h; exact F
  · rcases ite_or h with h | h
    · obtain ⟨v4, s3, hp, h⟩ := bd2_some h
      replace F := F.tr (Fr.mono (fr_X12_no hp) (fun x hx => by unfold W_X12_no at hx; unfold W_X12_price; omega))
      cases h; exact F
    · rcases ite_or h with h | h
      · obtain ⟨v8, s7, hp, h⟩ := bd2_some h
        replace F := F.tr (Fr.mono (fr_X12_no hp) (fun x hx => by unfold W_X12_no at hx; unfold W_X12_price; omega))
        cases h; exact F
      · obtain ⟨v5, -, h⟩ := bd_some h
        obtain ⟨s6, hw, h⟩ := bd_some h
        replace F := F.tr (Fr_wrI (by unfold W_X12_price; omega) hw)
        cases h; exact F
def W_X12_weigh (x : Nat) : Prop := x = 262 ∨ x = 294
theorem fr_X12_weigh {x1 : Int32} {x2 : Int32} {σ : ST} {v : Int32} {s : ST} (h : f_X12_weigh x1 x2 σ = some (v, s)) : Fr (W_X12_weigh ) σ s := by
  unfold f_X12_weigh at h
  have F := Fr.rf (W_X12_weigh ) σ
  obtain ⟨v2, s1, hp, h⟩ := bd2_some h
  replace F := F.tr (Fr.mono (fr_X12_isMouth hp) (fun x hx => by unfold W_X12_isMouth at hx; exact hx.elim))
  rcases ite_or h with h | h
  · obtain ⟨v10, s9, hp, h⟩ := bd2_some h
    replace F := F.tr (Fr.mono (fr_X12_no hp) (fun x hx => by unfold W_X12_no at hx; unfold W_X12_weigh; omega))
    cases h; exact F
  · rcases ite_or h with h | h
    · obtain ⟨v4, s3, hp, h⟩ := bd2_some h
      replace F := F.tr (Fr.mono (fr_X12_no hp) (fun x hx => by unfold W_X12_no at hx; unfold W_X12_weigh; omega))
      cases h; exact F
    · rcases ite_or h with h | h
      · obtain ⟨v8, s7, hp, h⟩ := bd2_some h
        replace F := F.tr (Fr.mono (fr_X12_no hp) (fun x hx => by unfold W_X12_no at hx; unfold W_X12_weigh; omega))
        cases h; exact F
      · obtain ⟨v5, -, h⟩ := bd_some h
        obtain ⟨s6, hw, h⟩ := bd_some h
        replace F := F.tr (Fr_wrI (by unfold W_X12_weigh; omega) hw)
        cases h; exact F
def W_X12_piece (x : Nat) : Prop := x = 247 ∨ x = 255 ∨ x = 256 ∨ x = 257 ∨ x = 258 ∨ x = 259 ∨ x = 260 ∨ x = 261
theorem fr_X12_piece {x1 : Int32} {x2 : Int32} {x3 : Int32} {x4 : Int32} {x5 : Int32} {x6 : Int32} {σ : ST} {v : Int32} {s : ST} (h : f_X12_piece x1 x2 x3 x4 x5 x6 σ = some (v, s)) : Fr (W_X12_piece ) σ s := by
  unfold f_X12_piece at h
  have F := Fr.rf (W_X12_piece ) σ
  obtain ⟨s1, hw, h⟩ := bd_some h
  replace F := F.tr (Fr_wrI (by unfold W_X12_piece; omega) hw)
  obtain ⟨s2, hw, h⟩ := bd_some h
  replace F := F.tr (Fr_wrI (by unfold W_X12_piece; omega) hw)
  obtain ⟨s3, hw, h⟩ := bd_some h
  replace F := F.tr (Fr_wrI (by unfold W_X12_piece; omega) hw)
  obtain ⟨s4, hw, h⟩ := bd_some h
  replace F := F.tr (Fr_wrI (by unfold W_X12_piece; omega) hw)
  obtain ⟨s5, hw, h⟩ := bd_some h
  replace F := F.tr (Fr_wrI (by unfold W_X12_piece; omega) hw)
  obtain ⟨s6, hw, h⟩ := bd_some h
  replace F := F.tr (Fr_wrI (by unfold W_X12_piece; omega) hw)
  obtain ⟨s7, hw, h⟩ := bd_some h
  replace F := F.tr (Fr_wrI (by unfold W_X12_piece; omega) hw)
  obtain ⟨s8, hw, h⟩ := bd_some h
  replace F := F.tr (Fr_pfI (by unfold W_X12_piece; omega) hw)
  cases h; exact F
def W_X12_spanPieces_4 (x : Nat) : Prop := False
theorem fr_X12_spanPieces_4 {W : Nat → Prop} (hW : ∀ x, W_X12_spanPieces_4 x → W x) : ∀ (n : Nat) {x1 : Int32} {x2 : Int32} {sg : ST} {v : Int32} {s : ST}, f_X12_spanPieces_4 n x1 x2 sg = some (v, s) → Fr W sg s := by
  intro n
  induction n with
  | zero => intro _ _ _ _ _ h; rw [f_X12_spanPieces_4] at h; cases h
  | succ n ih =>
    intro x1 x2 sg v s h
    rw [f_X12_spanPieces_4] at h
    have F := Fr.rf W sg
    rcases ite_or h with h | h
    · obtain ⟨v1, -, h⟩ := bd_some h
      rcases ite_or h with h | h
      · exact F.tr (ih h)
      · exact F.tr (ih h)
    · cases h; exact F
def W_X12_spanPieces (x : Nat) : Prop := False
theorem fr_X12_spanPieces {σ : ST} {v : Int32} {s : ST} (h : f_X12_spanPieces σ = some (v, s)) : Fr (W_X12_spanPieces ) σ s := by
  unfold f_X12_spanPieces at h
  have F := Fr.rf (W_X12_spanPieces ) σ
  refine F.tr (fr_X12_spanPieces_4 (fun x hx => by unfold W_X12_spanPieces_4 at hx; unfold W_X12_spanPieces; omega) FU h)
def W_X12_seen (x : Nat) : Prop := x = 247 ∨ x = 255 ∨ x = 256 ∨ x = 257 ∨ x = 258 ∨ x = 259 ∨ x = 260 ∨ x = 261 ∨ x = 294
theorem fr_X12_seen {x1 : Int32} {x2 : Int32} {x3 : Int32} {σ : ST} {v : Int32} {s : ST} (h : f_X12_seen x1 x2 x3 σ = some (v, s)) : Fr (W_X12_seen ) σ s := by
  unfold f_X12_seen at h
  have F := Fr.rf (W_X12_seen ) σ
  obtain ⟨v2, s1, hp, h⟩ := bd2_some h
  replace F := F.tr (Fr.mono (fr_X12_isHappening hp) (fun x hx => by unfold W_X12_isHappening at hx; exact hx.elim))
  rcases ite_or h with h | h
  · obtain ⟨v4, s3, hp, h⟩ := bd2_some h
    replace F := F.tr (Fr.mono (fr_X12_no hp) (fun x hx => by unfold W_X12_no at hx; unfold W_X12_seen; omega))
    cases h; exact F
  · obtain ⟨v6, s5, hp, h⟩ := bd2_some h
    replace F := F.tr (Fr.mono (fr_X12_isMouth hp) (fun x hx => by unfold W_X12_isMouth at hx; exact hx.elim))
    rcases ite_or h with h | h
    · obtain ⟨v16, s15, hp, h⟩ := bd2_some h
      replace F := F.tr (Fr.mono (fr_X12_no hp) (fun x hx => by unfold W_X12_no at hx; unfold W_X12_seen; omega))
      cases h; exact F
    · obtain ⟨v8, s7, hp, h⟩ := bd2_some h
      replace F := F.tr (Fr.mono (fr_X12_isHour hp) (fun x hx => by unfold W_X12_isHour at hx; exact hx.elim))
      rcases ite_or h with h | h
      · obtain ⟨v14, s13, hp, h⟩ := bd2_some h
        replace F := F.tr (Fr.mono (fr_X12_no hp) (fun x hx => by unfold W_X12_no at hx; unfold W_X12_seen; omega))
        cases h; exact F
      · rcases ite_or h with h | h
        · obtain ⟨v12, s11, hp, h⟩ := bd2_some h
          replace F := F.tr (Fr.mono (fr_X12_no hp) (fun x hx => by unfold W_X12_no at hx; unfold W_X12_seen; omega))
          cases h; exact F
        · obtain ⟨v10, s9, hp, h⟩ := bd2_some h
          replace F := F.tr (Fr.mono (fr_X12_piece hp) (fun x hx => by unfold W_X12_piece at hx; unfold W_X12_seen; omega))
          cases h; exact F
def W_X12_span_68 (x : Nat) : Prop := x = 247 ∨ x = 255 ∨ x = 256 ∨ x = 257 ∨ x = 258 ∨ x = 259 ∨ x = 260 ∨ x = 261
theorem fr_X12_span_68 {W : Nat → Prop} (hW : ∀ x, W_X12_span_68 x → W x) {x1 : Int32} {x2 : Int32} {x3 : Int32} {x4 : Int32} {x5 : Int32} {sg : ST} {v : Int32} {s : ST} (h : f_X12_span_68 x1 x2 x3 x4 x5 sg = some (v, s)) : Fr W sg s := by
  unfold f_X12_span_68 at h
  have F := Fr.rf W sg
  rcases ite_or h with h | h
  · obtain ⟨v12, s11, hp, h⟩ := bd2_some h
    replace F := F.tr (Fr.mono (fr_X12_piece hp) (fun x hx => hW x (by unfold W_X12_piece at hx; unfold W_X12_span_68; omega)))
    cases h; exact F
  · obtain ⟨v14, s13, hp, h⟩ := bd2_some h
    replace F := F.tr (Fr.mono (fr_X12_piece hp) (fun x hx => hW x (by unfold W_X12_piece at hx; unfold W_X12_span_68; omega)))
    cases h; exact F
def W_X12_span (x : Nat) : Prop := x = 247 ∨ x = 255 ∨ x = 256 ∨ x = 257 ∨ x = 258 ∨ x = 259 ∨ x = 260 ∨ x = 261 ∨ x = 294
theorem fr_X12_span {x1 : Int32} {x2 : Int32} {x3 : Int32} {x4 : Int32} {x5 : Int32} {σ : ST} {v : Int32} {s : ST} (h : f_X12_span x1 x2 x3 x4 x5 σ = some (v, s)) : Fr (W_X12_span ) σ s := by
  unfold f_X12_span at h
  have F := Fr.rf (W_X12_span ) σ
  obtain ⟨v2, s1, hp, h⟩ := bd2_some h
  replace F := F.tr (Fr.mono (fr_X12_isHappening hp) (fun x hx => by unfold W_X12_isHappening at hx; exact hx.elim))
  rcases ite_or h with h | h
  · obtain ⟨v4, s3, hp, h⟩ := bd2_some h
    replace F := F.tr (Fr.mono (fr_X12_no hp) (fun x hx => by unfold W_X12_no at hx; unfold W_X12_span; omega))
    cases h; exact F
  · obtain ⟨v6, s5, hp, h⟩ := bd2_some h
    replace F := F.tr (Fr.mono (fr_X12_isMouth hp) (fun x hx => by unfold W_X12_isMouth at hx; exact hx.elim))
    rcases ite_or h with h | h
    · obtain ⟨v22, s21, hp, h⟩ := bd2_some h
      replace F := F.tr (Fr.mono (fr_X12_no hp) (fun x hx => by unfold W_X12_no at hx; unfold W_X12_span; omega))
      cases h; exact F
    · obtain ⟨v8, s7, hp, h⟩ := bd2_some h
      replace F := F.tr (Fr.mono (fr_X12_areHours hp) (fun x hx => by unfold W_X12_areHours at hx; exact hx.elim))
      rcases ite_or h with h | h
      · obtain ⟨v20, s19, hp, h⟩ := bd2_some h
        replace F := F.tr (Fr.mono (fr_X12_no hp) (fun x hx => by unfold W_X12_no at hx; unfold W_X12_span; omega))
        cases h; exact F
      · rcases ite_or h with h | h
        · obtain ⟨v10, s9, hp, h⟩ := bd2_some h
          replace F := F.tr (Fr.mono (fr_X12_no hp) (fun x hx => by unfold W_X12_no at hx; unfold W_X12_span; omega))
          cases h; exact F
        · rcases ite_or h with h | h
          · obtain ⟨v16, s15, hp, h⟩ := bd2_some h
            replace F := F.tr (Fr.mono (fr_X12_spanPieces hp) (fun x hx => by unfold W_X12_spanPieces at hx; exact hx.elim))
            rcases ite_or h with h | h
            · obtain ⟨v18, s17, hp, h⟩ := bd2_some h
              replace F := F.tr (Fr.mono (fr_X12_no hp) (fun x hx => by unfold W_X12_no at hx; unfold W_X12_span; omega))
              cases h; exact F
            · refine F.tr (fr_X12_span_68 (fun x hx => by unfold W_X12_span_68 at hx; unfold W_X12_span; omega) h)
          · refine F.tr (fr_X12_span_68 (fun x hx => by unfold W_X12_span_68 at hx; unfold W_X12_span; omega) h)
def W_X12_isValue_21 (x : Nat) : Prop := False
theorem fr_X12_isValue_21 {W : Nat → Prop} (hW : ∀ x, W_X12_isValue_21 x → W x) {z0 : Int32} {z1 : Int32} {sg : ST} {v : Int32} {s : ST} (h : f_X12_isValue_21 z0 z1 sg = some (v, s)) : Fr W sg s := by
  unfold f_X12_isValue_21 at h
  have F := Fr.rf W sg
  rcases ite_or h with h | h
  · cases h; exact F
  · cases h; exact F
def W_X12_isValue (x : Nat) : Prop := False
theorem fr_X12_isValue {x1 : Int32} {x2 : Int32} {σ : ST} {v : Int32} {s : ST} (h : f_X12_isValue x1 x2 σ = some (v, s)) : Fr (W_X12_isValue ) σ s := by
  unfold f_X12_isValue at h
  have F := Fr.rf (W_X12_isValue ) σ
  rcases ite_or h with h | h
  · cases h; exact F
  · obtain ⟨v1, -, h⟩ := bd_some h
    rcases ite_or h with h | h
    · refine F.tr (fr_X12_isValue_21 (fun x hx => by unfold W_X12_isValue_21 at hx; unfold W_X12_isValue; omega) h)
    · refine F.tr (fr_X12_isValue_21 (fun x hx => by unfold W_X12_isValue_21 at hx; unfold W_X12_isValue; omega) h)
def W_X12_was (x : Nat) : Prop := x = 247 ∨ x = 255 ∨ x = 256 ∨ x = 257 ∨ x = 258 ∨ x = 259 ∨ x = 260 ∨ x = 261 ∨ x = 294
theorem fr_X12_was {x1 : Int32} {x2 : Int32} {x3 : Int32} {x4 : Int32} {x5 : Int32} {σ : ST} {v : Int32} {s : ST} (h : f_X12_was x1 x2 x3 x4 x5 σ = some (v, s)) : Fr (W_X12_was ) σ s := by
  unfold f_X12_was at h
  have F := Fr.rf (W_X12_was ) σ
  obtain ⟨v2, s1, hp, h⟩ := bd2_some h
  replace F := F.tr (Fr.mono (fr_X12_isThing hp) (fun x hx => by unfold W_X12_isThing at hx; exact hx.elim))
  rcases ite_or h with h | h
  · obtain ⟨v4, s3, hp, h⟩ := bd2_some h
    replace F := F.tr (Fr.mono (fr_X12_no hp) (fun x hx => by unfold W_X12_no at hx; unfold W_X12_was; omega))
    cases h; exact F
  · obtain ⟨v6, s5, hp, h⟩ := bd2_some h
    replace F := F.tr (Fr.mono (fr_X12_isMouth hp) (fun x hx => by unfold W_X12_isMouth at hx; exact hx.elim))
    rcases ite_or h with h | h
    · obtain ⟨v20, s19, hp, h⟩ := bd2_some h
      replace F := F.tr (Fr.mono (fr_X12_no hp) (fun x hx => by unfold W_X12_no at hx; unfold W_X12_was; omega))
      cases h; exact F
    · obtain ⟨v8, s7, hp, h⟩ := bd2_some h
      replace F := F.tr (Fr.mono (fr_X12_areHours hp) (fun x hx => by unfold W_X12_areHours at hx; exact hx.elim))
      rcases ite_or h with h | h
      · obtain ⟨v10, s9, hp, h⟩ := bd2_some h
        replace F := F.tr (Fr.mono (fr_X12_no hp) (fun x hx => by unfold W_X12_no at hx; unfold W_X12_was; omega))
        cases h; exact F
      · obtain ⟨v12, s11, hp, h⟩ := bd2_some h
        replace F := F.tr (Fr.mono (fr_X12_isValue hp) (fun x hx => by unfold W_X12_isValue at hx; exact hx.elim))
        rcases ite_or h with h | h
        · obtain ⟨v18, s17, hp, h⟩ := bd2_some h
          replace F := F.tr (Fr.mono (fr_X12_no hp) (fun x hx => by unfold W_X12_no at hx; unfold W_X12_was; omega))
          cases h; exact F
        · rcases ite_or h with h | h
          · obtain ⟨v16, s15, hp, h⟩ := bd2_some h
            replace F := F.tr (Fr.mono (fr_X12_no hp) (fun x hx => by unfold W_X12_no at hx; unfold W_X12_was; omega))
            cases h; exact F
          · obtain ⟨v14, s13, hp, h⟩ := bd2_some h
            replace F := F.tr (Fr.mono (fr_X12_piece hp) (fun x hx => by unfold W_X12_piece at hx; unfold W_X12_was; omega))
            cases h; exact F
def W_X12_sheet_308 (x : Nat) : Prop := x = 247 ∨ x = 255 ∨ x = 256 ∨ x = 257 ∨ x = 258 ∨ x = 259 ∨ x = 260 ∨ x = 261
theorem fr_X12_sheet_308 {k91 : Int32 → Int32 → Int32 → Int32 → Int32 → Int32 → ST → Option (Int32 × ST)} {W : Nat → Prop} (hW : ∀ x, W_X12_sheet_308 x → W x) (hk91 : ∀ {u0 : Int32} {u1 : Int32} {u2 : Int32} {u3 : Int32} {u4 : Int32} {u5 : Int32} {sg : ST} {v : Int32} {s : ST}, k91 u0 u1 u2 u3 u4 u5 sg = some (v, s) → Fr W sg s) {x1 : Int32} {x2 : Int32} {x3 : Int32} {x4 : Int32} {x6 : Int32} {x7 : Int32} {x8 : Int32} {x9 : Int32} {x10 : Int32} {x11 : Int32} {x12 : Int32} {x13 : Int32} {sg : ST} {v : Int32} {s : ST} (h : f_X12_sheet_308 k91 x1 x2 x3 x4 x6 x7 x8 x9 x10 x11 x12 x13 sg = some (v, s)) : Fr W sg s := by
  unfold f_X12_sheet_308 at h
  have F := Fr.rf W sg
  rcases ite_or h with h | h
  · cases h; exact F
  · rcases ite_or h with h | h
    · obtain ⟨v16, s15, hp, h⟩ := bd2_some h
      replace F := F.tr (Fr.mono (fr_X12_piece hp) (fun x hx => hW x (by unfold W_X12_piece at hx; unfold W_X12_sheet_308; omega)))
      exact F.tr (hk91 h)
    · obtain ⟨v14, s13, hp, h⟩ := bd2_some h
      replace F := F.tr (Fr.mono (fr_X12_piece hp) (fun x hx => hW x (by unfold W_X12_piece at hx; unfold W_X12_sheet_308; omega)))
      exact F.tr (hk91 h)
def W_X12_sheet_306 (x : Nat) : Prop := x = 247 ∨ x = 255 ∨ x = 256 ∨ x = 257 ∨ x = 258 ∨ x = 259 ∨ x = 260 ∨ x = 261
theorem fr_X12_sheet_306 {k91 : Int32 → Int32 → Int32 → Int32 → Int32 → Int32 → ST → Option (Int32 × ST)} {W : Nat → Prop} (hW : ∀ x, W_X12_sheet_306 x → W x) (hk91 : ∀ {u0 : Int32} {u1 : Int32} {u2 : Int32} {u3 : Int32} {u4 : Int32} {u5 : Int32} {sg : ST} {v : Int32} {s : ST}, k91 u0 u1 u2 u3 u4 u5 sg = some (v, s) → Fr W sg s) {x1 : Int32} {x2 : Int32} {x3 : Int32} {x4 : Int32} {x6 : Int32} {x7 : Int32} {x8 : Int32} {x9 : Int32} {x10 : Int32} {x11 : Int32} {x12 : Int32} {z0 : Int32} {sg : ST} {v : Int32} {s : ST} (h : f_X12_sheet_306 k91 x1 x2 x3 x4 x6 x7 x8 x9 x10 x11 x12 z0 sg = some (v, s)) : Fr W sg s := by
  unfold f_X12_sheet_306 at h
  have F := Fr.rf W sg
  refine F.tr (fr_X12_sheet_308 (fun x hx => hW x (by unfold W_X12_sheet_308 at hx; unfold W_X12_sheet_306; omega)) (fun h => hk91 h) h)
def W_X12_sheet_305 (x : Nat) : Prop := x = 247 ∨ x = 255 ∨ x = 256 ∨ x = 257 ∨ x = 258 ∨ x = 259 ∨ x = 260 ∨ x = 261
theorem fr_X12_sheet_305 {k91 : Int32 → Int32 → Int32 → Int32 → Int32 → Int32 → ST → Option (Int32 × ST)} {W : Nat → Prop} (hW : ∀ x, W_X12_sheet_305 x → W x) (hk91 : ∀ {u0 : Int32} {u1 : Int32} {u2 : Int32} {u3 : Int32} {u4 : Int32} {u5 : Int32} {sg : ST} {v : Int32} {s : ST}, k91 u0 u1 u2 u3 u4 u5 sg = some (v, s) → Fr W sg s) {x1 : Int32} {x2 : Int32} {x3 : Int32} {x4 : Int32} {x6 : Int32} {x7 : Int32} {x8 : Int32} {x9 : Int32} {x10 : Int32} {x11 : Int32} {x12 : Int32} {sg : ST} {v : Int32} {s : ST} (h : f_X12_sheet_305 k91 x1 x2 x3 x4 x6 x7 x8 x9 x10 x11 x12 sg = some (v, s)) : Fr W sg s := by
  unfold f_X12_sheet_305 at h
  have F := Fr.rf W sg
  refine F.tr (fr_X12_sheet_306 (fun x hx => hW x (by unfold W_X12_sheet_306 at hx; unfold W_X12_sheet_305; omega)) (fun h => hk91 h) h)
def W_X12_sheet_301 (x : Nat) : Prop := x = 247 ∨ x = 255 ∨ x = 256 ∨ x = 257 ∨ x = 258 ∨ x = 259 ∨ x = 260 ∨ x = 261
theorem fr_X12_sheet_301 {k91 : Int32 → Int32 → Int32 → Int32 → Int32 → Int32 → ST → Option (Int32 × ST)} {W : Nat → Prop} (hW : ∀ x, W_X12_sheet_301 x → W x) (hk91 : ∀ {u0 : Int32} {u1 : Int32} {u2 : Int32} {u3 : Int32} {u4 : Int32} {u5 : Int32} {sg : ST} {v : Int32} {s : ST}, k91 u0 u1 u2 u3 u4 u5 sg = some (v, s) → Fr W sg s) {x1 : Int32} {x2 : Int32} {x3 : Int32} {x4 : Int32} {x6 : Int32} {x7 : Int32} {x8 : Int32} {x9 : Int32} {x10 : Int32} {x11 : Int32} {x12 : Int32} {sg : ST} {v : Int32} {s : ST} (h : f_X12_sheet_301 k91 x1 x2 x3 x4 x6 x7 x8 x9 x10 x11 x12 sg = some (v, s)) : Fr W sg s := by
  unfold f_X12_sheet_301 at h
  have F := Fr.rf W sg
  refine F.tr (fr_X12_sheet_306 (fun x hx => hW x (by unfold W_X12_sheet_306 at hx; unfold W_X12_sheet_301; omega)) (fun h => hk91 h) h)
def W_X12_sheet_287 (x : Nat) : Prop := x = 247 ∨ x = 255 ∨ x = 256 ∨ x = 257 ∨ x = 258 ∨ x = 259 ∨ x = 260 ∨ x = 261
theorem fr_X12_sheet_287 {k91 : Int32 → Int32 → Int32 → Int32 → Int32 → Int32 → ST → Option (Int32 × ST)} {W : Nat → Prop} (hW : ∀ x, W_X12_sheet_287 x → W x) (hk91 : ∀ {u0 : Int32} {u1 : Int32} {u2 : Int32} {u3 : Int32} {u4 : Int32} {u5 : Int32} {sg : ST} {v : Int32} {s : ST}, k91 u0 u1 u2 u3 u4 u5 sg = some (v, s) → Fr W sg s) {x1 : Int32} {x2 : Int32} {x3 : Int32} {x4 : Int32} {x6 : Int32} {x7 : Int32} {x8 : Int32} {x9 : Int32} {x10 : Int32} {x11 : Int32} {x12 : Int32} {sg : ST} {v : Int32} {s : ST} (h : f_X12_sheet_287 k91 x1 x2 x3 x4 x6 x7 x8 x9 x10 x11 x12 sg = some (v, s)) : Fr W sg s := by
  unfold f_X12_sheet_287 at h
  have F := Fr.rf W sg
  rcases ite_or h with h | h
  · obtain ⟨v20, s19, hp, h⟩ := bd2_some h
    replace F := F.tr (Fr.mono (fr_X12_spanPieces hp) (fun x hx => by unfold W_X12_spanPieces at hx; exact hx.elim))
    rcases ite_or h with h | h
    · refine F.tr (fr_X12_sheet_301 (fun x hx => hW x (by unfold W_X12_sheet_301 at hx; unfold W_X12_sheet_287; omega)) (fun h => hk91 h) h)
    · refine F.tr (fr_X12_sheet_305 (fun x hx => hW x (by unfold W_X12_sheet_305 at hx; unfold W_X12_sheet_287; omega)) (fun h => hk91 h) h)
  · refine F.tr (fr_X12_sheet_301 (fun x hx => hW x (by unfold W_X12_sheet_301 at hx; unfold W_X12_sheet_287; omega)) (fun h => hk91 h) h)
def W_X12_sheet_256 (x : Nat) : Prop := x = 247 ∨ x = 255 ∨ x = 256 ∨ x = 257 ∨ x = 258 ∨ x = 259 ∨ x = 260 ∨ x = 261
theorem fr_X12_sheet_256 {k91 : Int32 → Int32 → Int32 → Int32 → Int32 → Int32 → ST → Option (Int32 × ST)} {W : Nat → Prop} (hW : ∀ x, W_X12_sheet_256 x → W x) (hk91 : ∀ {u0 : Int32} {u1 : Int32} {u2 : Int32} {u3 : Int32} {u4 : Int32} {u5 : Int32} {sg : ST} {v : Int32} {s : ST}, k91 u0 u1 u2 u3 u4 u5 sg = some (v, s) → Fr W sg s) {x1 : Int32} {x2 : Int32} {x3 : Int32} {x4 : Int32} {x6 : Int32} {x7 : Int32} {x8 : Int32} {x9 : Int32} {x10 : Int32} {x11 : Int32} {x12 : Int32} {z0 : Int32} {sg : ST} {v : Int32} {s : ST} (h : f_X12_sheet_256 k91 x1 x2 x3 x4 x6 x7 x8 x9 x10 x11 x12 z0 sg = some (v, s)) : Fr W sg s := by
  unfold f_X12_sheet_256 at h
  have F := Fr.rf W sg
  refine F.tr (fr_X12_sheet_308 (fun x hx => hW x (by unfold W_X12_sheet_308 at hx; unfold W_X12_sheet_256; omega)) (fun h => hk91 h) h)
def W_X12_sheet_255 (x : Nat) : Prop := x = 247 ∨ x = 255 ∨ x = 256 ∨ x = 257 ∨ x = 258 ∨ x = 259 ∨ x = 260 ∨ x = 261
theorem fr_X12_sheet_255 {k91 : Int32 → Int32 → Int32 → Int32 → Int32 → Int32 → ST → Option (Int32 × ST)} {W : Nat → Prop} (hW : ∀ x, W_X12_sheet_255 x → W x) (hk91 : ∀ {u0 : Int32} {u1 : Int32} {u2 : Int32} {u3 : Int32} {u4 : Int32} {u5 : Int32} {sg : ST} {v : Int32} {s : ST}, k91 u0 u1 u2 u3 u4 u5 sg = some (v, s) → Fr W sg s) {x1 : Int32} {x2 : Int32} {x3 : Int32} {x4 : Int32} {x6 : Int32} {x7 : Int32} {x8 : Int32} {x9 : Int32} {x10 : Int32} {x11 : Int32} {x12 : Int32} {sg : ST} {v : Int32} {s : ST} (h : f_X12_sheet_255 k91 x1 x2 x3 x4 x6 x7 x8 x9 x10 x11 x12 sg = some (v, s)) : Fr W sg s := by
  unfold f_X12_sheet_255 at h
  have F := Fr.rf W sg
  refine F.tr (fr_X12_sheet_256 (fun x hx => hW x (by unfold W_X12_sheet_256 at hx; unfold W_X12_sheet_255; omega)) (fun h => hk91 h) h)
def W_X12_sheet_218 (x : Nat) : Prop := x = 247 ∨ x = 255 ∨ x = 256 ∨ x = 257 ∨ x = 258 ∨ x = 259 ∨ x = 260 ∨ x = 261
theorem fr_X12_sheet_218 {k91 : Int32 → Int32 → Int32 → Int32 → Int32 → Int32 → ST → Option (Int32 × ST)} {W : Nat → Prop} (hW : ∀ x, W_X12_sheet_218 x → W x) (hk91 : ∀ {u0 : Int32} {u1 : Int32} {u2 : Int32} {u3 : Int32} {u4 : Int32} {u5 : Int32} {sg : ST} {v : Int32} {s : ST}, k91 u0 u1 u2 u3 u4 u5 sg = some (v, s) → Fr W sg s) {x1 : Int32} {x2 : Int32} {x3 : Int32} {x4 : Int32} {x6 : Int32} {x7 : Int32} {x8 : Int32} {x9 : Int32} {x10 : Int32} {x11 : Int32} {x12 : Int32} {z0 : Int32} {sg : ST} {v : Int32} {s : ST} (h : f_X12_sheet_218 k91 x1 x2 x3 x4 x6 x7 x8 x9 x10 x11 x12 z0 sg = some (v, s)) : Fr W sg s := by
  unfold f_X12_sheet_218 at h
  have F := Fr.rf W sg
  rcases ite_or h with h | h
  · rcases ite_or h with h | h
    · refine F.tr (fr_X12_sheet_255 (fun x hx => hW x (by unfold W_X12_sheet_255 at hx; unfold W_X12_sheet_218; omega)) (fun h => hk91 h) h)
    · obtain ⟨v22, s21, hp, h⟩ := bd2_some h
      replace F := F.tr (Fr.mono (fr_X12_isThing hp) (fun x hx => by unfold W_X12_isThing at hx; exact hx.elim))
      rcases ite_or h with h | h
      · refine F.tr (fr_X12_sheet_255 (fun x hx => hW x (by unfold W_X12_sheet_255 at hx; unfold W_X12_sheet_218; omega)) (fun h => hk91 h) h)
      · obtain ⟨v24, s23, hp, h⟩ := bd2_some h
        replace F := F.tr (Fr.mono (fr_X12_isValue hp) (fun x hx => by unfold W_X12_isValue at hx; exact hx.elim))
        rcases ite_or h with h | h
        · refine F.tr (fr_X12_sheet_255 (fun x hx => hW x (by unfold W_X12_sheet_255 at hx; unfold W_X12_sheet_218; omega)) (fun h => hk91 h) h)
        · refine F.tr (fr_X12_sheet_256 (fun x hx => hW x (by unfold W_X12_sheet_256 at hx; unfold W_X12_sheet_218; omega)) (fun h => hk91 h) h)
  · rcases ite_or h with h | h
    · refine F.tr (fr_X12_sheet_305 (fun x hx => hW x (by unfold W_X12_sheet_305 at hx; unfold W_X12_sheet_218; omega)) (fun h => hk91 h) h)
    · obtain ⟨v18, s17, hp, h⟩ := bd2_some h
      replace F := F.tr (Fr.mono (fr_X12_isHappening hp) (fun x hx => by unfold W_X12_isHappening at hx; exact hx.elim))
      rcases ite_or h with h | h
      · refine F.tr (fr_X12_sheet_305 (fun x hx => hW x (by unfold W_X12_sheet_305 at hx; unfold W_X12_sheet_218; omega)) (fun h => hk91 h) h)
      · rcases ite_or h with h | h
        · rcases ite_or h with h | h
          · refine F.tr (fr_X12_sheet_287 (fun x hx => hW x (by unfold W_X12_sheet_287 at hx; unfold W_X12_sheet_218; omega)) (fun h => hk91 h) h)
          · refine F.tr (fr_X12_sheet_305 (fun x hx => hW x (by unfold W_X12_sheet_305 at hx; unfold W_X12_sheet_218; omega)) (fun h => hk91 h) h)
        · refine F.tr (fr_X12_sheet_287 (fun x hx => hW x (by unfold W_X12_sheet_287 at hx; unfold W_X12_sheet_218; omega)) (fun h => hk91 h) h)
def W_X12_sheet_217 (x : Nat) : Prop := x = 247 ∨ x = 255 ∨ x = 256 ∨ x = 257 ∨ x = 258 ∨ x = 259 ∨ x = 260 ∨ x = 261
theorem fr_X12_sheet_217 {k91 : Int32 → Int32 → Int32 → Int32 → Int32 → Int32 → ST → Option (Int32 × ST)} {W : Nat → Prop} (hW : ∀ x, W_X12_sheet_217 x → W x) (hk91 : ∀ {u0 : Int32} {u1 : Int32} {u2 : Int32} {u3 : Int32} {u4 : Int32} {u5 : Int32} {sg : ST} {v : Int32} {s : ST}, k91 u0 u1 u2 u3 u4 u5 sg = some (v, s) → Fr W sg s) {x1 : Int32} {x2 : Int32} {x3 : Int32} {x4 : Int32} {x6 : Int32} {x7 : Int32} {x8 : Int32} {x9 : Int32} {x10 : Int32} {x11 : Int32} {x12 : Int32} {sg : ST} {v : Int32} {s : ST} (h : f_X12_sheet_217 k91 x1 x2 x3 x4 x6 x7 x8 x9 x10 x11 x12 sg = some (v, s)) : Fr W sg s := by
  unfold f_X12_sheet_217 at h
  have F := Fr.rf W sg
  refine F.tr (fr_X12_sheet_218 (fun x hx => hW x (by unfold W_X12_sheet_218 at hx; unfold W_X12_sheet_217; omega)) (fun h => hk91 h) h)
def W_X12_sheet_91 (x : Nat) : Prop := x = 247 ∨ x = 255 ∨ x = 256 ∨ x = 257 ∨ x = 258 ∨ x = 259 ∨ x = 260 ∨ x = 261
theorem fr_X12_sheet_91 {W : Nat → Prop} (hW : ∀ x, W_X12_sheet_91 x → W x) : ∀ (n : Nat) {x1 : Int32} {x2 : Int32} {x3 : Int32} {x4 : Int32} {x6 : Int32} {x7 : Int32} {sg : ST} {v : Int32} {s : ST}, f_X12_sheet_91 n x1 x2 x3 x4 x6 x7 sg = some (v, s) → Fr W sg s := by
  intro n
  induction n with
  | zero => intro _ _ _ _ _ _ _ _ _ h; rw [f_X12_sheet_91] at h; cases h
  | succ n ih =>
    intro x1 x2 x3 x4 x6 x7 sg v s h
    rw [f_X12_sheet_91] at h
    have F := Fr.rf W sg
    rcases ite_or h with h | h
    · obtain ⟨v8, -, h⟩ := bd_some h
      obtain ⟨v9, -, h⟩ := bd_some h
      obtain ⟨v10, -, h⟩ := bd_some h
      obtain ⟨v11, -, h⟩ := bd_some h
      obtain ⟨v12, -, h⟩ := bd_some h
      rcases ite_or h with h | h
      · refine F.tr (fr_X12_sheet_217 (fun x hx => hW x (by unfold W_X12_sheet_217 at hx; unfold W_X12_sheet_91; omega)) (fun h => ih h) h)
      · rcases ite_or h with h | h
        · obtain ⟨v26, s25, hp, h⟩ := bd2_some h
          replace F := F.tr (Fr.mono (fr_X12_areHours hp) (fun x hx => by unfold W_X12_areHours at hx; exact hx.elim))
          rcases ite_or h with h | h
          · refine F.tr (fr_X12_sheet_217 (fun x hx => hW x (by unfold W_X12_sheet_217 at hx; unfold W_X12_sheet_91; omega)) (fun h => ih h) h)
          · rcases ite_or h with h | h
            · refine F.tr (fr_X12_sheet_218 (fun x hx => hW x (by unfold W_X12_sheet_218 at hx; unfold W_X12_sheet_91; omega)) (fun h => ih h) h)
            · refine F.tr (fr_X12_sheet_217 (fun x hx => hW x (by unfold W_X12_sheet_217 at hx; unfold W_X12_sheet_91; omega)) (fun h => ih h) h)
        · refine F.tr (fr_X12_sheet_217 (fun x hx => hW x (by unfold W_X12_sheet_217 at hx; unfold W_X12_sheet_91; omega)) (fun h => ih h) h)
    · cases h; exact F
def W_X12_sheet (x : Nat) : Prop := x = 247 ∨ x = 255 ∨ x = 256 ∨ x = 257 ∨ x = 258 ∨ x = 259 ∨ x = 260 ∨ x = 261 ∨ x = 294
theorem fr_X12_sheet {x1 : Int32} {x2 : Int32} {x3 : Int32} {x4 : Int32} {σ : ST} {v : Int32} {s : ST} (h : f_X12_sheet x1 x2 x3 x4 σ = some (v, s)) : Fr (W_X12_sheet ) σ s := by
  unfold f_X12_sheet at h
  have F := Fr.rf (W_X12_sheet ) σ
  obtain ⟨v2, s1, hp, h⟩ := bd2_some h
  replace F := F.tr (Fr.mono (fr_X12_isMouth hp) (fun x hx => by unfold W_X12_isMouth at hx; exact hx.elim))
  rcases ite_or h with h | h
  · obtain ⟨v36, s35, hp, h⟩ := bd2_some h
    replace F := F.tr (Fr.mono (fr_X12_no hp) (fun x hx => by unfold W_X12_no at hx; unfold W_X12_sheet; omega))
    cases h; exact F
  · obtain ⟨v4, s3, hp, h⟩ := bd2_some h
    replace F := F.tr (Fr.mono (fr_X12_noRow hp) (fun x hx => by unfold W_X12_noRow at hx; exact hx.elim))
    rcases ite_or h with h | h
    · obtain ⟨v34, s33, hp, h⟩ := bd2_some h
      replace F := F.tr (Fr.mono (fr_X12_no hp) (fun x hx => by unfold W_X12_no at hx; unfold W_X12_sheet; omega))
      cases h; exact F
    · rcases ite_or h with h | h
      · obtain ⟨v32, s31, hp, h⟩ := bd2_some h
        replace F := F.tr (Fr.mono (fr_X12_no hp) (fun x hx => by unfold W_X12_no at hx; unfold W_X12_sheet; omega))
        cases h; exact F
      · rcases ite_or h with h | h
        · obtain ⟨v6, s5, hp, h⟩ := bd2_some h
          replace F := F.tr (Fr.mono (fr_X12_no hp) (fun x hx => by unfold W_X12_no at hx; unfold W_X12_sheet; omega))
          cases h; exact F
        · obtain ⟨v7, -, h⟩ := bd_some h
          rcases ite_or h with h | h
          · obtain ⟨v30, s29, hp, h⟩ := bd2_some h
            replace F := F.tr (Fr.mono (fr_X12_no hp) (fun x hx => by unfold W_X12_no at hx; unfold W_X12_sheet; omega))
            cases h; exact F
          · rcases ite_or h with h | h
            · refine F.tr (fr_X12_sheet_91 (fun x hx => by unfold W_X12_sheet_91 at hx; unfold W_X12_sheet; omega) FU h)
            · obtain ⟨v28, s27, hp, h⟩ := bd2_some h
              replace F := F.tr (Fr.mono (fr_X12_no hp) (fun x hx => by unfold W_X12_no at hx; unfold W_X12_sheet; omega))
              cases h; exact F
def W_X12_by_23 (x : Nat) : Prop := x = 261
theorem fr_X12_by_23 {W : Nat → Prop} (hW : ∀ x, W_X12_by_23 x → W x) {x1 : Int32} {z0 : Int32} {sg : ST} {v : Int32} {s : ST} (h : f_X12_by_23 x1 z0 sg = some (v, s)) : Fr W sg s := by
  unfold f_X12_by_23 at h
  have F := Fr.rf W sg
  obtain ⟨v3, -, h⟩ := bd_some h
  rcases ite_or h with h | h
  · cases h; exact F
  · obtain ⟨s4, hw, h⟩ := bd_some h
    replace F := F.tr (Fr_wrI (hW _ (by unfold W_X12_by_23; omega)) hw)
    cases h; exact F
def W_X12_by (x : Nat) : Prop := x = 261 ∨ x = 294
theorem fr_X12_by {x1 : Int32} {x2 : Int32} {σ : ST} {v : Int32} {s : ST} (h : f_X12_by x1 x2 σ = some (v, s)) : Fr (W_X12_by ) σ s := by
  unfold f_X12_by at h
  have F := Fr.rf (W_X12_by ) σ
  obtain ⟨v2, s1, hp, h⟩ := bd2_some h
  replace F := F.tr (Fr.mono (fr_X12_isPiece hp) (fun x hx => by unfold W_X12_isPiece at hx; exact hx.elim))
  rcases ite_or h with h | h
  · obtain ⟨v6, s5, hp, h⟩ := bd2_some h
    replace F := F.tr (Fr.mono (fr_X12_no hp) (fun x hx => by unfold W_X12_no at hx; unfold W_X12_by; omega))
    cases h; exact F
  · rcases ite_or h with h | h
    · refine F.tr (fr_X12_by_23 (fun x hx => by unfold W_X12_by_23 at hx; unfold W_X12_by; omega) h)
    · refine F.tr (fr_X12_by_23 (fun x hx => by unfold W_X12_by_23 at hx; unfold W_X12_by; omega) h)
def W_X12_pieceOf (x : Nat) : Prop := x = 294
theorem fr_X12_pieceOf {x1 : Int32} {x2 : Int32} {σ : ST} {v : Int32} {s : ST} (h : f_X12_pieceOf x1 x2 σ = some (v, s)) : Fr (W_X12_pieceOf ) σ s := by
  unfold f_X12_pieceOf at h
  have F := Fr.rf (W_X12_pieceOf ) σ
  obtain ⟨v2, s1, hp, h⟩ := bd2_some h
  replace F := F.tr (Fr.mono (fr_X12_isPiece hp) (fun x hx => by unfold W_X12_isPiece at hx; exact hx.elim))
  rcases ite_or h with h | h
  · obtain ⟨v4, s3, hp, h⟩ := bd2_some h
    replace F := F.tr (Fr.mono (fr_X12_no hp) (fun x hx => by unfold W_X12_no at hx; unfold W_X12_pieceOf; omega))
    cases h; exact F
  · rcases ite_or h with h | h
    · obtain ⟨v6, s5, hp, h⟩ := bd2_some h
      replace F := F.tr (Fr.mono (fr_X12_no hp) (fun x hx => by unfold W_X12_no at hx; unfold W_X12_pieceOf; omega))
      cases h; exact F
    · rcases ite_or h with h | h
      · obtain ⟨v15, s14, hp, h⟩ := bd2_some h
        replace F := F.tr (Fr.mono (fr_X12_no hp) (fun x hx => by unfold W_X12_no at hx; unfold W_X12_pieceOf; omega))
        cases h; exact F
      · rcases ite_or h with h | h
        · obtain ⟨v13, -, h⟩ := bd_some h
          cases h; exact F
        · rcases ite_or h with h | h
          · obtain ⟨v12, -, h⟩ := bd_some h
            cases h; exact F
          · rcases ite_or h with h | h
            · obtain ⟨v11, -, h⟩ := bd_some h
              cases h; exact F
            · rcases ite_or h with h | h
              · obtain ⟨v10, -, h⟩ := bd_some h
                cases h; exact F
              · rcases ite_or h with h | h
                · obtain ⟨v9, -, h⟩ := bd_some h
                  cases h; exact F
                · rcases ite_or h with h | h
                  · obtain ⟨v8, -, h⟩ := bd_some h
                    cases h; exact F
                  · obtain ⟨v7, -, h⟩ := bd_some h
                    cases h; exact F
def W_X12_holds__161 (a1 : Nat) (n1 : Nat) (x : Nat) : Prop := False
theorem fr_X12_holds__161 {a1 : Nat} {n1 : Nat} {k6 : Int32 → Int32 → Int32 → Int32 → ST → Option (Int32 × ST)} {W : Nat → Prop} (hW : ∀ x, W_X12_holds__161 a1 n1 x → W x) (hk6 : ∀ {u0 : Int32} {u1 : Int32} {u2 : Int32} {u3 : Int32} {sg : ST} {v : Int32} {s : ST}, k6 u0 u1 u2 u3 sg = some (v, s) → Fr W sg s) {x2 : Int32} {x3 : Int32} {x5 : Int32} {x7 : Int32} {z0 : Int32} {sg : ST} {v : Int32} {s : ST} (h : f_X12_holds__161 a1 n1 k6 x2 x3 x5 x7 z0 sg = some (v, s)) : Fr W sg s := by
  unfold f_X12_holds__161 at h
  have F := Fr.rf W sg
  rcases ite_or h with h | h
  · exact F.tr (hk6 h)
  · exact F.tr (hk6 h)
def W_X12_holds__144 (a1 : Nat) (n1 : Nat) (x : Nat) : Prop := False
theorem fr_X12_holds__144 {a1 : Nat} {n1 : Nat} {k6 : Int32 → Int32 → Int32 → Int32 → ST → Option (Int32 × ST)} {W : Nat → Prop} (hW : ∀ x, W_X12_holds__144 a1 n1 x → W x) (hk6 : ∀ {u0 : Int32} {u1 : Int32} {u2 : Int32} {u3 : Int32} {sg : ST} {v : Int32} {s : ST}, k6 u0 u1 u2 u3 sg = some (v, s) → Fr W sg s) {x2 : Int32} {x3 : Int32} {x4 : Int32} {x5 : Int32} {x7 : Int32} {x8 : Int32} {x9 : Int32} {sg : ST} {v : Int32} {s : ST} (h : f_X12_holds__144 a1 n1 k6 x2 x3 x4 x5 x7 x8 x9 sg = some (v, s)) : Fr W sg s := by
  unfold f_X12_holds__144 at h
  have F := Fr.rf W sg
  rcases ite_or h with h | h
  · exact F.tr (hk6 h)
  · rcases ite_or h with h | h
    · refine F.tr (fr_X12_holds__161 (fun x hx => hW x (by unfold W_X12_holds__161 at hx; unfold W_X12_holds__144; omega)) (fun h => hk6 h) h)
    · refine F.tr (fr_X12_holds__161 (fun x hx => hW x (by unfold W_X12_holds__161 at hx; unfold W_X12_holds__144; omega)) (fun h => hk6 h) h)
def W_X12_holds__89 (a1 : Nat) (n1 : Nat) (x : Nat) : Prop := False
theorem fr_X12_holds__89 {a1 : Nat} {n1 : Nat} {k6 : Int32 → Int32 → Int32 → Int32 → ST → Option (Int32 × ST)} {W : Nat → Prop} (hW : ∀ x, W_X12_holds__89 a1 n1 x → W x) (hk6 : ∀ {u0 : Int32} {u1 : Int32} {u2 : Int32} {u3 : Int32} {sg : ST} {v : Int32} {s : ST}, k6 u0 u1 u2 u3 sg = some (v, s) → Fr W sg s) {x2 : Int32} {x3 : Int32} {x4 : Int32} {x5 : Int32} {x7 : Int32} {sg : ST} {v : Int32} {s : ST} (h : f_X12_holds__89 a1 n1 k6 x2 x3 x4 x5 x7 sg = some (v, s)) : Fr W sg s := by
  unfold f_X12_holds__89 at h
  have F := Fr.rf W sg
  obtain ⟨v3, -, h⟩ := bd_some h
  obtain ⟨v4, -, h⟩ := bd_some h
  rcases ite_or h with h | h
  · obtain ⟨v5, -, h⟩ := bd_some h
    rcases ite_or h with h | h
    · obtain ⟨v6, -, h⟩ := bd_some h
      refine F.tr (fr_X12_holds__144 (fun x hx => hW x (by unfold W_X12_holds__144 at hx; unfold W_X12_holds__89; omega)) (fun h => hk6 h) h)
    · refine F.tr (fr_X12_holds__144 (fun x hx => hW x (by unfold W_X12_holds__144 at hx; unfold W_X12_holds__89; omega)) (fun h => hk6 h) h)
  · refine F.tr (fr_X12_holds__144 (fun x hx => hW x (by unfold W_X12_holds__144 at hx; unfold W_X12_holds__89; omega)) (fun h => hk6 h) h)
def W_X12_holds__79 (a1 : Nat) (n1 : Nat) (x : Nat) : Prop := False
theorem fr_X12_holds__79 {a1 : Nat} {n1 : Nat} {k6 : Int32 → Int32 → Int32 → Int32 → ST → Option (Int32 × ST)} {W : Nat → Prop} (hW : ∀ x, W_X12_holds__79 a1 n1 x → W x) (hk6 : ∀ {u0 : Int32} {u1 : Int32} {u2 : Int32} {u3 : Int32} {sg : ST} {v : Int32} {s : ST}, k6 u0 u1 u2 u3 sg = some (v, s) → Fr W sg s) {x2 : Int32} {x3 : Int32} {x4 : Int32} {x5 : Int32} {z0 : Int32} {sg : ST} {v : Int32} {s : ST} (h : f_X12_holds__79 a1 n1 k6 x2 x3 x4 x5 z0 sg = some (v, s)) : Fr W sg s := by
  unfold f_X12_holds__79 at h
  have F := Fr.rf W sg
  rcases ite_or h with h | h
  · refine F.tr (fr_X12_holds__89 (fun x hx => hW x (by unfold W_X12_holds__89 at hx; unfold W_X12_holds__79; omega)) (fun h => hk6 h) h)
  · refine F.tr (fr_X12_holds__89 (fun x hx => hW x (by unfold W_X12_holds__89 at hx; unfold W_X12_holds__79; omega)) (fun h => hk6 h) h)
def W_X12_holds__6 (a1 : Nat) (n1 : Nat) (x : Nat) : Prop := False
theorem fr_X12_holds__6 {a1 : Nat} {n1 : Nat} {W : Nat → Prop} (hW : ∀ x, W_X12_holds__6 a1 n1 x → W x) : ∀ (n : Nat) {x2 : Int32} {x3 : Int32} {x4 : Int32} {x5 : Int32} {sg : ST} {v : Int32} {s : ST}, f_X12_holds__6 a1 n1 n x2 x3 x4 x5 sg = some (v, s) → Fr W sg s := by
  intro n
  induction n with
  | zero => intro _ _ _ _ _ _ _ h; rw [f_X12_holds__6] at h; cases h
  | succ n ih =>
    intro x2 x3 x4 x5 sg v s h
    rw [f_X12_holds__6] at h
    have F := Fr.rf W sg
    rcases ite_or h with h | h
    · obtain ⟨v1, -, h⟩ := bd_some h
      rcases ite_or h with h | h
      · rw [zr_st h]; exact F
      · obtain ⟨v2, -, h⟩ := bd_some h
        rcases ite_or h with h | h
        · rcases ite_or h with h | h
          · exact F.tr (ih h)
          · cases h; exact F
        · rcases ite_or h with h | h
          · exact F.tr (ih h)
          · rcases ite_or h with h | h
            · refine F.tr (fr_X12_holds__79 (fun x hx => hW x (by unfold W_X12_holds__79 at hx; unfold W_X12_holds__6; omega)) (fun h => ih h) h)
            · refine F.tr (fr_X12_holds__79 (fun x hx => hW x (by unfold W_X12_holds__79 at hx; unfold W_X12_holds__6; omega)) (fun h => ih h) h)
    · rw [zr_st h]; exact F
def W_X12_holds_ (a1 : Nat) (n1 : Nat) (x : Nat) : Prop := False
theorem fr_X12_holds_ {a1 : Nat} {n1 : Nat} {x2 : Int32} {x3 : Int32} {σ : ST} {v : Int32} {s : ST} (h : f_X12_holds_ a1 n1 x2 x3 σ = some (v, s)) : Fr (W_X12_holds_ a1 n1) σ s := by
  unfold f_X12_holds_ at h
  have F := Fr.rf (W_X12_holds_ a1 n1) σ
  refine F.tr (fr_X12_holds__6 (fun x hx => by unfold W_X12_holds__6 at hx; unfold W_X12_holds_; omega) FU h)
def W_X12_thenOf_15 (x : Nat) : Prop := False
theorem fr_X12_thenOf_15 {k36 : Int32 → Int32 → Int32 → Int32 → Int32 → ST → Option (Int32 × ST)} {W : Nat → Prop} (hW : ∀ x, W_X12_thenOf_15 x → W x) (hk36 : ∀ {u0 : Int32} {u1 : Int32} {u2 : Int32} {u3 : Int32} {u4 : Int32} {sg : ST} {v : Int32} {s : ST}, k36 u0 u1 u2 u3 u4 sg = some (v, s) → Fr W sg s) : ∀ (n : Nat) {x1 : Int32} {x4 : Int32} {x5 : Int32} {x6 : Int32} {x7 : Int32} {sg : ST} {v : Int32} {s : ST}, f_X12_thenOf_15 k36 n x1 x4 x5 x6 x7 sg = some (v, s) → Fr W sg s := by
  intro n
  induction n with
  | zero => intro _ _ _ _ _ _ _ _ h; rw [f_X12_thenOf_15] at h; cases h
  | succ n ih =>
    intro x1 x4 x5 x6 x7 sg v s h
    rw [f_X12_thenOf_15] at h
    have F := Fr.rf W sg
    obtain ⟨v1, -, h⟩ := bd_some h
    rcases ite_or h with h | h
    · exact F.tr (hk36 h)
    · exact F.tr (ih h)
def W_X12_thenOf_85 (x : Nat) : Prop := False
theorem fr_X12_thenOf_85 {k112 : Int32 → Int32 → Int32 → Int32 → Int32 → Int32 → Int32 → ST → Option (Int32 × ST)} {W : Nat → Prop} (hW : ∀ x, W_X12_thenOf_85 x → W x) (hk112 : ∀ {u0 : Int32} {u1 : Int32} {u2 : Int32} {u3 : Int32} {u4 : Int32} {u5 : Int32} {u6 : Int32} {sg : ST} {v : Int32} {s : ST}, k112 u0 u1 u2 u3 u4 u5 u6 sg = some (v, s) → Fr W sg s) : ∀ (n : Nat) {x1 : Int32} {x4 : Int32} {x5 : Int32} {x6 : Int32} {x7 : Int32} {x8 : Int32} {x9 : Int32} {x10 : Int32} {x11 : Int32} {sg : ST} {v : Int32} {s : ST}, f_X12_thenOf_85 k112 n x1 x4 x5 x6 x7 x8 x9 x10 x11 sg = some (v, s) → Fr W sg s := by
  intro n
  induction n with
  | zero => intro _ _ _ _ _ _ _ _ _ _ _ _ h; rw [f_X12_thenOf_85] at h; cases h
  | succ n ih =>
    intro x1 x4 x5 x6 x7 x8 x9 x10 x11 sg v s h
    rw [f_X12_thenOf_85] at h
    have F := Fr.rf W sg
    rcases ite_or h with h | h
    · obtain ⟨v11, -, h⟩ := bd_some h
      rcases ite_or h with h | h
      · exact F.tr (ih h)
      · exact F.tr (ih h)
    · exact F.tr (hk112 h)
def W_X12_thenOf_146 (x : Nat) : Prop := False
theorem fr_X12_thenOf_146 {k39 : Int32 → Int32 → Int32 → Int32 → Int32 → ST → Option (Int32 × ST)} {W : Nat → Prop} (hW : ∀ x, W_X12_thenOf_146 x → W x) (hk39 : ∀ {u0 : Int32} {u1 : Int32} {u2 : Int32} {u3 : Int32} {u4 : Int32} {sg : ST} {v : Int32} {s : ST}, k39 u0 u1 u2 u3 u4 sg = some (v, s) → Fr W sg s) {x1 : Int32} {x4 : Int32} {x5 : Int32} {x6 : Int32} {x7 : Int32} {x8 : Int32} {sg : ST} {v : Int32} {s : ST} (h : f_X12_thenOf_146 k39 x1 x4 x5 x6 x7 x8 sg = some (v, s)) : Fr W sg s := by
  unfold f_X12_thenOf_146 at h
  have F := Fr.rf W sg
  rcases ite_or h with h | h
  · exact F.tr (hk39 h)
  · exact F.tr (hk39 h)
def W_X12_thenOf_128 (x : Nat) : Prop := False
theorem fr_X12_thenOf_128 {k39 : Int32 → Int32 → Int32 → Int32 → Int32 → ST → Option (Int32 × ST)} {W : Nat → Prop} (hW : ∀ x, W_X12_thenOf_128 x → W x) (hk39 : ∀ {u0 : Int32} {u1 : Int32} {u2 : Int32} {u3 : Int32} {u4 : Int32} {sg : ST} {v : Int32} {s : ST}, k39 u0 u1 u2 u3 u4 sg = some (v, s) → Fr W sg s) {x1 : Int32} {x4 : Int32} {x5 : Int32} {x6 : Int32} {x7 : Int32} {x8 : Int32} {x10 : Int32} {sg : ST} {v : Int32} {s : ST} (h : f_X12_thenOf_128 k39 x1 x4 x5 x6 x7 x8 x10 sg = some (v, s)) : Fr W sg s := by
  unfold f_X12_thenOf_128 at h
  have F := Fr.rf W sg
  rcases ite_or h with h | h
  · refine F.tr (fr_X12_thenOf_146 (fun x hx => hW x (by unfold W_X12_thenOf_146 at hx; unfold W_X12_thenOf_128; omega)) (fun h => hk39 h) h)
  · refine F.tr (fr_X12_thenOf_146 (fun x hx => hW x (by unfold W_X12_thenOf_146 at hx; unfold W_X12_thenOf_128; omega)) (fun h => hk39 h) h)
def W_X12_thenOf_39 (x : Nat) : Prop := False
theorem fr_X12_thenOf_39 {W : Nat → Prop} (hW : ∀ x, W_X12_thenOf_39 x → W x) : ∀ (n : Nat) {x1 : Int32} {x4 : Int32} {x5 : Int32} {x6 : Int32} {x7 : Int32} {sg : ST} {v : Int32} {s : ST}, f_X12_thenOf_39 n x1 x4 x5 x6 x7 sg = some (v, s) → Fr W sg s := by
  intro n
  induction n with
  | zero => intro _ _ _ _ _ _ _ _ h; rw [f_X12_thenOf_39] at h; cases h
  | succ n ih =>
    intro x1 x4 x5 x6 x7 sg v s h
    rw [f_X12_thenOf_39] at h
    have F := Fr.rf W sg
    obtain ⟨v8, -, h⟩ := bd_some h
    rcases ite_or h with h | h
    · obtain ⟨v9, -, h⟩ := bd_some h
      obtain ⟨v10, -, h⟩ := bd_some h
      refine F.tr (fr_X12_thenOf_85 (fun x hx => hW x (by unfold W_X12_thenOf_85 at hx; unfold W_X12_thenOf_39; omega)) ?_ FU h)
      · intro x1_12 x4_13 x5_14 x6_15 x7_16 x8_17 x10_18 s19 _ _ h
        have F := Fr.rf W s19
        rcases ite_or h with h | h
        · refine F.tr (fr_X12_thenOf_128 (fun x hx => hW x (by unfold W_X12_thenOf_128 at hx; unfold W_X12_thenOf_39; omega)) (fun h => ih h) h)
        · refine F.tr (fr_X12_thenOf_128 (fun x hx => hW x (by unfold W_X12_thenOf_128 at hx; unfold W_X12_thenOf_39; omega)) (fun h => ih h) h)
    · cases h; exact F
def W_X12_thenOf (x : Nat) : Prop := False
theorem fr_X12_thenOf {x1 : Int32} {x2 : Int32} {x3 : Int32} {σ : ST} {v : Int32} {s : ST} (h : f_X12_thenOf x1 x2 x3 σ = some (v, s)) : Fr (W_X12_thenOf ) σ s := by
  unfold f_X12_thenOf at h
  have F := Fr.rf (W_X12_thenOf ) σ
  refine F.tr (fr_X12_thenOf_15 (fun x hx => by unfold W_X12_thenOf_15 at hx; unfold W_X12_thenOf; omega) ?_ FU h)
  · intro x1_2 x4_3 x5_4 x6_5 x7_6 s7 _ _ h
    have F := Fr.rf (W_X12_thenOf ) s7
    refine F.tr (fr_X12_thenOf_39 (fun x hx => by unfold W_X12_thenOf_39 at hx; unfold W_X12_thenOf; omega) FU h)
def W_X12_makeMoments_25 (x : Nat) : Prop := x = 247
theorem fr_X12_makeMoments_25 {k54 : ST → Option ST} {W : Nat → Prop} (hW : ∀ x, W_X12_makeMoments_25 x → W x) (hk54 : ∀ {sg : ST} {s : ST}, k54 sg = some s → Fr W sg s) : ∀ (n : Nat) {x1 : Int32} {sg : ST} {s : ST}, f_X12_makeMoments_25 k54 n x1 sg = some s → Fr W sg s := by
  intro n
  induction n with
  | zero => intro _ _ _ h; rw [f_X12_makeMoments_25] at h; cases h
  | succ n ih =>
    intro x1 sg s h
    rw [f_X12_makeMoments_25] at h
    have F := Fr.rf W sg
    rcases ite_or h with h | h
    · obtain ⟨v8, -, h⟩ := bd_some h
      rcases ite_or h with h | h
      · obtain ⟨s9, hw, h⟩ := bd_some h
        replace F := F.tr (Fr_pfI (hW _ (by unfold W_X12_makeMoments_25; omega)) hw)
        exact F.tr (ih h)
      · exact F.tr (ih h)
    · exact F.tr (hk54 h)
def W_X12_makeMoments_259 (x : Nat) : Prop := False
theorem fr_X12_makeMoments_259 {k133 : Int32 → Int32 → Int32 → Int32 → Int32 → Int32 → Int32 → Int32 → ST → Option ST} {W : Nat → Prop} (hW : ∀ x, W_X12_makeMoments_259 x → W x) (hk133 : ∀ {u0 : Int32} {u1 : Int32} {u2 : Int32} {u3 : Int32} {u4 : Int32} {u5 : Int32} {u6 : Int32} {u7 : Int32} {sg : ST} {s : ST}, k133 u0 u1 u2 u3 u4 u5 u6 u7 sg = some s → Fr W sg s) {x1 : Int32} {x2 : Int32} {x3 : Int32} {x4 : Int32} {x5 : Int32} {x6 : Int32} {x7 : Int32} {x8 : Int32} {sg : ST} {s : ST} (h : f_X12_makeMoments_259 k133 x1 x2 x3 x4 x5 x6 x7 x8 sg = some s) : Fr W sg s := by
  unfold f_X12_makeMoments_259 at h
  have F := Fr.rf W sg
  obtain ⟨v19, -, h⟩ := bd_some h
  rcases ite_or h with h | h
  · exact F.tr (hk133 h)
  · exact F.tr (hk133 h)
def W_X12_makeMoments_258 (x : Nat) : Prop := x = 266
theorem fr_X12_makeMoments_258 {k133 : Int32 → Int32 → Int32 → Int32 → Int32 → Int32 → Int32 → Int32 → ST → Option ST} {W : Nat → Prop} (hW : ∀ x, W_X12_makeMoments_258 x → W x) (hk133 : ∀ {u0 : Int32} {u1 : Int32} {u2 : Int32} {u3 : Int32} {u4 : Int32} {u5 : Int32} {u6 : Int32} {u7 : Int32} {sg : ST} {s : ST}, k133 u0 u1 u2 u3 u4 u5 u6 u7 sg = some s → Fr W sg s) {x1 : Int32} {x2 : Int32} {x3 : Int32} {x4 : Int32} {x5 : Int32} {x6 : Int32} {x7 : Int32} {x8 : Int32} {z1 : Int32} {z2 : Int32} {sg : ST} {s : ST} (h : f_X12_makeMoments_258 k133 x1 x2 x3 x4 x5 x6 x7 x8 z1 z2 sg = some s) : Fr W sg s := by
  unfold f_X12_makeMoments_258 at h
  have F := Fr.rf W sg
  obtain ⟨s18, hw, h⟩ := bd_some h
  replace F := F.tr (Fr_wrI (hW _ (by unfold W_X12_makeMoments_258; omega)) hw)
  refine F.tr (fr_X12_makeMoments_259 (fun x hx => hW x (by unfold W_X12_makeMoments_259 at hx; unfold W_X12_makeMoments_258; omega)) (fun h => hk133 h) h)
def W_X12_makeMoments_133 (x : Nat) : Prop := x = 266
theorem fr_X12_makeMoments_133 {k284 : Int32 → Int32 → Int32 → Int32 → ST → Option ST} {W : Nat → Prop} (hW : ∀ x, W_X12_makeMoments_133 x → W x) (hk284 : ∀ {u0 : Int32} {u1 : Int32} {u2 : Int32} {u3 : Int32} {sg : ST} {s : ST}, k284 u0 u1 u2 u3 sg = some s → Fr W sg s) : ∀ (n : Nat) {x1 : Int32} {x2 : Int32} {x3 : Int32} {x4 : Int32} {x5 : Int32} {x6 : Int32} {x7 : Int32} {x8 : Int32} {sg : ST} {s : ST}, f_X12_makeMoments_133 k284 n x1 x2 x3 x4 x5 x6 x7 x8 sg = some s → Fr W sg s := by
  intro n
  induction n with
  | zero => intro _ _ _ _ _ _ _ _ _ _ h; rw [f_X12_makeMoments_133] at h; cases h
  | succ n ih =>
    intro x1 x2 x3 x4 x5 x6 x7 x8 sg s h
    rw [f_X12_makeMoments_133] at h
    have F := Fr.rf W sg
    rcases ite_or h with h | h
    · obtain ⟨v12, -, h⟩ := bd_some h
      rcases ite_or h with h | h
      · obtain ⟨s22, hw, h⟩ := bd_some h
        replace F := F.tr (Fr_wrI (hW _ (by unfold W_X12_makeMoments_133; omega)) hw)
        refine F.tr (fr_X12_makeMoments_259 (fun x hx => hW x (by unfold W_X12_makeMoments_259 at hx; unfold W_X12_makeMoments_133; omega)) (fun h => ih h) h)
      · obtain ⟨v13, -, h⟩ := bd_some h
        rcases ite_or h with h | h
        · obtain ⟨s21, hw, h⟩ := bd_some h
          replace F := F.tr (Fr_wrI (hW _ (by unfold W_X12_makeMoments_133; omega)) hw)
          refine F.tr (fr_X12_makeMoments_259 (fun x hx => hW x (by unfold W_X12_makeMoments_259 at hx; unfold W_X12_makeMoments_133; omega)) (fun h => ih h) h)
        · obtain ⟨v14, -, h⟩ := bd_some h
          rcases ite_or h with h | h
          · obtain ⟨s20, hw, h⟩ := bd_some h
            replace F := F.tr (Fr_wrI (hW _ (by unfold W_X12_makeMoments_133; omega)) hw)
            refine F.tr (fr_X12_makeMoments_259 (fun x hx => hW x (by unfold W_X12_makeMoments_259 at hx; unfold W_X12_makeMoments_133; omega)) (fun h => ih h) h)
          · obtain ⟨v15, -, h⟩ := bd_some h
            obtain ⟨v17, s16, hp, h⟩ := bd2_some h
            replace F := F.tr (Fr.mono (fr_X12_holds_ hp) (fun x hx => by unfold W_X12_holds_ at hx; exact hx.elim))
            rcases ite_or h with h | h
            · refine F.tr (fr_X12_makeMoments_258 (fun x hx => hW x (by unfold W_X12_makeMoments_258 at hx; unfold W_X12_makeMoments_133; omega)) (fun h => ih h) h)
            · refine F.tr (fr_X12_makeMoments_258 (fun x hx => hW x (by unfold W_X12_makeMoments_258 at hx; unfold W_X12_makeMoments_133; omega)) (fun h => ih h) h)
    · exact F.tr (hk284 h)
def W_X12_makeMoments_438 (x : Nat) : Prop := x = 269
theorem fr_X12_makeMoments_438 {k366 : Int32 → Int32 → Int32 → Int32 → ST → Option ST} {W : Nat → Prop} (hW : ∀ x, W_X12_makeMoments_438 x → W x) (hk366 : ∀ {u0 : Int32} {u1 : Int32} {u2 : Int32} {u3 : Int32} {sg : ST} {s : ST}, k366 u0 u1 u2 u3 sg = some s → Fr W sg s) {x1 : Int32} {x2 : Int32} {x8 : Int32} {x9 : Int32} {x10 : Int32} {sg : ST} {s : ST} (h : f_X12_makeMoments_438 k366 x1 x2 x8 x9 x10 sg = some s) : Fr W sg s := by
  unfold f_X12_makeMoments_438 at h
  have F := Fr.rf W sg
  rcases ite_or h with h | h
  · obtain ⟨v32, -, h⟩ := bd_some h
    obtain ⟨s33, hw, h⟩ := bd_some h
    replace F := F.tr (Fr_wrI (hW _ (by unfold W_X12_makeMoments_438; omega)) hw)
    exact F.tr (hk366 h)
  · obtain ⟨v35, s34, hp, h⟩ := bd2_some h
    replace F := F.tr (Fr.mono (fr_X12_thenOf hp) (fun x hx => by unfold W_X12_thenOf at hx; exact hx.elim))
    obtain ⟨s36, hw, h⟩ := bd_some h
    replace F := F.tr (Fr_wrI (hW _ (by unfold W_X12_makeMoments_438; omega)) hw)
    exact F.tr (hk366 h)
def W_X12_makeMoments_418 (x : Nat) : Prop := x = 268 ∨ x = 269
theorem fr_X12_makeMoments_418 {k366 : Int32 → Int32 → Int32 → Int32 → ST → Option ST} {W : Nat → Prop} (hW : ∀ x, W_X12_makeMoments_418 x → W x) (hk366 : ∀ {u0 : Int32} {u1 : Int32} {u2 : Int32} {u3 : Int32} {sg : ST} {s : ST}, k366 u0 u1 u2 u3 sg = some s → Fr W sg s) {x1 : Int32} {x2 : Int32} {x8 : Int32} {x9 : Int32} {z0 : Int32} {sg : ST} {s : ST} (h : f_X12_makeMoments_418 k366 x1 x2 x8 x9 z0 sg = some s) : Fr W sg s := by
  unfold f_X12_makeMoments_418 at h
  have F := Fr.rf W sg
  rcases ite_or h with h | h
  · refine F.tr (fr_X12_makeMoments_438 (fun x hx => hW x (by unfold W_X12_makeMoments_438 at hx; unfold W_X12_makeMoments_418; omega)) (fun h => hk366 h) h)
  · obtain ⟨v37, -, h⟩ := bd_some h
    obtain ⟨s38, hw, h⟩ := bd_some h
    replace F := F.tr (Fr_wrI (hW _ (by unfold W_X12_makeMoments_418; omega)) hw)
    refine F.tr (fr_X12_makeMoments_438 (fun x hx => hW x (by unfold W_X12_makeMoments_438 at hx; unfold W_X12_makeMoments_418; omega)) (fun h => hk366 h) h)
def W_X12_makeMoments_413 (x : Nat) : Prop := x = 268 ∨ x = 269
theorem fr_X12_makeMoments_413 {k366 : Int32 → Int32 → Int32 → Int32 → ST → Option ST} {W : Nat → Prop} (hW : ∀ x, W_X12_makeMoments_413 x → W x) (hk366 : ∀ {u0 : Int32} {u1 : Int32} {u2 : Int32} {u3 : Int32} {sg : ST} {s : ST}, k366 u0 u1 u2 u3 sg = some s → Fr W sg s) {x1 : Int32} {x2 : Int32} {x8 : Int32} {x9 : Int32} {sg : ST} {s : ST} (h : f_X12_makeMoments_413 k366 x1 x2 x8 x9 sg = some s) : Fr W sg s := by
  unfold f_X12_makeMoments_413 at h
  have F := Fr.rf W sg
  refine F.tr (fr_X12_makeMoments_418 (fun x hx => hW x (by unfold W_X12_makeMoments_418 at hx; unfold W_X12_makeMoments_413; omega)) (fun h => hk366 h) h)
def W_X12_makeMoments_366 (x : Nat) : Prop := x = 268 ∨ x = 269
theorem fr_X12_makeMoments_366 {k485 : Int32 → ST → Option ST} {W : Nat → Prop} (hW : ∀ x, W_X12_makeMoments_366 x → W x) (hk485 : ∀ {u0 : Int32} {sg : ST} {s : ST}, k485 u0 sg = some s → Fr W sg s) : ∀ (n : Nat) {x1 : Int32} {x2 : Int32} {x8 : Int32} {x9 : Int32} {sg : ST} {s : ST}, f_X12_makeMoments_366 k485 n x1 x2 x8 x9 sg = some s → Fr W sg s := by
  intro n
  induction n with
  | zero => intro _ _ _ _ _ _ h; rw [f_X12_makeMoments_366] at h; cases h
  | succ n ih =>
    intro x1 x2 x8 x9 sg s h
    rw [f_X12_makeMoments_366] at h
    have F := Fr.rf W sg
    rcases ite_or h with h | h
    · obtain ⟨v31, -, h⟩ := bd_some h
      rcases ite_or h with h | h
      · refine F.tr (fr_X12_makeMoments_413 (fun x hx => hW x (by unfold W_X12_makeMoments_413 at hx; unfold W_X12_makeMoments_366; omega)) (fun h => ih h) h)
      · obtain ⟨v39, -, h⟩ := bd_some h
        obtain ⟨v41, s40, hp, h⟩ := bd2_some h
        replace F := F.tr (Fr.mono (fr_X12_holds_ hp) (fun x hx => by unfold W_X12_holds_ at hx; exact hx.elim))
        rcases ite_or h with h | h
        · refine F.tr (fr_X12_makeMoments_418 (fun x hx => hW x (by unfold W_X12_makeMoments_418 at hx; unfold W_X12_makeMoments_366; omega)) (fun h => ih h) h)
        · refine F.tr (fr_X12_makeMoments_413 (fun x hx => hW x (by unfold W_X12_makeMoments_413 at hx; unfold W_X12_makeMoments_366; omega)) (fun h => ih h) h)
    · exact F.tr (hk485 h)
def W_X12_makeMoments_338 (x : Nat) : Prop := x = 268 ∨ x = 269
theorem fr_X12_makeMoments_338 {k56 : Int32 → ST → Option ST} {W : Nat → Prop} (hW : ∀ x, W_X12_makeMoments_338 x → W x) (hk56 : ∀ {u0 : Int32} {sg : ST} {s : ST}, k56 u0 sg = some s → Fr W sg s) {x1 : Int32} {x2 : Int32} {x8 : Int32} {sg : ST} {s : ST} (h : f_X12_makeMoments_338 k56 x1 x2 x8 sg = some s) : Fr W sg s := by
  unfold f_X12_makeMoments_338 at h
  have F := Fr.rf W sg
  obtain ⟨s29, hw, h⟩ := bd_some h
  replace F := F.tr (Fr_wrI (hW _ (by unfold W_X12_makeMoments_338; omega)) hw)
  obtain ⟨s30, hw, h⟩ := bd_some h
  replace F := F.tr (Fr_wrI (hW _ (by unfold W_X12_makeMoments_338; omega)) hw)
  refine F.tr (fr_X12_makeMoments_366 (fun x hx => hW x (by unfold W_X12_makeMoments_366 at hx; unfold W_X12_makeMoments_338; omega)) ?_ FU h)
  · intro x1_42 s43 _ h
    have F := Fr.rf W s43
    exact F.tr (hk56 h)
def W_X12_makeMoments_121 (x : Nat) : Prop := x = 266 ∨ x = 267 ∨ x = 268 ∨ x = 269
theorem fr_X12_makeMoments_121 {k56 : Int32 → ST → Option ST} {W : Nat → Prop} (hW : ∀ x, W_X12_makeMoments_121 x → W x) (hk56 : ∀ {u0 : Int32} {sg : ST} {s : ST}, k56 u0 sg = some s → Fr W sg s) {x1 : Int32} {x2 : Int32} {x3 : Int32} {x4 : Int32} {sg : ST} {s : ST} (h : f_X12_makeMoments_121 k56 x1 x2 x3 x4 sg = some s) : Fr W sg s := by
  unfold f_X12_makeMoments_121 at h
  have F := Fr.rf W sg
  refine F.tr (fr_X12_makeMoments_133 (fun x hx => hW x (by unfold W_X12_makeMoments_133 at hx; unfold W_X12_makeMoments_121; omega)) ?_ FU h)
  · intro x1_23 x2_24 x3_25 x5_26 s27 _ h
    have F := Fr.rf W s27
    obtain ⟨s28, hw, h⟩ := bd_some h
    replace F := F.tr (Fr_wrI (hW _ (by unfold W_X12_makeMoments_121; omega)) hw)
    rcases ite_or h with h | h
    · refine F.tr (fr_X12_makeMoments_338 (fun x hx => hW x (by unfold W_X12_makeMoments_338 at hx; unfold W_X12_makeMoments_121; omega)) (fun h => hk56 h) h)
    · rcases ite_or h with h | h
      · obtain ⟨v44, -, h⟩ := bd_some h
        obtain ⟨v46, s45, hp, h⟩ := bd2_some h
        replace F := F.tr (Fr.mono (fr_X12_holds_ hp) (fun x hx => by unfold W_X12_holds_ at hx; exact hx.elim))
        rcases ite_or h with h | h
        · refine F.tr (fr_X12_makeMoments_338 (fun x hx => hW x (by unfold W_X12_makeMoments_338 at hx; unfold W_X12_makeMoments_121; omega)) (fun h => hk56 h) h)
        · refine F.tr (fr_X12_makeMoments_338 (fun x hx => hW x (by unfold W_X12_makeMoments_338 at hx; unfold W_X12_makeMoments_121; omega)) (fun h => hk56 h) h)
      · refine F.tr (fr_X12_makeMoments_338 (fun x hx => hW x (by unfold W_X12_makeMoments_338 at hx; unfold W_X12_makeMoments_121; omega)) (fun h => hk56 h) h)
def W_X12_makeMoments_56 (x : Nat) : Prop := x = 266 ∨ x = 267 ∨ x = 268 ∨ x = 269
theorem fr_X12_makeMoments_56 {W : Nat → Prop} (hW : ∀ x, W_X12_makeMoments_56 x → W x) : ∀ (n : Nat) {x1 : Int32} {sg : ST} {s : ST}, f_X12_makeMoments_56 n x1 sg = some s → Fr W sg s := by
  intro n
  induction n with
  | zero => intro _ _ _ h; rw [f_X12_makeMoments_56] at h; cases h
  | succ n ih =>
    intro x1 sg s h
    rw [f_X12_makeMoments_56] at h
    have F := Fr.rf W sg
    rcases ite_or h with h | h
    · obtain ⟨s11, hw, h⟩ := bd_some h
      replace F := F.tr (Fr_wrI (hW _ (by unfold W_X12_makeMoments_56; omega)) hw)
      rcases ite_or h with h | h
      · rcases ite_or h with h | h
        · rcases ite_or h with h | h
          · rcases ite_or h with h | h
            · exact F.tr (ih h)
            · refine F.tr (fr_X12_makeMoments_121 (fun x hx => hW x (by unfold W_X12_makeMoments_121 at hx; unfold W_X12_makeMoments_56; omega)) (fun h => ih h) h)
          · refine F.tr (fr_X12_makeMoments_121 (fun x hx => hW x (by unfold W_X12_makeMoments_121 at hx; unfold W_X12_makeMoments_56; omega)) (fun h => ih h) h)
        · exact F.tr (ih h)
      · exact F.tr (ih h)
    · cases h; exact F
def W_X12_makeMoments (x : Nat) : Prop := x = 247 ∨ x = 266 ∨ x = 267 ∨ x = 268 ∨ x = 269
theorem fr_X12_makeMoments {σ : ST} {s : ST} (h : f_X12_makeMoments σ = some s) : Fr (W_X12_makeMoments ) σ s := by
  unfold f_X12_makeMoments at h
  have F := Fr.rf (W_X12_makeMoments ) σ
  obtain ⟨v2, s1, hp, h⟩ := bd2_some h
  replace F := F.tr (Fr.mono (fr_X12_many hp) (fun x hx => by unfold W_X12_many at hx; exact hx.elim))
  obtain ⟨s3, hw, h⟩ := bd_some h
  replace F := F.tr (Fr_pfI (by unfold W_X12_makeMoments; omega) hw)
  obtain ⟨v5, s4, hp, h⟩ := bd2_some h
  replace F := F.tr (Fr.mono (fr_X12_many hp) (fun x hx => by unfold W_X12_many at hx; exact hx.elim))
  obtain ⟨s6, hw, h⟩ := bd_some h
  replace F := F.tr (Fr_pfI (by unfold W_X12_makeMoments; omega) hw)
  obtain ⟨s7, hw, h⟩ := bd_some h
  replace F := F.tr (Fr_pfI (by unfold W_X12_makeMoments; omega) hw)
  refine F.tr (fr_X12_makeMoments_25 (fun x hx => by unfold W_X12_makeMoments_25 at hx; unfold W_X12_makeMoments; omega) ?_ FU h)
  · intro s10 _ h
    have F := Fr.rf (W_X12_makeMoments ) s10
    refine F.tr (fr_X12_makeMoments_56 (fun x hx => by unfold W_X12_makeMoments_56 at hx; unfold W_X12_makeMoments; omega) FU h)
def W_X12_tell (x : Nat) : Prop := x = 270
theorem fr_X12_tell {x1 : Int32} {x2 : Int32} {σ : ST} {s : ST} (h : f_X12_tell x1 x2 σ = some s) : Fr (W_X12_tell ) σ s := by
  unfold f_X12_tell at h
  have F := Fr.rf (W_X12_tell ) σ
  obtain ⟨v1, -, h⟩ := bd_some h
  rcases ite_or h with h | h
  · obtain ⟨s2, hw, h⟩ := bd_some h
    replace F := F.tr (Fr_wrI (by unfold W_X12_tell; omega) hw)
    cases h; exact F
  · obtain ⟨v3, -, h⟩ := bd_some h
    rcases ite_or h with h | h
    · obtain ⟨s5, hw, h⟩ := bd_some h
      replace F := F.tr (Fr_wrI (by unfold W_X12_tell; omega) hw)
      cases h; exact F
    · obtain ⟨s4, hw, h⟩ := bd_some h
      replace F := F.tr (Fr_wrI (by unfold W_X12_tell; omega) hw)
      cases h; exact F
def W_X12_gather_8 (x : Nat) : Prop := x = 270 ∨ x = 271 ∨ x = 272 ∨ x = 273 ∨ x = 274
theorem fr_X12_gather_8 {k61 : Int32 → Int32 → Int32 → ST → Option ST} {W : Nat → Prop} (hW : ∀ x, W_X12_gather_8 x → W x) (hk61 : ∀ {u0 : Int32} {u1 : Int32} {u2 : Int32} {sg : ST} {s : ST}, k61 u0 u1 u2 sg = some s → Fr W sg s) : ∀ (n : Nat) {x1 : Int32} {x2 : Int32} {x3 : Int32} {x4 : Int32} {sg : ST} {s : ST}, f_X12_gather_8 k61 n x1 x2 x3 x4 sg = some s → Fr W sg s := by
  intro n
  induction n with
  | zero => intro _ _ _ _ _ _ h; rw [f_X12_gather_8] at h; cases h
  | succ n ih =>
    intro x1 x2 x3 x4 sg s h
    rw [f_X12_gather_8] at h
    have F := Fr.rf W sg
    rcases ite_or h with h | h
    · obtain ⟨s2, hw, h⟩ := bd_some h
      replace F := F.tr (Fr_wrI (hW _ (by unfold W_X12_gather_8; omega)) hw)
      obtain ⟨s3, hw, h⟩ := bd_some h
      replace F := F.tr (Fr_wrI (hW _ (by unfold W_X12_gather_8; omega)) hw)
      obtain ⟨s4, hw, h⟩ := bd_some h
      replace F := F.tr (Fr_wrI (hW _ (by unfold W_X12_gather_8; omega)) hw)
      obtain ⟨s5, hw, h⟩ := bd_some h
      replace F := F.tr (Fr_wrI (hW _ (by unfold W_X12_gather_8; omega)) hw)
      obtain ⟨s6, hw, h⟩ := bd_some h
      replace F := F.tr (Fr_wrI (hW _ (by unfold W_X12_gather_8; omega)) hw)
      exact F.tr (ih h)
    · exact F.tr (hk61 h)
def W_X12_gather_191 (x : Nat) : Prop := x = 272 ∨ x = 273 ∨ x = 274
theorem fr_X12_gather_191 {k126 : Int32 → Int32 → Int32 → Int32 → Int32 → ST → Option ST} {W : Nat → Prop} (hW : ∀ x, W_X12_gather_191 x → W x) (hk126 : ∀ {u0 : Int32} {u1 : Int32} {u2 : Int32} {u3 : Int32} {u4 : Int32} {sg : ST} {s : ST}, k126 u0 u1 u2 u3 u4 sg = some s → Fr W sg s) {x1 : Int32} {x2 : Int32} {x3 : Int32} {x4 : Int32} {x5 : Int32} {sg : ST} {s : ST} (h : f_X12_gather_191 k126 x1 x2 x3 x4 x5 sg = some s) : Fr W sg s := by
  unfold f_X12_gather_191 at h
  have F := Fr.rf W sg
  obtain ⟨v16, -, h⟩ := bd_some h
  rcases ite_or h with h | h
  · obtain ⟨v17, -, h⟩ := bd_some h
    obtain ⟨v18, -, h⟩ := bd_some h
    rcases ite_or h with h | h
    · obtain ⟨v26, -, h⟩ := bd_some h
      rcases ite_or h with h | h
      · obtain ⟨v27, -, h⟩ := bd_some h
        obtain ⟨s28, hw, h⟩ := bd_some h
        replace F := F.tr (Fr_wrI (hW _ (by unfold W_X12_gather_191; omega)) hw)
        exact F.tr (hk126 h)
      · obtain ⟨v29, -, h⟩ := bd_some h
        obtain ⟨v30, -, h⟩ := bd_some h
        rcases ite_or h with h | h
        · obtain ⟨v32, -, h⟩ := bd_some h
          obtain ⟨s33, hw, h⟩ := bd_some h
          replace F := F.tr (Fr_wrI (hW _ (by unfold W_X12_gather_191; omega)) hw)
          exact F.tr (hk126 h)
        · obtain ⟨s31, hw, h⟩ := bd_some h
          replace F := F.tr (Fr_wrI (hW _ (by unfold W_X12_gather_191; omega)) hw)
          exact F.tr (hk126 h)
    · obtain ⟨v19, -, h⟩ := bd_some h
      rcases ite_or h with h | h
      · obtain ⟨v23, -, h⟩ := bd_some h
        obtain ⟨v24, -, h⟩ := bd_some h
        obtain ⟨s25, hw, h⟩ := bd_some h
        replace F := F.tr (Fr_wrI (hW _ (by unfold W_X12_gather_191; omega)) hw)
        exact F.tr (hk126 h)
      · obtain ⟨v20, -, h⟩ := bd_some h
        obtain ⟨v21, -, h⟩ := bd_some h
        obtain ⟨s22, hw, h⟩ := bd_some h
        replace F := F.tr (Fr_wrI (hW _ (by unfold W_X12_gather_191; omega)) hw)
        exact F.tr (hk126 h)
  · exact F.tr (hk126 h)
def W_X12_gather_161 (x : Nat) : Prop := x = 271 ∨ x = 272 ∨ x = 273 ∨ x = 274
theorem fr_X12_gather_161 {k126 : Int32 → Int32 → Int32 → Int32 → Int32 → ST → Option ST} {W : Nat → Prop} (hW : ∀ x, W_X12_gather_161 x → W x) (hk126 : ∀ {u0 : Int32} {u1 : Int32} {u2 : Int32} {u3 : Int32} {u4 : Int32} {sg : ST} {s : ST}, k126 u0 u1 u2 u3 u4 sg = some s → Fr W sg s) {x1 : Int32} {x2 : Int32} {x3 : Int32} {x4 : Int32} {x5 : Int32} {sg : ST} {s : ST} (h : f_X12_gather_161 k126 x1 x2 x3 x4 x5 sg = some s) : Fr W sg s := by
  unfold f_X12_gather_161 at h
  have F := Fr.rf W sg
  obtain ⟨v15, -, h⟩ := bd_some h
  rcases ite_or h with h | h
  · obtain ⟨v34, -, h⟩ := bd_some h
    obtain ⟨v35, -, h⟩ := bd_some h
    obtain ⟨s36, hw, h⟩ := bd_some h
    replace F := F.tr (Fr_wrI (hW _ (by unfold W_X12_gather_161; omega)) hw)
    refine F.tr (fr_X12_gather_191 (fun x hx => hW x (by unfold W_X12_gather_191 at hx; unfold W_X12_gather_161; omega)) (fun h => hk126 h) h)
  · refine F.tr (fr_X12_gather_191 (fun x hx => hW x (by unfold W_X12_gather_191 at hx; unfold W_X12_gather_161; omega)) (fun h => hk126 h) h)
def W_X12_gather_126 (x : Nat) : Prop := x = 270 ∨ x = 271 ∨ x = 272 ∨ x = 273 ∨ x = 274
theorem fr_X12_gather_126 {k329 : Int32 → Int32 → Int32 → Int32 → ST → Option ST} {W : Nat → Prop} (hW : ∀ x, W_X12_gather_126 x → W x) (hk329 : ∀ {u0 : Int32} {u1 : Int32} {u2 : Int32} {u3 : Int32} {sg : ST} {s : ST}, k329 u0 u1 u2 u3 sg = some s → Fr W sg s) : ∀ (n : Nat) {x1 : Int32} {x2 : Int32} {x3 : Int32} {x4 : Int32} {x5 : Int32} {sg : ST} {s : ST}, f_X12_gather_126 k329 n x1 x2 x3 x4 x5 sg = some s → Fr W sg s := by
  intro n
  induction n with
  | zero => intro _ _ _ _ _ _ _ h; rw [f_X12_gather_126] at h; cases h
  | succ n ih =>
    intro x1 x2 x3 x4 x5 sg s h
    rw [f_X12_gather_126] at h
    have F := Fr.rf W sg
    obtain ⟨v13, -, h⟩ := bd_some h
    rcases ite_or h with h | h
    · exact F.tr (hk329 h)
    · obtain ⟨v14, -, h⟩ := bd_some h
      rcases ite_or h with h | h
      · obtain ⟨v37, -, h⟩ := bd_some h
        obtain ⟨s38, hp, h⟩ := bd_some h
        replace F := F.tr (Fr.mono (fr_X12_tell hp) (fun x hx => hW x (by unfold W_X12_tell at hx; unfold W_X12_gather_126; omega)))
        refine F.tr (fr_X12_gather_161 (fun x hx => hW x (by unfold W_X12_gather_161 at hx; unfold W_X12_gather_126; omega)) (fun h => ih h) h)
      · refine F.tr (fr_X12_gather_161 (fun x hx => hW x (by unfold W_X12_gather_161 at hx; unfold W_X12_gather_126; omega)) (fun h => ih h) h)
def W_X12_gather_117 (x : Nat) : Prop := x = 270 ∨ x = 271 ∨ x = 272 ∨ x = 273 ∨ x = 274
theorem fr_X12_gather_117 {k64 : Int32 → Int32 → Int32 → Int32 → ST → Option ST} {W : Nat → Prop} (hW : ∀ x, W_X12_gather_117 x → W x) (hk64 : ∀ {u0 : Int32} {u1 : Int32} {u2 : Int32} {u3 : Int32} {sg : ST} {s : ST}, k64 u0 u1 u2 u3 sg = some s → Fr W sg s) {x1 : Int32} {x2 : Int32} {x3 : Int32} {x4 : Int32} {sg : ST} {s : ST} (h : f_X12_gather_117 k64 x1 x2 x3 x4 sg = some s) : Fr W sg s := by
  unfold f_X12_gather_117 at h
  have F := Fr.rf W sg
  obtain ⟨v12, -, h⟩ := bd_some h
  refine F.tr (fr_X12_gather_126 (fun x hx => hW x (by unfold W_X12_gather_126 at hx; unfold W_X12_gather_117; omega)) ?_ FU h)
  · intro x1_39 x2_40 x3_41 x4_42 s43 _ h
    have F := Fr.rf W s43
    exact F.tr (hk64 h)
def W_X12_gather_64 (x : Nat) : Prop := x = 247 ∨ x = 270 ∨ x = 271 ∨ x = 272 ∨ x = 273 ∨ x = 274 ∨ x = 275
theorem fr_X12_gather_64 {k335 : Int32 → Int32 → ST → Option ST} {W : Nat → Prop} (hW : ∀ x, W_X12_gather_64 x → W x) (hk335 : ∀ {u0 : Int32} {u1 : Int32} {sg : ST} {s : ST}, k335 u0 u1 sg = some s → Fr W sg s) : ∀ (n : Nat) {x1 : Int32} {x2 : Int32} {x3 : Int32} {x4 : Int32} {sg : ST} {s : ST}, f_X12_gather_64 k335 n x1 x2 x3 x4 sg = some s → Fr W sg s := by
  intro n
  induction n with
  | zero => intro _ _ _ _ _ _ h; rw [f_X12_gather_64] at h; cases h
  | succ n ih =>
    intro x1 x2 x3 x4 sg s h
    rw [f_X12_gather_64] at h
    have F := Fr.rf W sg
    rcases ite_or h with h | h
    · rcases ite_or h with h | h
      · exact F.tr (ih h)
      · obtain ⟨v11, -, h⟩ := bd_some h
        rcases ite_or h with h | h
        · obtain ⟨s44, hw, h⟩ := bd_some h
          replace F := F.tr (Fr_wrI (hW _ (by unfold W_X12_gather_64; omega)) hw)
          obtain ⟨s45, hw, h⟩ := bd_some h
          replace F := F.tr (Fr_pfI (hW _ (by unfold W_X12_gather_64; omega)) hw)
          refine F.tr (fr_X12_gather_117 (fun x hx => hW x (by unfold W_X12_gather_117 at hx; unfold W_X12_gather_64; omega)) (fun h => ih h) h)
        · refine F.tr (fr_X12_gather_117 (fun x hx => hW x (by unfold W_X12_gather_117 at hx; unfold W_X12_gather_64; omega)) (fun h => ih h) h)
    · exact F.tr (hk335 h)
def W_X12_gather (x : Nat) : Prop := x = 247 ∨ x = 270 ∨ x = 271 ∨ x = 272 ∨ x = 273 ∨ x = 274 ∨ x = 275
theorem fr_X12_gather {x1 : Int32} {x2 : Int32} {x3 : Int32} {σ : ST} {s : ST} (h : f_X12_gather x1 x2 x3 σ = some s) : Fr (W_X12_gather ) σ s := by
  unfold f_X12_gather at h
  have F := Fr.rf (W_X12_gather ) σ
  obtain ⟨s1, hw, h⟩ := bd_some h
  replace F := F.tr (Fr_pfI (by unfold W_X12_gather; omega) hw)
  refine F.tr (fr_X12_gather_8 (fun x hx => by unfold W_X12_gather_8 at hx; unfold W_X12_gather; omega) ?_ FU h)
  · intro x1_7 x2_8 x3_9 s10 _ h
    have F := Fr.rf (W_X12_gather ) s10
    refine F.tr (fr_X12_gather_64 (fun x hx => by unfold W_X12_gather_64 at hx; unfold W_X12_gather; omega) ?_ FU h)
    · intro x2_46 x3_47 s48 _ h
      have F := Fr.rf (W_X12_gather ) s48
      rcases ite_or h with h | h
      · cases h; exact F
      · obtain ⟨s49, hp, h⟩ := bd_some h
        replace F := F.tr (Fr.mono (fr_X12_tell hp) (fun x hx => by unfold W_X12_tell at hx; unfold W_X12_gather; omega))
        cases h; exact F
def W_X12_edgesOf_260 (x : Nat) : Prop := False
theorem fr_X12_edgesOf_260 {k327 : Int32 → Int32 → Int32 → Int32 → Int32 → Int32 → ST → Option ST} {W : Nat → Prop} (hW : ∀ x, W_X12_edgesOf_260 x → W x) (hk327 : ∀ {u0 : Int32} {u1 : Int32} {u2 : Int32} {u3 : Int32} {u4 : Int32} {u5 : Int32} {sg : ST} {s : ST}, k327 u0 u1 u2 u3 u4 u5 sg = some s → Fr W sg s) : ∀ (n : Nat) {x1 : Int32} {x2 : Int32} {x3 : Int32} {x4 : Int32} {x5 : Int32} {x6 : Int32} {x7 : Int32} {sg : ST} {s : ST}, f_X12_edgesOf_260 k327 n x1 x2 x3 x4 x5 x6 x7 sg = some s → Fr W sg s := by
  intro n
  induction n with
  | zero => intro _ _ _ _ _ _ _ _ _ h; rw [f_X12_edgesOf_260] at h; cases h
  | succ n ih =>
    intro x1 x2 x3 x4 x5 x6 x7 sg s h
    rw [f_X12_edgesOf_260] at h
    have F := Fr.rf W sg
    rcases ite_or h with h | h
    · obtain ⟨v11, -, h⟩ := bd_some h
      obtain ⟨v12, -, h⟩ := bd_some h
      rcases ite_or h with h | h
      · obtain ⟨v13, -, h⟩ := bd_some h
        rcases ite_or h with h | h
        · exact F.tr (ih h)
        · obtain ⟨v14, -, h⟩ := bd_some h
          rcases ite_or h with h | h
          · exact F.tr (ih h)
          · exact F.tr (ih h)
      · exact F.tr (ih h)
    · exact F.tr (hk327 h)
def W_X12_edgesOf_401 (x : Nat) : Prop := x = 247 ∨ x = 281
theorem fr_X12_edgesOf_401 {k125 : Int32 → Int32 → Int32 → Int32 → Int32 → ST → Option ST} {W : Nat → Prop} (hW : ∀ x, W_X12_edgesOf_401 x → W x) (hk125 : ∀ {u0 : Int32} {u1 : Int32} {u2 : Int32} {u3 : Int32} {u4 : Int32} {sg : ST} {s : ST}, k125 u0 u1 u2 u3 u4 sg = some s → Fr W sg s) {x1 : Int32} {x2 : Int32} {x3 : Int32} {x4 : Int32} {x5 : Int32} {z1 : Int32} {sg : ST} {s : ST} (h : f_X12_edgesOf_401 k125 x1 x2 x3 x4 x5 z1 sg = some s) : Fr W sg s := by
  unfold f_X12_edgesOf_401 at h
  have F := Fr.rf W sg
  obtain ⟨s26, hw, h⟩ := bd_some h
  replace F := F.tr (Fr_wrI (hW _ (by unfold W_X12_edgesOf_401; omega)) hw)
  obtain ⟨s27, hw, h⟩ := bd_some h
  replace F := F.tr (Fr_pfI (hW _ (by unfold W_X12_edgesOf_401; omega)) hw)
  exact F.tr (hk125 h)
def W_X12_edgesOf_251 (x : Nat) : Prop := x = 247 ∨ x = 278 ∨ x = 279 ∨ x = 280 ∨ x = 281
theorem fr_X12_edgesOf_251 {k125 : Int32 → Int32 → Int32 → Int32 → Int32 → ST → Option ST} {W : Nat → Prop} (hW : ∀ x, W_X12_edgesOf_251 x → W x) (hk125 : ∀ {u0 : Int32} {u1 : Int32} {u2 : Int32} {u3 : Int32} {u4 : Int32} {sg : ST} {s : ST}, k125 u0 u1 u2 u3 u4 sg = some s → Fr W sg s) {x1 : Int32} {x2 : Int32} {x3 : Int32} {x4 : Int32} {x5 : Int32} {sg : ST} {s : ST} (h : f_X12_edgesOf_251 k125 x1 x2 x3 x4 x5 sg = some s) : Fr W sg s := by
  unfold f_X12_edgesOf_251 at h
  have F := Fr.rf W sg
  refine F.tr (fr_X12_edgesOf_260 (fun x hx => hW x (by unfold W_X12_edgesOf_260 at hx; unfold W_X12_edgesOf_251; omega)) ?_ FU h)
  · intro x1_15 x2_16 x3_17 x4_18 x5_19 x6_20 s21 _ h
    have F := Fr.rf W s21
    obtain ⟨s22, hw, h⟩ := bd_some h
    replace F := F.tr (Fr_wrI (hW _ (by unfold W_X12_edgesOf_251; omega)) hw)
    obtain ⟨s23, hw, h⟩ := bd_some h
    replace F := F.tr (Fr_wrI (hW _ (by unfold W_X12_edgesOf_251; omega)) hw)
    obtain ⟨v24, -, h⟩ := bd_some h
    obtain ⟨s25, hw, h⟩ := bd_some h
    replace F := F.tr (Fr_wrI (hW _ (by unfold W_X12_edgesOf_251; omega)) hw)
    rcases ite_or h with h | h
    · refine F.tr (fr_X12_edgesOf_401 (fun x hx => hW x (by unfold W_X12_edgesOf_401 at hx; unfold W_X12_edgesOf_251; omega)) (fun h => hk125 h) h)
    · obtain ⟨v28, -, h⟩ := bd_some h
      rcases ite_or h with h | h
      · obtain ⟨v29, -, h⟩ := bd_some h
        obtain ⟨s30, hw, h⟩ := bd_some h
        replace F := F.tr (Fr_wrI (hW _ (by unfold W_X12_edgesOf_251; omega)) hw)
        obtain ⟨s31, hw, h⟩ := bd_some h
        replace F := F.tr (Fr_pfI (hW _ (by unfold W_X12_edgesOf_251; omega)) hw)
        exact F.tr (hk125 h)
      · refine F.tr (fr_X12_edgesOf_401 (fun x hx => hW x (by unfold W_X12_edgesOf_401 at hx; unfold W_X12_edgesOf_251; omega)) (fun h => hk125 h) h)
def W_X12_edgesOf_197 (x : Nat) : Prop := x = 247 ∨ x = 278 ∨ x = 279 ∨ x = 280 ∨ x = 281
theorem fr_X12_edgesOf_197 {k125 : Int32 → Int32 → Int32 → Int32 → Int32 → ST → Option ST} {W : Nat → Prop} (hW : ∀ x, W_X12_edgesOf_197 x → W x) (hk125 : ∀ {u0 : Int32} {u1 : Int32} {u2 : Int32} {u3 : Int32} {u4 : Int32} {sg : ST} {s : ST}, k125 u0 u1 u2 u3 u4 sg = some s → Fr W sg s) {x1 : Int32} {x2 : Int32} {x3 : Int32} {x4 : Int32} {x5 : Int32} {sg : ST} {s : ST} (h : f_X12_edgesOf_197 k125 x1 x2 x3 x4 x5 sg = some s) : Fr W sg s := by
  unfold f_X12_edgesOf_197 at h
  have F := Fr.rf W sg
  obtain ⟨v10, -, h⟩ := bd_some h
  rcases ite_or h with h | h
  · exact F.tr (hk125 h)
  · rcases ite_or h with h | h
    · obtain ⟨v32, -, h⟩ := bd_some h
      rcases ite_or h with h | h
      · obtain ⟨v33, -, h⟩ := bd_some h
        rcases ite_or h with h | h
        · exact F.tr (hk125 h)
        · refine F.tr (fr_X12_edgesOf_251 (fun x hx => hW x (by unfold W_X12_edgesOf_251 at hx; unfold W_X12_edgesOf_197; omega)) (fun h => hk125 h) h)
      · refine F.tr (fr_X12_edgesOf_251 (fun x hx => hW x (by unfold W_X12_edgesOf_251 at hx; unfold W_X12_edgesOf_197; omega)) (fun h => hk125 h) h)
    · refine F.tr (fr_X12_edgesOf_251 (fun x hx => hW x (by unfold W_X12_edgesOf_251 at hx; unfold W_X12_edgesOf_197; omega)) (fun h => hk125 h) h)
def W_X12_edgesOf_167 (x : Nat) : Prop := x = 247 ∨ x = 278 ∨ x = 279 ∨ x = 280 ∨ x = 281
theorem fr_X12_edgesOf_167 {k125 : Int32 → Int32 → Int32 → Int32 → Int32 → ST → Option ST} {W : Nat → Prop} (hW : ∀ x, W_X12_edgesOf_167 x → W x) (hk125 : ∀ {u0 : Int32} {u1 : Int32} {u2 : Int32} {u3 : Int32} {u4 : Int32} {sg : ST} {s : ST}, k125 u0 u1 u2 u3 u4 sg = some s → Fr W sg s) {x1 : Int32} {x2 : Int32} {x3 : Int32} {x4 : Int32} {x5 : Int32} {sg : ST} {s : ST} (h : f_X12_edgesOf_167 k125 x1 x2 x3 x4 x5 sg = some s) : Fr W sg s := by
  unfold f_X12_edgesOf_167 at h
  have F := Fr.rf W sg
  rcases ite_or h with h | h
  · obtain ⟨v34, -, h⟩ := bd_some h
    rcases ite_or h with h | h
    · refine F.tr (fr_X12_edgesOf_197 (fun x hx => hW x (by unfold W_X12_edgesOf_197 at hx; unfold W_X12_edgesOf_167; omega)) (fun h => hk125 h) h)
    · obtain ⟨v35, -, h⟩ := bd_some h
      rcases ite_or h with h | h
      · refine F.tr (fr_X12_edgesOf_197 (fun x hx => hW x (by unfold W_X12_edgesOf_197 at hx; unfold W_X12_edgesOf_167; omega)) (fun h => hk125 h) h)
      · exact F.tr (hk125 h)
  · refine F.tr (fr_X12_edgesOf_197 (fun x hx => hW x (by unfold W_X12_edgesOf_197 at hx; unfold W_X12_edgesOf_167; omega)) (fun h => hk125 h) h)
def W_X12_edgesOf_148 (x : Nat) : Prop := x = 247 ∨ x = 278 ∨ x = 279 ∨ x = 280 ∨ x = 281
theorem fr_X12_edgesOf_148 {k125 : Int32 → Int32 → Int32 → Int32 → Int32 → ST → Option ST} {W : Nat → Prop} (hW : ∀ x, W_X12_edgesOf_148 x → W x) (hk125 : ∀ {u0 : Int32} {u1 : Int32} {u2 : Int32} {u3 : Int32} {u4 : Int32} {sg : ST} {s : ST}, k125 u0 u1 u2 u3 u4 sg = some s → Fr W sg s) {x1 : Int32} {x2 : Int32} {x3 : Int32} {x4 : Int32} {x5 : Int32} {sg : ST} {s : ST} (h : f_X12_edgesOf_148 k125 x1 x2 x3 x4 x5 sg = some s) : Fr W sg s := by
  unfold f_X12_edgesOf_148 at h
  have F := Fr.rf W sg
  rcases ite_or h with h | h
  · obtain ⟨v36, -, h⟩ := bd_some h
    rcases ite_or h with h | h
    · refine F.tr (fr_X12_edgesOf_167 (fun x hx => hW x (by unfold W_X12_edgesOf_167 at hx; unfold W_X12_edgesOf_148; omega)) (fun h => hk125 h) h)
    · exact F.tr (hk125 h)
  · refine F.tr (fr_X12_edgesOf_167 (fun x hx => hW x (by unfold W_X12_edgesOf_167 at hx; unfold W_X12_edgesOf_148; omega)) (fun h => hk125 h) h)
def W_X12_edgesOf_125 (x : Nat) : Prop := x = 247 ∨ x = 278 ∨ x = 279 ∨ x = 280 ∨ x = 281
theorem fr_X12_edgesOf_125 {k429 : Int32 → Int32 → Int32 → ST → Option ST} {W : Nat → Prop} (hW : ∀ x, W_X12_edgesOf_125 x → W x) (hk429 : ∀ {u0 : Int32} {u1 : Int32} {u2 : Int32} {sg : ST} {s : ST}, k429 u0 u1 u2 sg = some s → Fr W sg s) : ∀ (n : Nat) {x1 : Int32} {x2 : Int32} {x3 : Int32} {x4 : Int32} {x5 : Int32} {sg : ST} {s : ST}, f_X12_edgesOf_125 k429 n x1 x2 x3 x4 x5 sg = some s → Fr W sg s := by
  intro n
  induction n with
  | zero => intro _ _ _ _ _ _ _ h; rw [f_X12_edgesOf_125] at h; cases h
  | succ n ih =>
    intro x1 x2 x3 x4 x5 sg s h
    rw [f_X12_edgesOf_125] at h
    have F := Fr.rf W sg
    rcases ite_or h with h | h
    · rcases ite_or h with h | h
      · rcases ite_or h with h | h
        · refine F.tr (fr_X12_edgesOf_148 (fun x hx => hW x (by unfold W_X12_edgesOf_148 at hx; unfold W_X12_edgesOf_125; omega)) (fun h => ih h) h)
        · exact F.tr (ih h)
      · refine F.tr (fr_X12_edgesOf_148 (fun x hx => hW x (by unfold W_X12_edgesOf_148 at hx; unfold W_X12_edgesOf_125; omega)) (fun h => ih h) h)
    · exact F.tr (hk429 h)
def W_X12_edgesOf_122 (x : Nat) : Prop := x = 247 ∨ x = 278 ∨ x = 279 ∨ x = 280 ∨ x = 281
theorem fr_X12_edgesOf_122 {k19 : Int32 → Int32 → Int32 → ST → Option ST} {W : Nat → Prop} (hW : ∀ x, W_X12_edgesOf_122 x → W x) (hk19 : ∀ {u0 : Int32} {u1 : Int32} {u2 : Int32} {sg : ST} {s : ST}, k19 u0 u1 u2 sg = some s → Fr W sg s) {x1 : Int32} {x2 : Int32} {x3 : Int32} {x4 : Int32} {sg : ST} {s : ST} (h : f_X12_edgesOf_122 k19 x1 x2 x3 x4 sg = some s) : Fr W sg s := by
  unfold f_X12_edgesOf_122 at h
  have F := Fr.rf W sg
  refine F.tr (fr_X12_edgesOf_125 (fun x hx => hW x (by unfold W_X12_edgesOf_125 at hx; unfold W_X12_edgesOf_122; omega)) ?_ FU h)
  · intro x1_37 x2_38 x3_39 s40 _ h
    have F := Fr.rf W s40
    exact F.tr (hk19 h)
def W_X12_edgesOf_19 (x : Nat) : Prop := x = 247 ∨ x = 278 ∨ x = 279 ∨ x = 280 ∨ x = 281
theorem fr_X12_edgesOf_19 {W : Nat → Prop} (hW : ∀ x, W_X12_edgesOf_19 x → W x) : ∀ (n : Nat) {x1 : Int32} {x2 : Int32} {x3 : Int32} {sg : ST} {s : ST}, f_X12_edgesOf_19 n x1 x2 x3 sg = some s → Fr W sg s := by
  intro n
  induction n with
  | zero => intro _ _ _ _ _ h; rw [f_X12_edgesOf_19] at h; cases h
  | succ n ih =>
    intro x1 x2 x3 sg s h
    rw [f_X12_edgesOf_19] at h
    have F := Fr.rf W sg
    rcases ite_or h with h | h
    · obtain ⟨v3, -, h⟩ := bd_some h
      rcases ite_or h with h | h
      · exact F.tr (ih h)
      · obtain ⟨v4, -, h⟩ := bd_some h
        obtain ⟨v5, -, h⟩ := bd_some h
        obtain ⟨v6, -, h⟩ := bd_some h
        rcases ite_or h with h | h
        · obtain ⟨v7, -, h⟩ := bd_some h
          obtain ⟨v8, -, h⟩ := bd_some h
          rcases ite_or h with h | h
          · obtain ⟨v9, -, h⟩ := bd_some h
            rcases ite_or h with h | h
            · refine F.tr (fr_X12_edgesOf_122 (fun x hx => hW x (by unfold W_X12_edgesOf_122 at hx; unfold W_X12_edgesOf_19; omega)) (fun h => ih h) h)
            · obtain ⟨v41, -, h⟩ := bd_some h
              rcases ite_or h with h | h
              · refine F.tr (fr_X12_edgesOf_122 (fun x hx => hW x (by unfold W_X12_edgesOf_122 at hx; unfold W_X12_edgesOf_19; omega)) (fun h => ih h) h)
              · exact F.tr (ih h)
          · exact F.tr (ih h)
        · exact F.tr (ih h)
    · cases h; exact F
def W_X12_edgesOf (x : Nat) : Prop := x = 247 ∨ x = 278 ∨ x = 279 ∨ x = 280 ∨ x = 281
theorem fr_X12_edgesOf {x1 : Int32} {x2 : Int32} {σ : ST} {s : ST} (h : f_X12_edgesOf x1 x2 σ = some s) : Fr (W_X12_edgesOf ) σ s := by
  unfold f_X12_edgesOf at h
  have F := Fr.rf (W_X12_edgesOf ) σ
  obtain ⟨s1, hw, h⟩ := bd_some h
  replace F := F.tr (Fr_pfI (by unfold W_X12_edgesOf; omega) hw)
  obtain ⟨v2, -, h⟩ := bd_some h
  rcases ite_or h with h | h
  · cases h; exact F
  · refine F.tr (fr_X12_edgesOf_19 (fun x hx => by unfold W_X12_edgesOf_19 at hx; unfold W_X12_edgesOf; omega) FU h)
def W_X12_solve_14 (x : Nat) : Prop := x = 276 ∨ x = 277
theorem fr_X12_solve_14 {k48 : ST → Option (Int32 × ST)} {W : Nat → Prop} (hW : ∀ x, W_X12_solve_14 x → W x) (hk48 : ∀ {sg : ST} {v : Int32} {s : ST}, k48 sg = some (v, s) → Fr W sg s) : ∀ (n : Nat) {x4 : Int32} {sg : ST} {v : Int32} {s : ST}, f_X12_solve_14 k48 n x4 sg = some (v, s) → Fr W sg s := by
  intro n
  induction n with
  | zero => intro _ _ _ _ h; rw [f_X12_solve_14] at h; cases h
  | succ n ih =>
    intro x4 sg v s h
    rw [f_X12_solve_14] at h
    have F := Fr.rf W sg
    rcases ite_or h with h | h
    · obtain ⟨s3, hw, h⟩ := bd_some h
      replace F := F.tr (Fr_wrI (hW _ (by unfold W_X12_solve_14; omega)) hw)
      obtain ⟨s4, hw, h⟩ := bd_some h
      replace F := F.tr (Fr_wrI (hW _ (by unfold W_X12_solve_14; omega)) hw)
      exact F.tr (ih h)
    · exact F.tr (hk48 h)
def W_X12_solve_51 (x : Nat) : Prop := x = 276
theorem fr_X12_solve_51 {k76 : ST → Option (Int32 × ST)} {W : Nat → Prop} (hW : ∀ x, W_X12_solve_51 x → W x) (hk76 : ∀ {sg : ST} {v : Int32} {s : ST}, k76 sg = some (v, s) → Fr W sg s) : ∀ (n : Nat) {x4 : Int32} {sg : ST} {v : Int32} {s : ST}, f_X12_solve_51 k76 n x4 sg = some (v, s) → Fr W sg s := by
  intro n
  induction n with
  | zero => intro _ _ _ _ h; rw [f_X12_solve_51] at h; cases h
  | succ n ih =>
    intro x4 sg v s h
    rw [f_X12_solve_51] at h
    have F := Fr.rf W sg
    rcases ite_or h with h | h
    · obtain ⟨s6, hw, h⟩ := bd_some h
      replace F := F.tr (Fr_wrI (hW _ (by unfold W_X12_solve_51; omega)) hw)
      exact F.tr (ih h)
    · exact F.tr (hk76 h)
def W_X12_solve_135 (x : Nat) : Prop := x = 276
theorem fr_X12_solve_135 {k195 : Int32 → Int32 → ST → Option (Int32 × ST)} {W : Nat → Prop} (hW : ∀ x, W_X12_solve_135 x → W x) (hk195 : ∀ {u0 : Int32} {u1 : Int32} {sg : ST} {v : Int32} {s : ST}, k195 u0 u1 sg = some (v, s) → Fr W sg s) : ∀ (n : Nat) {x4 : Int32} {x5 : Int32} {x6 : Int32} {x7 : Int32} {sg : ST} {v : Int32} {s : ST}, f_X12_solve_135 k195 n x4 x5 x6 x7 sg = some (v, s) → Fr W sg s := by
  intro n
  induction n with
  | zero => intro _ _ _ _ _ _ _ h; rw [f_X12_solve_135] at h; cases h
  | succ n ih =>
    intro x4 x5 x6 x7 sg v s h
    rw [f_X12_solve_135] at h
    have F := Fr.rf W sg
    rcases ite_or h with h | h
    · obtain ⟨v10, -, h⟩ := bd_some h
      obtain ⟨v11, -, h⟩ := bd_some h
      obtain ⟨v12, -, h⟩ := bd_some h
      obtain ⟨s13, hw, h⟩ := bd_some h
      replace F := F.tr (Fr_wrI (hW _ (by unfold W_X12_solve_135; omega)) hw)
      exact F.tr (ih h)
    · exact F.tr (hk195 h)
def W_X12_solve_89 (x : Nat) : Prop := x = 247 ∨ x = 276 ∨ x = 278 ∨ x = 279 ∨ x = 280 ∨ x = 281
theorem fr_X12_solve_89 {k201 : Int32 → ST → Option (Int32 × ST)} {W : Nat → Prop} (hW : ∀ x, W_X12_solve_89 x → W x) (hk201 : ∀ {u0 : Int32} {sg : ST} {v : Int32} {s : ST}, k201 u0 sg = some (v, s) → Fr W sg s) : ∀ (n : Nat) {x4 : Int32} {x5 : Int32} {sg : ST} {v : Int32} {s : ST}, f_X12_solve_89 k201 n x4 x5 sg = some (v, s) → Fr W sg s := by
  intro n
  induction n with
  | zero => intro _ _ _ _ _ h; rw [f_X12_solve_89] at h; cases h
  | succ n ih =>
    intro x4 x5 sg v s h
    rw [f_X12_solve_89] at h
    have F := Fr.rf W sg
    rcases ite_or h with h | h
    · obtain ⟨v8, -, h⟩ := bd_some h
      rcases ite_or h with h | h
      · exact F.tr (ih h)
      · obtain ⟨s9, hp, h⟩ := bd_some h
        replace F := F.tr (Fr.mono (fr_X12_edgesOf hp) (fun x hx => hW x (by unfold W_X12_edgesOf at hx; unfold W_X12_solve_89; omega)))
        refine F.tr (fr_X12_solve_135 (fun x hx => hW x (by unfold W_X12_solve_135 at hx; unfold W_X12_solve_89; omega)) ?_ FU h)
        · intro x4_14 x5_15 s16 _ _ h
          have F := Fr.rf W s16
          exact F.tr (ih h)
    · exact F.tr (hk201 h)
def W_X12_solve_79 (x : Nat) : Prop := x = 247 ∨ x = 276 ∨ x = 278 ∨ x = 279 ∨ x = 280 ∨ x = 281
theorem fr_X12_solve_79 {k207 : ST → Option (Int32 × ST)} {W : Nat → Prop} (hW : ∀ x, W_X12_solve_79 x → W x) (hk207 : ∀ {sg : ST} {v : Int32} {s : ST}, k207 sg = some (v, s) → Fr W sg s) : ∀ (n : Nat) {x4 : Int32} {sg : ST} {v : Int32} {s : ST}, f_X12_solve_79 k207 n x4 sg = some (v, s) → Fr W sg s := by
  intro n
  induction n with
  | zero => intro _ _ _ _ h; rw [f_X12_solve_79] at h; cases h
  | succ n ih =>
    intro x4 sg v s h
    rw [f_X12_solve_79] at h
    have F := Fr.rf W sg
    rcases ite_or h with h | h
    · refine F.tr (fr_X12_solve_89 (fun x hx => hW x (by unfold W_X12_solve_89 at hx; unfold W_X12_solve_79; omega)) ?_ FU h)
      · intro x4_17 s18 _ _ h
        have F := Fr.rf W s18
        exact F.tr (ih h)
    · exact F.tr (hk207 h)
def W_X12_solve_227 (x : Nat) : Prop := x = 247 ∨ x = 277
theorem fr_X12_solve_227 {k288 : ST → Option (Int32 × ST)} {W : Nat → Prop} (hW : ∀ x, W_X12_solve_227 x → W x) (hk288 : ∀ {sg : ST} {v : Int32} {s : ST}, k288 sg = some (v, s) → Fr W sg s) : ∀ (n : Nat) {x4 : Int32} {x5 : Int32} {sg : ST} {v : Int32} {s : ST}, f_X12_solve_227 k288 n x4 x5 sg = some (v, s) → Fr W sg s := by
  intro n
  induction n with
  | zero => intro _ _ _ _ _ h; rw [f_X12_solve_227] at h; cases h
  | succ n ih =>
    intro x4 x5 sg v s h
    rw [f_X12_solve_227] at h
    have F := Fr.rf W sg
    rcases ite_or h with h | h
    · rcases ite_or h with h | h
      · obtain ⟨s21, hw, h⟩ := bd_some h
        replace F := F.tr (Fr_wrI (hW _ (by unfold W_X12_solve_227; omega)) hw)
        obtain ⟨v22, -, h⟩ := bd_some h
        obtain ⟨s23, hw, h⟩ := bd_some h
        replace F := F.tr (Fr_pfI (hW _ (by unfold W_X12_solve_227; omega)) hw)
        exact F.tr (ih h)
      · exact F.tr (ih h)
    · exact F.tr (hk288 h)
def W_X12_solve_354 (x : Nat) : Prop := x = 277
theorem fr_X12_solve_354 {k435 : Int32 → Int32 → ST → Option (Int32 × ST)} {W : Nat → Prop} (hW : ∀ x, W_X12_solve_354 x → W x) (hk435 : ∀ {u0 : Int32} {u1 : Int32} {sg : ST} {v : Int32} {s : ST}, k435 u0 u1 sg = some (v, s) → Fr W sg s) : ∀ (n : Nat) {x5 : Int32} {x6 : Int32} {x7 : Int32} {sg : ST} {v : Int32} {s : ST}, f_X12_solve_354 k435 n x5 x6 x7 sg = some (v, s) → Fr W sg s := by
  intro n
  induction n with
  | zero => intro _ _ _ _ _ _ h; rw [f_X12_solve_354] at h; cases h
  | succ n ih =>
    intro x5 x6 x7 sg v s h
    rw [f_X12_solve_354] at h
    have F := Fr.rf W sg
    rcases ite_or h with h | h
    · obtain ⟨v27, -, h⟩ := bd_some h
      obtain ⟨v28, -, h⟩ := bd_some h
      obtain ⟨v29, -, h⟩ := bd_some h
      obtain ⟨v30, -, h⟩ := bd_some h
      rcases ite_or h with h | h
      · obtain ⟨s31, hw, h⟩ := bd_some h
        replace F := F.tr (Fr_wrI (hW _ (by unfold W_X12_solve_354; omega)) hw)
        exact F.tr (ih h)
      · exact F.tr (ih h)
    · exact F.tr (hk435 h)
def W_X12_solve_312 (x : Nat) : Prop := x = 247 ∨ x = 277 ∨ x = 278 ∨ x = 279 ∨ x = 280 ∨ x = 281
theorem fr_X12_solve_312 {k441 : Int32 → ST → Option (Int32 × ST)} {W : Nat → Prop} (hW : ∀ x, W_X12_solve_312 x → W x) (hk441 : ∀ {u0 : Int32} {sg : ST} {v : Int32} {s : ST}, k441 u0 sg = some (v, s) → Fr W sg s) : ∀ (n : Nat) {x5 : Int32} {x6 : Int32} {sg : ST} {v : Int32} {s : ST}, f_X12_solve_312 k441 n x5 x6 sg = some (v, s) → Fr W sg s := by
  intro n
  induction n with
  | zero => intro _ _ _ _ _ h; rw [f_X12_solve_312] at h; cases h
  | succ n ih =>
    intro x5 x6 sg v s h
    rw [f_X12_solve_312] at h
    have F := Fr.rf W sg
    rcases ite_or h with h | h
    · obtain ⟨v25, -, h⟩ := bd_some h
      rcases ite_or h with h | h
      · exact F.tr (ih h)
      · obtain ⟨s26, hp, h⟩ := bd_some h
        replace F := F.tr (Fr.mono (fr_X12_edgesOf hp) (fun x hx => hW x (by unfold W_X12_edgesOf at hx; unfold W_X12_solve_312; omega)))
        refine F.tr (fr_X12_solve_354 (fun x hx => hW x (by unfold W_X12_solve_354 at hx; unfold W_X12_solve_312; omega)) ?_ FU h)
        · intro x5_32 x6_33 s34 _ _ h
          have F := Fr.rf W s34
          exact F.tr (ih h)
    · exact F.tr (hk441 h)
def W_X12_solve_304 (x : Nat) : Prop := x = 247 ∨ x = 277 ∨ x = 278 ∨ x = 279 ∨ x = 280 ∨ x = 281
theorem fr_X12_solve_304 {W : Nat → Prop} (hW : ∀ x, W_X12_solve_304 x → W x) : ∀ (n : Nat) {x5 : Int32} {sg : ST} {v : Int32} {s : ST}, f_X12_solve_304 n x5 sg = some (v, s) → Fr W sg s := by
  intro n
  induction n with
  | zero => intro _ _ _ _ h; rw [f_X12_solve_304] at h; cases h
  | succ n ih =>
    intro x5 sg v s h
    rw [f_X12_solve_304] at h
    have F := Fr.rf W sg
    rcases ite_or h with h | h
    · cases h; exact F
    · refine F.tr (fr_X12_solve_312 (fun x hx => hW x (by unfold W_X12_solve_312 at hx; unfold W_X12_solve_304; omega)) ?_ FU h)
      · intro x5_35 s36 _ _ h
        have F := Fr.rf W s36
        exact F.tr (ih h)
def W_X12_solve (x : Nat) : Prop := x = 247 ∨ x = 266 ∨ x = 267 ∨ x = 268 ∨ x = 269 ∨ x = 270 ∨ x = 271 ∨ x = 272 ∨ x = 273 ∨ x = 274 ∨ x = 275 ∨ x = 276 ∨ x = 277 ∨ x = 278 ∨ x = 279 ∨ x = 280 ∨ x = 281
theorem fr_X12_solve {x1 : Int32} {x2 : Int32} {x3 : Int32} {σ : ST} {v : Int32} {s : ST} (h : f_X12_solve x1 x2 x3 σ = some (v, s)) : Fr (W_X12_solve ) σ s := by
  unfold f_X12_solve at h
  have F := Fr.rf (W_X12_solve ) σ
  obtain ⟨s1, hp, h⟩ := bd_some h
  replace F := F.tr (Fr.mono (fr_X12_makeMoments hp) (fun x hx => by unfold W_X12_makeMoments at hx; unfold W_X12_solve; omega))
  obtain ⟨s2, hp, h⟩ := bd_some h
  replace F := F.tr (Fr.mono (fr_X12_gather hp) (fun x hx => by unfold W_X12_gather at hx; unfold W_X12_solve; omega))
  refine F.tr (fr_X12_solve_14 (fun x hx => by unfold W_X12_solve_14 at hx; unfold W_X12_solve; omega) ?_ FU h)
  · intro s5 _ _ h
    have F := Fr.rf (W_X12_solve ) s5
    refine F.tr (fr_X12_solve_51 (fun x hx => by unfold W_X12_solve_51 at hx; unfold W_X12_solve; omega) ?_ FU h)
    · intro s7 _ _ h
      have F := Fr.rf (W_X12_solve ) s7
      refine F.tr (fr_X12_solve_79 (fun x hx => by unfold W_X12_solve_79 at hx; unfold W_X12_solve; omega) ?_ FU h)
      · intro s19 _ _ h
        have F := Fr.rf (W_X12_solve ) s19
        obtain ⟨s20, hw, h⟩ := bd_some h
        replace F := F.tr (Fr_pfI (by unfold W_X12_solve; omega) hw)
        refine F.tr (fr_X12_solve_227 (fun x hx => by unfold W_X12_solve_227 at hx; unfold W_X12_solve; omega) ?_ FU h)
        · intro s24 _ _ h
          have F := Fr.rf (W_X12_solve ) s24
          rcases ite_or h with h | h
          · cases h; exact F
          · refine F.tr (fr_X12_solve_304 (fun x hx => by unfold W_X12_solve_304 at hx; unfold W_X12_solve; omega) FU h)
def W_X12_isLeast (x : Nat) : Prop := False
theorem fr_X12_isLeast {x1 : Int32} {x2 : Int32} {x3 : Int32} {σ : ST} {v : Int32} {s : ST} (h : f_X12_isLeast x1 x2 x3 σ = some (v, s)) : Fr (W_X12_isLeast ) σ s := by
  unfold f_X12_isLeast at h
  have F := Fr.rf (W_X12_isLeast ) σ
  obtain ⟨v1, -, h⟩ := bd_some h
  obtain ⟨v2, -, h⟩ := bd_some h
  obtain ⟨v3, -, h⟩ := bd_some h
  obtain ⟨v4, -, h⟩ := bd_some h
  rcases ite_or h with h | h
  · cases h; exact F
  · cases h; exact F
def W_X12_all_4 (x : Nat) : Prop := False
theorem fr_X12_all_4 {W : Nat → Prop} (hW : ∀ x, W_X12_all_4 x → W x) : ∀ (n : Nat) {x1 : Int32} {x2 : Int32} {sg : ST} {v : Int32} {s : ST}, f_X12_all_4 n x1 x2 sg = some (v, s) → Fr W sg s := by
  intro n
  induction n with
  | zero => intro _ _ _ _ _ h; rw [f_X12_all_4] at h; cases h
  | succ n ih =>
    intro x1 x2 sg v s h
    rw [f_X12_all_4] at h
    have F := Fr.rf W sg
    rcases ite_or h with h | h
    · obtain ⟨v1, -, h⟩ := bd_some h
      rcases ite_or h with h | h
      · exact F.tr (ih h)
      · exact F.tr (ih h)
    · cases h; exact F
def W_X12_all (x : Nat) : Prop := False
theorem fr_X12_all {σ : ST} {v : Int32} {s : ST} (h : f_X12_all σ = some (v, s)) : Fr (W_X12_all ) σ s := by
  unfold f_X12_all at h
  have F := Fr.rf (W_X12_all ) σ
  refine F.tr (fr_X12_all_4 (fun x hx => by unfold W_X12_all_4 at hx; unfold W_X12_all; omega) FU h)
def W_X12_least (x : Nat) : Prop := x = 247 ∨ x = 266 ∨ x = 267 ∨ x = 268 ∨ x = 269 ∨ x = 270 ∨ x = 271 ∨ x = 272 ∨ x = 273 ∨ x = 274 ∨ x = 275 ∨ x = 276 ∨ x = 277 ∨ x = 278 ∨ x = 279 ∨ x = 280 ∨ x = 281
theorem fr_X12_least {σ : ST} {v : Int32} {s : ST} (h : f_X12_least σ = some (v, s)) : Fr (W_X12_least ) σ s := by
  unfold f_X12_least at h
  have F := Fr.rf (W_X12_least ) σ
  obtain ⟨v2, s1, hp, h⟩ := bd2_some h
  replace F := F.tr (Fr.mono (fr_X12_all hp) (fun x hx => by unfold W_X12_all at hx; exact hx.elim))
  obtain ⟨v4, s3, hp, h⟩ := bd2_some h
  replace F := F.tr (Fr.mono (fr_X12_solve hp) (fun x hx => by unfold W_X12_solve at hx; unfold W_X12_least; omega))
  rcases ite_or h with h | h
  · cases h; exact F
  · cases h; exact F
def W_X12_courses_21 (x : Nat) : Prop := x = 286
theorem fr_X12_courses_21 {k60 : Int64 → ST → Option (Int64 × ST)} {W : Nat → Prop} (hW : ∀ x, W_X12_courses_21 x → W x) (hk60 : ∀ {u0 : Int64} {sg : ST} {v : Int64} {s : ST}, k60 u0 sg = some (v, s) → Fr W sg s) : ∀ (n : Nat) {y1 : Int64} {x3 : Int32} {sg : ST} {v : Int64} {s : ST}, f_X12_courses_21 k60 n y1 x3 sg = some (v, s) → Fr W sg s := by
  intro n
  induction n with
  | zero => intro _ _ _ _ _ h; rw [f_X12_courses_21] at h; cases h
  | succ n ih =>
    intro y1 x3 sg v s h
    rw [f_X12_courses_21] at h
    have F := Fr.rf W sg
    rcases ite_or h with h | h
    · obtain ⟨v5, -, h⟩ := bd_some h
      rcases ite_or h with h | h
      · rcases ite_or h with h | h
        · obtain ⟨s8, hw, h⟩ := bd_some h
          replace F := F.tr (Fr_wrJ (hW _ (by unfold W_X12_courses_21; omega)) hw)
          exact F.tr (ih h)
        · obtain ⟨s7, hw, h⟩ := bd_some h
          replace F := F.tr (Fr_wrJ (hW _ (by unfold W_X12_courses_21; omega)) hw)
          exact F.tr (ih h)
      · obtain ⟨s6, hw, h⟩ := bd_some h
        replace F := F.tr (Fr_wrJ (hW _ (by unfold W_X12_courses_21; omega)) hw)
        exact F.tr (ih h)
    · exact F.tr (hk60 h)
def W_X12_courses_71 (x : Nat) : Prop := x = 287
theorem fr_X12_courses_71 {k93 : Int64 → Int32 → ST → Option (Int64 × ST)} {W : Nat → Prop} (hW : ∀ x, W_X12_courses_71 x → W x) (hk93 : ∀ {u0 : Int64} {u1 : Int32} {sg : ST} {v : Int64} {s : ST}, k93 u0 u1 sg = some (v, s) → Fr W sg s) : ∀ (n : Nat) {y1 : Int64} {x3 : Int32} {x4 : Int32} {sg : ST} {v : Int64} {s : ST}, f_X12_courses_71 k93 n y1 x3 x4 sg = some (v, s) → Fr W sg s := by
  intro n
  induction n with
  | zero => intro _ _ _ _ _ _ h; rw [f_X12_courses_71] at h; cases h
  | succ n ih =>
    intro y1 x3 x4 sg v s h
    rw [f_X12_courses_71] at h
    have F := Fr.rf W sg
    rcases ite_or h with h | h
    · obtain ⟨s11, hw, h⟩ := bd_some h
      replace F := F.tr (Fr_wrJ (hW _ (by unfold W_X12_courses_71; omega)) hw)
      exact F.tr (ih h)
    · exact F.tr (hk93 h)
def W_X12_courses_129 (x : Nat) : Prop := x = 287
theorem fr_X12_courses_129 {k195 : Int64 → Int32 → Int32 → ST → Option (Int64 × ST)} {W : Nat → Prop} (hW : ∀ x, W_X12_courses_129 x → W x) (hk195 : ∀ {u0 : Int64} {u1 : Int32} {u2 : Int32} {sg : ST} {v : Int64} {s : ST}, k195 u0 u1 u2 sg = some (v, s) → Fr W sg s) : ∀ (n : Nat) {y1 : Int64} {x3 : Int32} {x4 : Int32} {x5 : Int32} {sg : ST} {v : Int64} {s : ST}, f_X12_courses_129 k195 n y1 x3 x4 x5 sg = some (v, s) → Fr W sg s := by
  intro n
  induction n with
  | zero => intro _ _ _ _ _ _ _ h; rw [f_X12_courses_129] at h; cases h
  | succ n ih =>
    intro y1 x3 x4 x5 sg v s h
    rw [f_X12_courses_129] at h
    have F := Fr.rf W sg
    rcases ite_or h with h | h
    · obtain ⟨v18, s17, hp, h⟩ := bd2_some h
      replace F := F.tr (Fr.mono (fr_X12_isLeast hp) (fun x hx => by unfold W_X12_isLeast at hx; exact hx.elim))
      rcases ite_or h with h | h
      · exact F.tr (ih h)
      · obtain ⟨v19, -, h⟩ := bd_some h
        obtain ⟨v20, -, h⟩ := bd_some h
        obtain ⟨v21, -, h⟩ := bd_some h
        obtain ⟨v22, -, h⟩ := bd_some h
        obtain ⟨s23, hw, h⟩ := bd_some h
        replace F := F.tr (Fr_wrJ (hW _ (by unfold W_X12_courses_129; omega)) hw)
        exact F.tr (ih h)
    · exact F.tr (hk195 h)
def W_X12_courses_96 (x : Nat) : Prop := x = 247 ∨ x = 278 ∨ x = 279 ∨ x = 280 ∨ x = 281 ∨ x = 287
theorem fr_X12_courses_96 {k201 : Int64 → Int32 → ST → Option (Int64 × ST)} {W : Nat → Prop} (hW : ∀ x, W_X12_courses_96 x → W x) (hk201 : ∀ {u0 : Int64} {u1 : Int32} {sg : ST} {v : Int64} {s : ST}, k201 u0 u1 sg = some (v, s) → Fr W sg s) : ∀ (n : Nat) {y1 : Int64} {x3 : Int32} {x4 : Int32} {sg : ST} {v : Int64} {s : ST}, f_X12_courses_96 k201 n y1 x3 x4 sg = some (v, s) → Fr W sg s := by
  intro n
  induction n with
  | zero => intro _ _ _ _ _ _ h; rw [f_X12_courses_96] at h; cases h
  | succ n ih =>
    intro y1 x3 x4 sg v s h
    rw [f_X12_courses_96] at h
    have F := Fr.rf W sg
    rcases ite_or h with h | h
    · obtain ⟨v15, -, h⟩ := bd_some h
      rcases ite_or h with h | h
      · exact F.tr (ih h)
      · obtain ⟨s16, hp, h⟩ := bd_some h
        replace F := F.tr (Fr.mono (fr_X12_edgesOf hp) (fun x hx => hW x (by unfold W_X12_edgesOf at hx; unfold W_X12_courses_96; omega)))
        refine F.tr (fr_X12_courses_129 (fun x hx => hW x (by unfold W_X12_courses_129 at hx; unfold W_X12_courses_96; omega)) ?_ FU h)
        · intro y1_24 x3_25 x4_26 s27 _ _ h
          have F := Fr.rf W s27
          exact F.tr (ih h)
    · exact F.tr (hk201 h)
def W_X12_courses_204 (x : Nat) : Prop := x = 286
theorem fr_X12_courses_204 {k232 : Int64 → Int32 → ST → Option (Int64 × ST)} {W : Nat → Prop} (hW : ∀ x, W_X12_courses_204 x → W x) (hk232 : ∀ {u0 : Int64} {u1 : Int32} {sg : ST} {v : Int64} {s : ST}, k232 u0 u1 sg = some (v, s) → Fr W sg s) : ∀ (n : Nat) {y1 : Int64} {x3 : Int32} {x4 : Int32} {sg : ST} {v : Int64} {s : ST}, f_X12_courses_204 k232 n y1 x3 x4 sg = some (v, s) → Fr W sg s := by
  intro n
  induction n with
  | zero => intro _ _ _ _ _ _ h; rw [f_X12_courses_204] at h; cases h
  | succ n ih =>
    intro y1 x3 x4 sg v s h
    rw [f_X12_courses_204] at h
    have F := Fr.rf W sg
    rcases ite_or h with h | h
    · obtain ⟨v31, -, h⟩ := bd_some h
      obtain ⟨s32, hw, h⟩ := bd_some h
      replace F := F.tr (Fr_wrJ (hW _ (by unfold W_X12_courses_204; omega)) hw)
      exact F.tr (ih h)
    · exact F.tr (hk232 h)
def W_X12_courses_62 (x : Nat) : Prop := x = 247 ∨ x = 278 ∨ x = 279 ∨ x = 280 ∨ x = 281 ∨ x = 286 ∨ x = 287
theorem fr_X12_courses_62 {k238 : Int64 → ST → Option (Int64 × ST)} {W : Nat → Prop} (hW : ∀ x, W_X12_courses_62 x → W x) (hk238 : ∀ {u0 : Int64} {sg : ST} {v : Int64} {s : ST}, k238 u0 sg = some (v, s) → Fr W sg s) : ∀ (n : Nat) {y1 : Int64} {x3 : Int32} {sg : ST} {v : Int64} {s : ST}, f_X12_courses_62 k238 n y1 x3 sg = some (v, s) → Fr W sg s := by
  intro n
  induction n with
  | zero => intro _ _ _ _ _ h; rw [f_X12_courses_62] at h; cases h
  | succ n ih =>
    intro y1 x3 sg v s h
    rw [f_X12_courses_62] at h
    have F := Fr.rf W sg
    rcases ite_or h with h | h
    · refine F.tr (fr_X12_courses_71 (fun x hx => hW x (by unfold W_X12_courses_71 at hx; unfold W_X12_courses_62; omega)) ?_ FU h)
      · intro y1_12 x3_13 s14 _ _ h
        have F := Fr.rf W s14
        refine F.tr (fr_X12_courses_96 (fun x hx => hW x (by unfold W_X12_courses_96 at hx; unfold W_X12_courses_62; omega)) ?_ FU h)
        · intro y1_28 x3_29 s30 _ _ h
          have F := Fr.rf W s30
          refine F.tr (fr_X12_courses_204 (fun x hx => hW x (by unfold W_X12_courses_204 at hx; unfold W_X12_courses_62; omega)) ?_ FU h)
          · intro y1_33 x3_34 s35 _ _ h
            have F := Fr.rf W s35
            exact F.tr (ih h)
    · exact F.tr (hk238 h)
def W_X12_courses_243 (x : Nat) : Prop := False
theorem fr_X12_courses_243 {W : Nat → Prop} (hW : ∀ x, W_X12_courses_243 x → W x) : ∀ (n : Nat) {y1 : Int64} {y3 : Int64} {x5 : Int32} {sg : ST} {v : Int64} {s : ST}, f_X12_courses_243 n y1 y3 x5 sg = some (v, s) → Fr W sg s := by
  intro n
  induction n with
  | zero => intro _ _ _ _ _ _ h; rw [f_X12_courses_243] at h; cases h
  | succ n ih =>
    intro y1 y3 x5 sg v s h
    rw [f_X12_courses_243] at h
    have F := Fr.rf W sg
    rcases ite_or h with h | h
    · rcases ite_or h with h | h
      · obtain ⟨v38, -, h⟩ := bd_some h
        exact F.tr (ih h)
      · exact F.tr (ih h)
    · cases h; exact F
def W_X12_courses (x : Nat) : Prop := x = 247 ∨ x = 266 ∨ x = 267 ∨ x = 268 ∨ x = 269 ∨ x = 270 ∨ x = 271 ∨ x = 272 ∨ x = 273 ∨ x = 274 ∨ x = 275 ∨ x = 276 ∨ x = 277 ∨ x = 278 ∨ x = 279 ∨ x = 280 ∨ x = 281 ∨ x = 286 ∨ x = 287
theorem fr_X12_courses {σ : ST} {v : Int64} {s : ST} (h : f_X12_courses σ = some (v, s)) : Fr (W_X12_courses ) σ s := by
  unfold f_X12_courses at h
  have F := Fr.rf (W_X12_courses ) σ
  obtain ⟨v2, s1, hp, h⟩ := bd2_some h
  replace F := F.tr (Fr.mono (fr_X12_all hp) (fun x hx => by unfold W_X12_all at hx; exact hx.elim))
  obtain ⟨v4, s3, hp, h⟩ := bd2_some h
  replace F := F.tr (Fr.mono (fr_X12_solve hp) (fun x hx => by unfold W_X12_solve at hx; unfold W_X12_courses; omega))
  rcases ite_or h with h | h
  · cases h; exact F
  · refine F.tr (fr_X12_courses_21 (fun x hx => by unfold W_X12_courses_21 at hx; unfold W_X12_courses; omega) ?_ FU h)
    · intro y1_9 s10 _ _ h
      have F := Fr.rf (W_X12_courses ) s10
      refine F.tr (fr_X12_courses_62 (fun x hx => by unfold W_X12_courses_62 at hx; unfold W_X12_courses; omega) ?_ FU h)
      · intro y1_36 s37 _ _ h
        have F := Fr.rf (W_X12_courses ) s37
        refine F.tr (fr_X12_courses_243 (fun x hx => by unfold W_X12_courses_243 at hx; unfold W_X12_courses; omega) FU h)
def W_X12_doIn_45 (x : Nat) : Prop := False
theorem fr_X12_doIn_45 {k100 : Int32 → Int32 → Int32 → Int32 → ST → Option (Int32 × ST)} {W : Nat → Prop} (hW : ∀ x, W_X12_doIn_45 x → W x) (hk100 : ∀ {u0 : Int32} {u1 : Int32} {u2 : Int32} {u3 : Int32} {sg : ST} {v : Int32} {s : ST}, k100 u0 u1 u2 u3 sg = some (v, s) → Fr W sg s) : ∀ (n : Nat) {x1 : Int32} {x2 : Int32} {x3 : Int32} {x4 : Int32} {x5 : Int32} {sg : ST} {v : Int32} {s : ST}, f_X12_doIn_45 k100 n x1 x2 x3 x4 x5 sg = some (v, s) → Fr W sg s := by
  intro n
  induction n with
  | zero => intro _ _ _ _ _ _ _ _ h; rw [f_X12_doIn_45] at h; cases h
  | succ n ih =>
    intro x1 x2 x3 x4 x5 sg v s h
    rw [f_X12_doIn_45] at h
    have F := Fr.rf W sg
    rcases ite_or h with h | h
    · obtain ⟨v4, s3, hp, h⟩ := bd2_some h
      replace F := F.tr (Fr.mono (fr_X12_isLeast hp) (fun x hx => by unfold W_X12_isLeast at hx; exact hx.elim))
      rcases ite_or h with h | h
      · exact F.tr (ih h)
      · obtain ⟨v5, -, h⟩ := bd_some h
        obtain ⟨v6, -, h⟩ := bd_some h
        rcases ite_or h with h | h
        · exact F.tr (ih h)
        · exact F.tr (ih h)
    · exact F.tr (hk100 h)
def W_X12_doIn_5 (x : Nat) : Prop := x = 247 ∨ x = 278 ∨ x = 279 ∨ x = 280 ∨ x = 281
theorem fr_X12_doIn_5 {W : Nat → Prop} (hW : ∀ x, W_X12_doIn_5 x → W x) : ∀ (n : Nat) {x1 : Int32} {x2 : Int32} {x3 : Int32} {x4 : Int32} {sg : ST} {v : Int32} {s : ST}, f_X12_doIn_5 n x1 x2 x3 x4 sg = some (v, s) → Fr W sg s := by
  intro n
  induction n with
  | zero => intro _ _ _ _ _ _ _ h; rw [f_X12_doIn_5] at h; cases h
  | succ n ih =>
    intro x1 x2 x3 x4 sg v s h
    rw [f_X12_doIn_5] at h
    have F := Fr.rf W sg
    rcases ite_or h with h | h
    · obtain ⟨v1, -, h⟩ := bd_some h
      rcases ite_or h with h | h
      · exact F.tr (ih h)
      · obtain ⟨s2, hp, h⟩ := bd_some h
        replace F := F.tr (Fr.mono (fr_X12_edgesOf hp) (fun x hx => hW x (by unfold W_X12_edgesOf at hx; unfold W_X12_doIn_5; omega)))
        refine F.tr (fr_X12_doIn_45 (fun x hx => hW x (by unfold W_X12_doIn_45 at hx; unfold W_X12_doIn_5; omega)) ?_ FU h)
        · intro x1_7 x2_8 x3_9 x4_10 s11 _ _ h
          have F := Fr.rf W s11
          exact F.tr (ih h)
    · cases h; exact F
def W_X12_doIn (x : Nat) : Prop := x = 247 ∨ x = 278 ∨ x = 279 ∨ x = 280 ∨ x = 281
theorem fr_X12_doIn {x1 : Int32} {x2 : Int32} {σ : ST} {v : Int32} {s : ST} (h : f_X12_doIn x1 x2 σ = some (v, s)) : Fr (W_X12_doIn ) σ s := by
  unfold f_X12_doIn at h
  have F := Fr.rf (W_X12_doIn ) σ
  refine F.tr (fr_X12_doIn_5 (fun x hx => by unfold W_X12_doIn_5 at hx; unfold W_X12_doIn; omega) FU h)
def W_X12_isOf (x : Nat) : Prop := x = 247 ∨ x = 278 ∨ x = 279 ∨ x = 280 ∨ x = 281
theorem fr_X12_isOf {x1 : Int32} {x2 : Int32} {σ : ST} {v : Int32} {s : ST} (h : f_X12_isOf x1 x2 σ = some (v, s)) : Fr (W_X12_isOf ) σ s := by
  unfold f_X12_isOf at h
  have F := Fr.rf (W_X12_isOf ) σ
  obtain ⟨v2, s1, hp, h⟩ := bd2_some h
  replace F := F.tr (Fr.mono (fr_X12_doIn hp) (fun x hx => by unfold W_X12_doIn at hx; unfold W_X12_isOf; omega))
  rcases ite_or h with h | h
  · cases h; exact F
  · rcases ite_or h with h | h
    · cases h; exact F
    · cases h; exact F
def W_X12_is (x : Nat) : Prop := x = 247 ∨ x = 266 ∨ x = 267 ∨ x = 268 ∨ x = 269 ∨ x = 270 ∨ x = 271 ∨ x = 272 ∨ x = 273 ∨ x = 274 ∨ x = 275 ∨ x = 276 ∨ x = 277 ∨ x = 278 ∨ x = 279 ∨ x = 280 ∨ x = 281
theorem fr_X12_is {x1 : Int32} {x2 : Int32} {σ : ST} {v : Int32} {s : ST} (h : f_X12_is x1 x2 σ = some (v, s)) : Fr (W_X12_is ) σ s := by
  unfold f_X12_is at h
  have F := Fr.rf (W_X12_is ) σ
  obtain ⟨v2, s1, hp, h⟩ := bd2_some h
  replace F := F.tr (Fr.mono (fr_X12_isThing hp) (fun x hx => by unfold W_X12_isThing at hx; exact hx.elim))
  rcases ite_or h with h | h
  · cases h; exact F
  · obtain ⟨v4, s3, hp, h⟩ := bd2_some h
    replace F := F.tr (Fr.mono (fr_X12_isHour hp) (fun x hx => by unfold W_X12_isHour at hx; exact hx.elim))
    rcases ite_or h with h | h
    · cases h; exact F
    · obtain ⟨v6, s5, hp, h⟩ := bd2_some h
      replace F := F.tr (Fr.mono (fr_X12_all hp) (fun x hx => by unfold W_X12_all at hx; exact hx.elim))
      obtain ⟨v8, s7, hp, h⟩ := bd2_some h
      replace F := F.tr (Fr.mono (fr_X12_solve hp) (fun x hx => by unfold W_X12_solve at hx; unfold W_X12_is; omega))
      rcases ite_or h with h | h
      · cases h; exact F
      · obtain ⟨v10, s9, hp, h⟩ := bd2_some h
        replace F := F.tr (Fr.mono (fr_X12_isOf hp) (fun x hx => by unfold W_X12_isOf at hx; unfold W_X12_is; omega))
        cases h; exact F
def W_X12_value_50 (x : Nat) : Prop := False
theorem fr_X12_value_50 {W : Nat → Prop} (hW : ∀ x, W_X12_value_50 x → W x) : ∀ (n : Nat) {x2 : Int32} {x3 : Int32} {x4 : Int32} {x5 : Int32} {sg : ST} {v : Int32} {s : ST}, f_X12_value_50 n x2 x3 x4 x5 sg = some (v, s) → Fr W sg s := by
  intro n
  induction n with
  | zero => intro _ _ _ _ _ _ _ h; rw [f_X12_value_50] at h; cases h
  | succ n ih =>
    intro x2 x3 x4 x5 sg v s h
    rw [f_X12_value_50] at h
    have F := Fr.rf W sg
    rcases ite_or h with h | h
    · obtain ⟨v10, -, h⟩ := bd_some h
      rcases ite_or h with h | h
      · exact F.tr (ih h)
      · obtain ⟨v11, -, h⟩ := bd_some h
        obtain ⟨v12, -, h⟩ := bd_some h
        rcases ite_or h with h | h
        · exact F.tr (ih h)
        · exact F.tr (ih h)
    · cases h; exact F
def W_X12_value (x : Nat) : Prop := x = 247 ∨ x = 266 ∨ x = 267 ∨ x = 268 ∨ x = 269 ∨ x = 270 ∨ x = 271 ∨ x = 272 ∨ x = 273 ∨ x = 274 ∨ x = 275 ∨ x = 276 ∨ x = 277 ∨ x = 278 ∨ x = 279 ∨ x = 280 ∨ x = 281
theorem fr_X12_value {x1 : Int32} {x2 : Int32} {σ : ST} {v : Int32} {s : ST} (h : f_X12_value x1 x2 σ = some (v, s)) : Fr (W_X12_value ) σ s := by
  unfold f_X12_value at h
  have F := Fr.rf (W_X12_value ) σ
  obtain ⟨v2, s1, hp, h⟩ := bd2_some h
  replace F := F.tr (Fr.mono (fr_X12_isThing hp) (fun x hx => by unfold W_X12_isThing at hx; exact hx.elim))
  rcases ite_or h with h | h
  · cases h; exact F
  · obtain ⟨v3, -, h⟩ := bd_some h
    rcases ite_or h with h | h
    · obtain ⟨v5, s4, hp, h⟩ := bd2_some h
      replace F := F.tr (Fr.mono (fr_X12_isHour hp) (fun x hx => by unfold W_X12_isHour at hx; exact hx.elim))
      rcases ite_or h with h | h
      · cases h; exact F
      · obtain ⟨v7, s6, hp, h⟩ := bd2_some h
        replace F := F.tr (Fr.mono (fr_X12_all hp) (fun x hx => by unfold W_X12_all at hx; exact hx.elim))
        obtain ⟨v9, s8, hp, h⟩ := bd2_some h
        replace F := F.tr (Fr.mono (fr_X12_solve hp) (fun x hx => by unfold W_X12_solve at hx; unfold W_X12_value; omega))
        rcases ite_or h with h | h
        · cases h; exact F
        · refine F.tr (fr_X12_value_50 (fun x hx => by unfold W_X12_value_50 at hx; unfold W_X12_value; omega) FU h)
    · cases h; exact F
def W_X12_why_27 (x : Nat) : Prop := x = 247 ∨ x = 266 ∨ x = 267 ∨ x = 268 ∨ x = 269 ∨ x = 270 ∨ x = 271 ∨ x = 272 ∨ x = 273 ∨ x = 274 ∨ x = 275 ∨ x = 276 ∨ x = 277 ∨ x = 278 ∨ x = 279 ∨ x = 280 ∨ x = 281
theorem fr_X12_why_27 {W : Nat → Prop} (hW : ∀ x, W_X12_why_27 x → W x) : ∀ (n : Nat) {x1 : Int32} {x2 : Int32} {x3 : Int32} {x4 : Int32} {x5 : Int32} {sg : ST} {v : Int32} {s : ST}, f_X12_why_27 n x1 x2 x3 x4 x5 sg = some (v, s) → Fr W sg s := by
  intro n
  induction n with
  | zero => intro _ _ _ _ _ _ _ _ h; rw [f_X12_why_27] at h; cases h
  | succ n ih =>
    intro x1 x2 x3 x4 x5 sg v s h
    rw [f_X12_why_27] at h
    have F := Fr.rf W sg
    rcases ite_or h with h | h
    · rcases ite_or h with h | h
      · exact F.tr (ih h)
      · obtain ⟨v6, s5, hp, h⟩ := bd2_some h
        replace F := F.tr (Fr.mono (fr_X12_solve hp) (fun x hx => hW x (by unfold W_X12_solve at hx; unfold W_X12_why_27; omega)))
        rcases ite_or h with h | h
        · exact F.tr (ih h)
        · obtain ⟨v8, s7, hp, h⟩ := bd2_some h
          replace F := F.tr (Fr.mono (fr_X12_isOf hp) (fun x hx => hW x (by unfold W_X12_isOf at hx; unfold W_X12_why_27; omega)))
          rcases ite_or h with h | h
          · exact F.tr (ih h)
          · exact F.tr (ih h)
    · cases h; exact F
def W_X12_why (x : Nat) : Prop := x = 247 ∨ x = 266 ∨ x = 267 ∨ x = 268 ∨ x = 269 ∨ x = 270 ∨ x = 271 ∨ x = 272 ∨ x = 273 ∨ x = 274 ∨ x = 275 ∨ x = 276 ∨ x = 277 ∨ x = 278 ∨ x = 279 ∨ x = 280 ∨ x = 281
theorem fr_X12_why {x1 : Int32} {x2 : Int32} {σ : ST} {v : Int32} {s : ST} (h : f_X12_why x1 x2 σ = some (v, s)) : Fr (W_X12_why ) σ s := by
  unfold f_X12_why at h
  have F := Fr.rf (W_X12_why ) σ
  obtain ⟨v2, s1, hp, h⟩ := bd2_some h
  replace F := F.tr (Fr.mono (fr_X12_is hp) (fun x hx => by unfold W_X12_is at hx; unfold W_X12_why; omega))
  rcases ite_or h with h | h
  · cases h; exact F
  · rcases ite_or h with h | h
    · cases h; exact F
    · obtain ⟨v4, s3, hp, h⟩ := bd2_some h
      replace F := F.tr (Fr.mono (fr_X12_all hp) (fun x hx => by unfold W_X12_all at hx; exact hx.elim))
      refine F.tr (fr_X12_why_27 (fun x hx => by unfold W_X12_why_27 at hx; unfold W_X12_why; omega) FU h)
def W_X12_quarrel_19 (x : Nat) : Prop := x = 247 ∨ x = 266 ∨ x = 267 ∨ x = 268 ∨ x = 269 ∨ x = 270 ∨ x = 271 ∨ x = 272 ∨ x = 273 ∨ x = 274 ∨ x = 275 ∨ x = 276 ∨ x = 277 ∨ x = 278 ∨ x = 279 ∨ x = 280 ∨ x = 281
theorem fr_X12_quarrel_19 {W : Nat → Prop} (hW : ∀ x, W_X12_quarrel_19 x → W x) : ∀ (n : Nat) {x1 : Int32} {x2 : Int32} {sg : ST} {v : Int32} {s : ST}, f_X12_quarrel_19 n x1 x2 sg = some (v, s) → Fr W sg s := by
  intro n
  induction n with
  | zero => intro _ _ _ _ _ h; rw [f_X12_quarrel_19] at h; cases h
  | succ n ih =>
    intro x1 x2 sg v s h
    rw [f_X12_quarrel_19] at h
    have F := Fr.rf W sg
    rcases ite_or h with h | h
    · rcases ite_or h with h | h
      · exact F.tr (ih h)
      · obtain ⟨v6, s5, hp, h⟩ := bd2_some h
        replace F := F.tr (Fr.mono (fr_X12_solve hp) (fun x hx => hW x (by unfold W_X12_solve at hx; unfold W_X12_quarrel_19; omega)))
        rcases ite_or h with h | h
        · exact F.tr (ih h)
        · exact F.tr (ih h)
    · cases h; exact F
def W_X12_quarrel (x : Nat) : Prop := x = 247 ∨ x = 266 ∨ x = 267 ∨ x = 268 ∨ x = 269 ∨ x = 270 ∨ x = 271 ∨ x = 272 ∨ x = 273 ∨ x = 274 ∨ x = 275 ∨ x = 276 ∨ x = 277 ∨ x = 278 ∨ x = 279 ∨ x = 280 ∨ x = 281
theorem fr_X12_quarrel {σ : ST} {v : Int32} {s : ST} (h : f_X12_quarrel σ = some (v, s)) : Fr (W_X12_quarrel ) σ s := by
  unfold f_X12_quarrel at h
  have F := Fr.rf (W_X12_quarrel ) σ
  obtain ⟨v2, s1, hp, h⟩ := bd2_some h
  replace F := F.tr (Fr.mono (fr_X12_all hp) (fun x hx => by unfold W_X12_all at hx; exact hx.elim))
  obtain ⟨v4, s3, hp, h⟩ := bd2_some h
  replace F := F.tr (Fr.mono (fr_X12_solve hp) (fun x hx => by unfold W_X12_solve at hx; unfold W_X12_quarrel; omega))
  rcases ite_or h with h | h
  · refine F.tr (fr_X12_quarrel_19 (fun x hx => by unfold W_X12_quarrel_19 at hx; unfold W_X12_quarrel; omega) FU h)
  · cases h; exact F
def W_X12_out_69 (x : Nat) : Prop := x = 247 ∨ x = 266 ∨ x = 267 ∨ x = 268 ∨ x = 269 ∨ x = 270 ∨ x = 271 ∨ x = 272 ∨ x = 273 ∨ x = 274 ∨ x = 275 ∨ x = 276 ∨ x = 277 ∨ x = 278 ∨ x = 279 ∨ x = 280 ∨ x = 281
theorem fr_X12_out_69 {k21 : Int32 → Int32 → Int32 → ST → Option (Int32 × ST)} {W : Nat → Prop} (hW : ∀ x, W_X12_out_69 x → W x) (hk21 : ∀ {u0 : Int32} {u1 : Int32} {u2 : Int32} {sg : ST} {v : Int32} {s : ST}, k21 u0 u1 u2 sg = some (v, s) → Fr W sg s) {x1 : Int32} {x2 : Int32} {x3 : Int32} {sg : ST} {v : Int32} {s : ST} (h : f_X12_out_69 k21 x1 x2 x3 sg = some (v, s)) : Fr W sg s := by
  unfold f_X12_out_69 at h
  have F := Fr.rf W sg
  obtain ⟨v6, s5, hp, h⟩ := bd2_some h
  replace F := F.tr (Fr.mono (fr_X12_solve hp) (fun x hx => hW x (by unfold W_X12_solve at hx; unfold W_X12_out_69; omega)))
  rcases ite_or h with h | h
  · exact F.tr (hk21 h)
  · exact F.tr (hk21 h)
def W_X12_out_21 (x : Nat) : Prop := x = 247 ∨ x = 266 ∨ x = 267 ∨ x = 268 ∨ x = 269 ∨ x = 270 ∨ x = 271 ∨ x = 272 ∨ x = 273 ∨ x = 274 ∨ x = 275 ∨ x = 276 ∨ x = 277 ∨ x = 278 ∨ x = 279 ∨ x = 280 ∨ x = 281
theorem fr_X12_out_21 {W : Nat → Prop} (hW : ∀ x, W_X12_out_21 x → W x) : ∀ (n : Nat) {x1 : Int32} {x2 : Int32} {x3 : Int32} {sg : ST} {v : Int32} {s : ST}, f_X12_out_21 n x1 x2 x3 sg = some (v, s) → Fr W sg s := by
  intro n
  induction n with
  | zero => intro _ _ _ _ _ _ h; rw [f_X12_out_21] at h; cases h
  | succ n ih =>
    intro x1 x2 x3 sg v s h
    rw [f_X12_out_21] at h
    have F := Fr.rf W sg
    rcases ite_or h with h | h
    · rcases ite_or h with h | h
      · exact F.tr (ih h)
      · rcases ite_or h with h | h
        · refine F.tr (fr_X12_out_69 (fun x hx => hW x (by unfold W_X12_out_69 at hx; unfold W_X12_out_21; omega)) (fun h => ih h) h)
        · obtain ⟨v7, -, h⟩ := bd_some h
          obtain ⟨v8, -, h⟩ := bd_some h
          obtain ⟨v9, -, h⟩ := bd_some h
          obtain ⟨v10, -, h⟩ := bd_some h
          rcases ite_or h with h | h
          · refine F.tr (fr_X12_out_69 (fun x hx => hW x (by unfold W_X12_out_69 at hx; unfold W_X12_out_21; omega)) (fun h => ih h) h)
          · exact F.tr (ih h)
    · cases h; exact F
def W_X12_out (x : Nat) : Prop := x = 247 ∨ x = 266 ∨ x = 267 ∨ x = 268 ∨ x = 269 ∨ x = 270 ∨ x = 271 ∨ x = 272 ∨ x = 273 ∨ x = 274 ∨ x = 275 ∨ x = 276 ∨ x = 277 ∨ x = 278 ∨ x = 279 ∨ x = 280 ∨ x = 281
theorem fr_X12_out {σ : ST} {v : Int32} {s : ST} (h : f_X12_out σ = some (v, s)) : Fr (W_X12_out ) σ s := by
  unfold f_X12_out at h
  have F := Fr.rf (W_X12_out ) σ
  obtain ⟨v2, s1, hp, h⟩ := bd2_some h
  replace F := F.tr (Fr.mono (fr_X12_all hp) (fun x hx => by unfold W_X12_all at hx; exact hx.elim))
  obtain ⟨v4, s3, hp, h⟩ := bd2_some h
  replace F := F.tr (Fr.mono (fr_X12_solve hp) (fun x hx => by unfold W_X12_solve at hx; unfold W_X12_out; omega))
  rcases ite_or h with h | h
  · refine F.tr (fr_X12_out_21 (fun x hx => by unfold W_X12_out_21 at hx; unfold W_X12_out; omega) FU h)
  · cases h; exact F
def W_X12_often_53 (x : Nat) : Prop := x = 282 ∨ x = 283
theorem fr_X12_often_53 {k3 : Int32 → Int32 → Int32 → Int32 → Int32 → ST → Option (Int32 × ST)} {W : Nat → Prop} (hW : ∀ x, W_X12_often_53 x → W x) (hk3 : ∀ {u0 : Int32} {u1 : Int32} {u2 : Int32} {u3 : Int32} {u4 : Int32} {sg : ST} {v : Int32} {s : ST}, k3 u0 u1 u2 u3 u4 sg = some (v, s) → Fr W sg s) {x1 : Int32} {x2 : Int32} {x3 : Int32} {x4 : Int32} {x5 : Int32} {x6 : Int32} {z1 : Int32} {z2 : Int32} {sg : ST} {v : Int32} {s : ST} (h : f_X12_often_53 k3 x1 x2 x3 x4 x5 x6 z1 z2 sg = some (v, s)) : Fr W sg s := by
  unfold f_X12_often_53 at h
  have F := Fr.rf W sg
  obtain ⟨s2, hw, h⟩ := bd_some h
  replace F := F.tr (Fr_wrI (hW _ (by unfold W_X12_often_53; omega)) hw)
  rcases ite_or h with h | h
  · obtain ⟨s3, hw, h⟩ := bd_some h
    replace F := F.tr (Fr_wrI (hW _ (by unfold W_X12_often_53; omega)) hw)
    exact F.tr (hk3 h)
  · obtain ⟨s4, hw, h⟩ := bd_some h
    replace F := F.tr (Fr_wrI (hW _ (by unfold W_X12_often_53; omega)) hw)
    exact F.tr (hk3 h)
def W_X12_often_33 (x : Nat) : Prop := x = 282 ∨ x = 283
theorem fr_X12_often_33 {k3 : Int32 → Int32 → Int32 → Int32 → Int32 → ST → Option (Int32 × ST)} {W : Nat → Prop} (hW : ∀ x, W_X12_often_33 x → W x) (hk3 : ∀ {u0 : Int32} {u1 : Int32} {u2 : Int32} {u3 : Int32} {u4 : Int32} {sg : ST} {v : Int32} {s : ST}, k3 u0 u1 u2 u3 u4 sg = some (v, s) → Fr W sg s) {x1 : Int32} {x2 : Int32} {x3 : Int32} {x4 : Int32} {x5 : Int32} {z0 : Int32} {sg : ST} {v : Int32} {s : ST} (h : f_X12_often_33 k3 x1 x2 x3 x4 x5 z0 sg = some (v, s)) : Fr W sg s := by
  unfold f_X12_often_33 at h
  have F := Fr.rf W sg
  rcases ite_or h with h | h
  · refine F.tr (fr_X12_often_53 (fun x hx => hW x (by unfold W_X12_often_53 at hx; unfold W_X12_often_33; omega)) (fun h => hk3 h) h)
  · refine F.tr (fr_X12_often_53 (fun x hx => hW x (by unfold W_X12_often_53 at hx; unfold W_X12_often_33; omega)) (fun h => hk3 h) h)
def W_X12_often_32 (x : Nat) : Prop := x = 282 ∨ x = 283
theorem fr_X12_often_32 {k3 : Int32 → Int32 → Int32 → Int32 → Int32 → ST → Option (Int32 × ST)} {W : Nat → Prop} (hW : ∀ x, W_X12_often_32 x → W x) (hk3 : ∀ {u0 : Int32} {u1 : Int32} {u2 : Int32} {u3 : Int32} {u4 : Int32} {sg : ST} {v : Int32} {s : ST}, k3 u0 u1 u2 u3 u4 sg = some (v, s) → Fr W sg s) {x1 : Int32} {x2 : Int32} {x3 : Int32} {x4 : Int32} {x5 : Int32} {sg : ST} {v : Int32} {s : ST} (h : f_X12_often_32 k3 x1 x2 x3 x4 x5 sg = some (v, s)) : Fr W sg s := by
  unfold f_X12_often_32 at h
  have F := Fr.rf W sg
  refine F.tr (fr_X12_often_33 (fun x hx => hW x (by unfold W_X12_often_33 at hx; unfold W_X12_often_32; omega)) (fun h => hk3 h) h)
def W_X12_often_3 (x : Nat) : Prop := x = 282 ∨ x = 283
theorem fr_X12_often_3 {k77 : Int32 → Int32 → Int32 → Int32 → ST → Option (Int32 × ST)} {W : Nat → Prop} (hW : ∀ x, W_X12_often_3 x → W x) (hk77 : ∀ {u0 : Int32} {u1 : Int32} {u2 : Int32} {u3 : Int32} {sg : ST} {v : Int32} {s : ST}, k77 u0 u1 u2 u3 sg = some (v, s) → Fr W sg s) : ∀ (n : Nat) {x1 : Int32} {x2 : Int32} {x3 : Int32} {x4 : Int32} {x5 : Int32} {sg : ST} {v : Int32} {s : ST}, f_X12_often_3 k77 n x1 x2 x3 x4 x5 sg = some (v, s) → Fr W sg s := by
  intro n
  induction n with
  | zero => intro _ _ _ _ _ _ _ _ h; rw [f_X12_often_3] at h; cases h
  | succ n ih =>
    intro x1 x2 x3 x4 x5 sg v s h
    rw [f_X12_often_3] at h
    have F := Fr.rf W sg
    rcases ite_or h with h | h
    · obtain ⟨v1, -, h⟩ := bd_some h
      rcases ite_or h with h | h
      · rcases ite_or h with h | h
        · refine F.tr (fr_X12_often_33 (fun x hx => hW x (by unfold W_X12_often_33 at hx; unfold W_X12_often_3; omega)) (fun h => ih h) h)
        · refine F.tr (fr_X12_often_32 (fun x hx => hW x (by unfold W_X12_often_32 at hx; unfold W_X12_often_3; omega)) (fun h => ih h) h)
      · refine F.tr (fr_X12_often_32 (fun x hx => hW x (by unfold W_X12_often_32 at hx; unfold W_X12_often_3; omega)) (fun h => ih h) h)
    · exact F.tr (hk77 h)
def W_X12_often_90 (x : Nat) : Prop := x = 284 ∨ x = 285
theorem fr_X12_often_90 {k122 : Int32 → Int32 → Int32 → Int32 → Int32 → ST → Option (Int32 × ST)} {W : Nat → Prop} (hW : ∀ x, W_X12_often_90 x → W x) (hk122 : ∀ {u0 : Int32} {u1 : Int32} {u2 : Int32} {u3 : Int32} {u4 : Int32} {sg : ST} {v : Int32} {s : ST}, k122 u0 u1 u2 u3 u4 sg = some (v, s) → Fr W sg s) : ∀ (n : Nat) {x1 : Int32} {x2 : Int32} {x3 : Int32} {x4 : Int32} {x5 : Int32} {x6 : Int32} {sg : ST} {v : Int32} {s : ST}, f_X12_often_90 k122 n x1 x2 x3 x4 x5 x6 sg = some (v, s) → Fr W sg s := by
  intro n
  induction n with
  | zero => intro _ _ _ _ _ _ _ _ _ h; rw [f_X12_often_90] at h; cases h
  | succ n ih =>
    intro x1 x2 x3 x4 x5 x6 sg v s h
    rw [f_X12_often_90] at h
    have F := Fr.rf W sg
    rcases ite_or h with h | h
    · obtain ⟨s10, hw, h⟩ := bd_some h
      replace F := F.tr (Fr_wrI (hW _ (by unfold W_X12_often_90; omega)) hw)
      obtain ⟨s11, hw, h⟩ := bd_some h
      replace F := F.tr (Fr_wrI (hW _ (by unfold W_X12_often_90; omega)) hw)
      exact F.tr (ih h)
    · exact F.tr (hk122 h)
def W_X12_often_255 (x : Nat) : Prop := x = 284 ∨ x = 285
theorem fr_X12_often_255 {k157 : Int32 → Int32 → Int32 → Int32 → Int32 → Int32 → Int32 → ST → Option (Int32 × ST)} {W : Nat → Prop} (hW : ∀ x, W_X12_often_255 x → W x) (hk157 : ∀ {u0 : Int32} {u1 : Int32} {u2 : Int32} {u3 : Int32} {u4 : Int32} {u5 : Int32} {u6 : Int32} {sg : ST} {v : Int32} {s : ST}, k157 u0 u1 u2 u3 u4 u5 u6 sg = some (v, s) → Fr W sg s) {x1 : Int32} {x2 : Int32} {x3 : Int32} {x4 : Int32} {x5 : Int32} {x6 : Int32} {x7 : Int32} {z0 : Int32} {sg : ST} {v : Int32} {s : ST} (h : f_X12_often_255 k157 x1 x2 x3 x4 x5 x6 x7 z0 sg = some (v, s)) : Fr W sg s := by
  unfold f_X12_often_255 at h
  have F := Fr.rf W sg
  obtain ⟨v23, -, h⟩ := bd_some h
  obtain ⟨v24, -, h⟩ := bd_some h
  obtain ⟨v25, -, h⟩ := bd_some h
  obtain ⟨v26, -, h⟩ := bd_some h
  obtain ⟨s27, hw, h⟩ := bd_some h
  replace F := F.tr (Fr_wrI (hW _ (by unfold W_X12_often_255; omega)) hw)
  obtain ⟨v28, -, h⟩ := bd_some h
  obtain ⟨v29, -, h⟩ := bd_some h
  obtain ⟨v30, -, h⟩ := bd_some h
  obtain ⟨v31, -, h⟩ := bd_some h
  obtain ⟨s32, hw, h⟩ := bd_some h
  replace F := F.tr (Fr_wrI (hW _ (by unfold W_X12_often_255; omega)) hw)
  exact F.tr (hk157 h)
def W_X12_often_254 (x : Nat) : Prop := x = 284 ∨ x = 285
theorem fr_X12_often_254 {k157 : Int32 → Int32 → Int32 → Int32 → Int32 → Int32 → Int32 → ST → Option (Int32 × ST)} {W : Nat → Prop} (hW : ∀ x, W_X12_often_254 x → W x) (hk157 : ∀ {u0 : Int32} {u1 : Int32} {u2 : Int32} {u3 : Int32} {u4 : Int32} {u5 : Int32} {u6 : Int32} {sg : ST} {v : Int32} {s : ST}, k157 u0 u1 u2 u3 u4 u5 u6 sg = some (v, s) → Fr W sg s) {x1 : Int32} {x2 : Int32} {x3 : Int32} {x4 : Int32} {x5 : Int32} {x6 : Int32} {x7 : Int32} {sg : ST} {v : Int32} {s : ST} (h : f_X12_often_254 k157 x1 x2 x3 x4 x5 x6 x7 sg = some (v, s)) : Fr W sg s := by
  unfold f_X12_often_254 at h
  have F := Fr.rf W sg
  refine F.tr (fr_X12_often_255 (fun x hx => hW x (by unfold W_X12_often_255 at hx; unfold W_X12_often_254; omega)) (fun h => hk157 h) h)
def W_X12_often_230 (x : Nat) : Prop := x = 284 ∨ x = 285
theorem fr_X12_often_230 {k157 : Int32 → Int32 → Int32 → Int32 → Int32 → Int32 → Int32 → ST → Option (Int32 × ST)} {W : Nat → Prop} (hW : ∀ x, W_X12_often_230 x → W x) (hk157 : ∀ {u0 : Int32} {u1 : Int32} {u2 : Int32} {u3 : Int32} {u4 : Int32} {u5 : Int32} {u6 : Int32} {sg : ST} {v : Int32} {s : ST}, k157 u0 u1 u2 u3 u4 u5 u6 sg = some (v, s) → Fr W sg s) {x1 : Int32} {x2 : Int32} {x3 : Int32} {x4 : Int32} {x5 : Int32} {x6 : Int32} {x7 : Int32} {z0 : Int32} {sg : ST} {v : Int32} {s : ST} (h : f_X12_often_230 k157 x1 x2 x3 x4 x5 x6 x7 z0 sg = some (v, s)) : Fr W sg s := by
  unfold f_X12_often_230 at h
  have F := Fr.rf W sg
  rcases ite_or h with h | h
  · refine F.tr (fr_X12_often_254 (fun x hx => hW x (by unfold W_X12_often_254 at hx; unfold W_X12_often_230; omega)) (fun h => hk157 h) h)
  · rcases ite_or h with h | h
    · refine F.tr (fr_X12_often_254 (fun x hx => hW x (by unfold W_X12_often_254 at hx; unfold W_X12_often_230; omega)) (fun h => hk157 h) h)
    · rcases ite_or h with h | h
      · refine F.tr (fr_X12_often_254 (fun x hx => hW x (by unfold W_X12_often_254 at hx; unfold W_X12_often_230; omega)) (fun h => hk157 h) h)
      · refine F.tr (fr_X12_often_255 (fun x hx => hW x (by unfold W_X12_often_255 at hx; unfold W_X12_often_230; omega)) (fun h => hk157 h) h)
def W_X12_often_157 (x : Nat) : Prop := x = 284 ∨ x = 285
theorem fr_X12_often_157 {k337 : Int32 → Int32 → Int32 → Int32 → Int32 → Int32 → ST → Option (Int32 × ST)} {W : Nat → Prop} (hW : ∀ x, W_X12_often_157 x → W x) (hk337 : ∀ {u0 : Int32} {u1 : Int32} {u2 : Int32} {u3 : Int32} {u4 : Int32} {u5 : Int32} {sg : ST} {v : Int32} {s : ST}, k337 u0 u1 u2 u3 u4 u5 sg = some (v, s) → Fr W sg s) : ∀ (n : Nat) {x1 : Int32} {x2 : Int32} {x3 : Int32} {x4 : Int32} {x5 : Int32} {x6 : Int32} {x7 : Int32} {sg : ST} {v : Int32} {s : ST}, f_X12_often_157 k337 n x1 x2 x3 x4 x5 x6 x7 sg = some (v, s) → Fr W sg s := by
  intro n
  induction n with
  | zero => intro _ _ _ _ _ _ _ _ _ _ h; rw [f_X12_often_157] at h; cases h
  | succ n ih =>
    intro x1 x2 x3 x4 x5 x6 x7 sg v s h
    rw [f_X12_often_157] at h
    have F := Fr.rf W sg
    rcases ite_or h with h | h
    · obtain ⟨v21, s20, hp, h⟩ := bd2_some h
      replace F := F.tr (Fr.mono (fr_X12_isLeast hp) (fun x hx => by unfold W_X12_isLeast at hx; exact hx.elim))
      rcases ite_or h with h | h
      · exact F.tr (ih h)
      · rcases ite_or h with h | h
        · obtain ⟨v22, -, h⟩ := bd_some h
          rcases ite_or h with h | h
          · refine F.tr (fr_X12_often_230 (fun x hx => hW x (by unfold W_X12_often_230 at hx; unfold W_X12_often_157; omega)) (fun h => ih h) h)
          · refine F.tr (fr_X12_often_230 (fun x hx => hW x (by unfold W_X12_often_230 at hx; unfold W_X12_often_157; omega)) (fun h => ih h) h)
        · obtain ⟨v33, -, h⟩ := bd_some h
          obtain ⟨v34, -, h⟩ := bd_some h
          rcases ite_or h with h | h
          · refine F.tr (fr_X12_often_230 (fun x hx => hW x (by unfold W_X12_often_230 at hx; unfold W_X12_often_157; omega)) (fun h => ih h) h)
          · refine F.tr (fr_X12_often_230 (fun x hx => hW x (by unfold W_X12_often_230 at hx; unfold W_X12_often_157; omega)) (fun h => ih h) h)
    · exact F.tr (hk337 h)
def W_X12_often_125 (x : Nat) : Prop := x = 247 ∨ x = 278 ∨ x = 279 ∨ x = 280 ∨ x = 281 ∨ x = 284 ∨ x = 285
theorem fr_X12_often_125 {k343 : Int32 → Int32 → Int32 → Int32 → Int32 → ST → Option (Int32 × ST)} {W : Nat → Prop} (hW : ∀ x, W_X12_often_125 x → W x) (hk343 : ∀ {u0 : Int32} {u1 : Int32} {u2 : Int32} {u3 : Int32} {u4 : Int32} {sg : ST} {v : Int32} {s : ST}, k343 u0 u1 u2 u3 u4 sg = some (v, s) → Fr W sg s) : ∀ (n : Nat) {x1 : Int32} {x2 : Int32} {x3 : Int32} {x4 : Int32} {x5 : Int32} {x6 : Int32} {sg : ST} {v : Int32} {s : ST}, f_X12_often_125 k343 n x1 x2 x3 x4 x5 x6 sg = some (v, s) → Fr W sg s := by
  intro n
  induction n with
  | zero => intro _ _ _ _ _ _ _ _ _ h; rw [f_X12_often_125] at h; cases h
  | succ n ih =>
    intro x1 x2 x3 x4 x5 x6 sg v s h
    rw [f_X12_often_125] at h
    have F := Fr.rf W sg
    rcases ite_or h with h | h
    · obtain ⟨v18, -, h⟩ := bd_some h
      rcases ite_or h with h | h
      · exact F.tr (ih h)
      · obtain ⟨s19, hp, h⟩ := bd_some h
        replace F := F.tr (Fr.mono (fr_X12_edgesOf hp) (fun x hx => hW x (by unfold W_X12_edgesOf at hx; unfold W_X12_often_125; omega)))
        refine F.tr (fr_X12_often_157 (fun x hx => hW x (by unfold W_X12_often_157 at hx; unfold W_X12_often_125; omega)) ?_ FU h)
        · intro x1_35 x2_36 x3_37 x4_38 x5_39 x6_40 s41 _ _ h
          have F := Fr.rf W s41
          exact F.tr (ih h)
    · exact F.tr (hk343 h)
def W_X12_often_346 (x : Nat) : Prop := x = 282 ∨ x = 283
theorem fr_X12_often_346 {k388 : Int32 → Int32 → Int32 → Int32 → Int32 → ST → Option (Int32 × ST)} {W : Nat → Prop} (hW : ∀ x, W_X12_often_346 x → W x) (hk388 : ∀ {u0 : Int32} {u1 : Int32} {u2 : Int32} {u3 : Int32} {u4 : Int32} {sg : ST} {v : Int32} {s : ST}, k388 u0 u1 u2 u3 u4 sg = some (v, s) → Fr W sg s) : ∀ (n : Nat) {x1 : Int32} {x2 : Int32} {x3 : Int32} {x4 : Int32} {x5 : Int32} {x6 : Int32} {sg : ST} {v : Int32} {s : ST}, f_X12_often_346 k388 n x1 x2 x3 x4 x5 x6 sg = some (v, s) → Fr W sg s := by
  intro n
  induction n with
  | zero => intro _ _ _ _ _ _ _ _ _ h; rw [f_X12_often_346] at h; cases h
  | succ n ih =>
    intro x1 x2 x3 x4 x5 x6 sg v s h
    rw [f_X12_often_346] at h
    have F := Fr.rf W sg
    rcases ite_or h with h | h
    · obtain ⟨v48, -, h⟩ := bd_some h
      obtain ⟨s49, hw, h⟩ := bd_some h
      replace F := F.tr (Fr_wrI (hW _ (by unfold W_X12_often_346; omega)) hw)
      obtain ⟨v50, -, h⟩ := bd_some h
      obtain ⟨s51, hw, h⟩ := bd_some h
      replace F := F.tr (Fr_wrI (hW _ (by unfold W_X12_often_346; omega)) hw)
      exact F.tr (ih h)
    · exact F.tr (hk388 h)
def W_X12_often_80 (x : Nat) : Prop := x = 247 ∨ x = 278 ∨ x = 279 ∨ x = 280 ∨ x = 281 ∨ x = 282 ∨ x = 283 ∨ x = 284 ∨ x = 285
theorem fr_X12_often_80 {k394 : ST → Option (Int32 × ST)} {W : Nat → Prop} (hW : ∀ x, W_X12_often_80 x → W x) (hk394 : ∀ {sg : ST} {v : Int32} {s : ST}, k394 sg = some (v, s) → Fr W sg s) : ∀ (n : Nat) {x1 : Int32} {x2 : Int32} {x3 : Int32} {x4 : Int32} {x5 : Int32} {sg : ST} {v : Int32} {s : ST}, f_X12_often_80 k394 n x1 x2 x3 x4 x5 sg = some (v, s) → Fr W sg s := by
  intro n
  induction n with
  | zero => intro _ _ _ _ _ _ _ _ h; rw [f_X12_often_80] at h; cases h
  | succ n ih =>
    intro x1 x2 x3 x4 x5 sg v s h
    rw [f_X12_often_80] at h
    have F := Fr.rf W sg
    rcases ite_or h with h | h
    · refine F.tr (fr_X12_often_90 (fun x hx => hW x (by unfold W_X12_often_90 at hx; unfold W_X12_often_80; omega)) ?_ FU h)
      · intro x1_12 x2_13 x3_14 x4_15 x5_16 s17 _ _ h
        have F := Fr.rf W s17
        refine F.tr (fr_X12_often_125 (fun x hx => hW x (by unfold W_X12_often_125 at hx; unfold W_X12_often_80; omega)) ?_ FU h)
        · intro x1_42 x2_43 x3_44 x4_45 x5_46 s47 _ _ h
          have F := Fr.rf W s47
          refine F.tr (fr_X12_often_346 (fun x hx => hW x (by unfold W_X12_often_346 at hx; unfold W_X12_often_80; omega)) ?_ FU h)
          · intro x1_52 x2_53 x3_54 x4_55 x5_56 s57 _ _ h
            have F := Fr.rf W s57
            exact F.tr (ih h)
    · exact F.tr (hk394 h)
def W_X12_often_405 (x : Nat) : Prop := False
theorem fr_X12_often_405 {W : Nat → Prop} (hW : ∀ x, W_X12_often_405 x → W x) : ∀ (n : Nat) {x5 : Int32} {x6 : Int32} {x7 : Int32} {sg : ST} {v : Int32} {s : ST}, f_X12_often_405 n x5 x6 x7 sg = some (v, s) → Fr W sg s := by
  intro n
  induction n with
  | zero => intro _ _ _ _ _ _ h; rw [f_X12_often_405] at h; cases h
  | succ n ih =>
    intro x5 x6 x7 sg v s h
    rw [f_X12_often_405] at h
    have F := Fr.rf W sg
    rcases ite_or h with h | h
    · rcases ite_or h with h | h
      · obtain ⟨v59, -, h⟩ := bd_some h
        obtain ⟨v60, -, h⟩ := bd_some h
        exact F.tr (ih h)
      · exact F.tr (ih h)
    · cases h; exact F
def W_X12_often (x : Nat) : Prop := x = 247 ∨ x = 278 ∨ x = 279 ∨ x = 280 ∨ x = 281 ∨ x = 282 ∨ x = 283 ∨ x = 284 ∨ x = 285
theorem fr_X12_often {x1 : Int32} {x2 : Int32} {x3 : Int32} {x4 : Int32} {σ : ST} {v : Int32} {s : ST} (h : f_X12_often x1 x2 x3 x4 σ = some (v, s)) : Fr (W_X12_often ) σ s := by
  unfold f_X12_often at h
  have F := Fr.rf (W_X12_often ) σ
  refine F.tr (fr_X12_often_3 (fun x hx => by unfold W_X12_often_3 at hx; unfold W_X12_often; omega) ?_ FU h)
  · intro x1_5 x2_6 x3_7 x4_8 s9 _ _ h
    have F := Fr.rf (W_X12_often ) s9
    refine F.tr (fr_X12_often_80 (fun x hx => by unfold W_X12_often_80 at hx; unfold W_X12_often; omega) ?_ FU h)
    · intro s58 _ _ h
      have F := Fr.rf (W_X12_often ) s58
      refine F.tr (fr_X12_often_405 (fun x hx => by unfold W_X12_often_405 at hx; unfold W_X12_often; omega) FU h)
def W_X12_told (x : Nat) : Prop := False
theorem fr_X12_told {x1 : Int32} {σ : ST} {v : Int32} {s : ST} (h : f_X12_told x1 σ = some (v, s)) : Fr (W_X12_told ) σ s := by
  unfold f_X12_told at h
  have F := Fr.rf (W_X12_told ) σ
  rcases ite_or h with h | h
  · cases h; exact F
  · rcases ite_or h with h | h
    · cases h; exact F
    · cases h; exact F
def W_X12_must (x : Nat) : Prop := x = 247 ∨ x = 266 ∨ x = 267 ∨ x = 268 ∨ x = 269 ∨ x = 270 ∨ x = 271 ∨ x = 272 ∨ x = 273 ∨ x = 274 ∨ x = 275 ∨ x = 276 ∨ x = 277 ∨ x = 278 ∨ x = 279 ∨ x = 280 ∨ x = 281 ∨ x = 282 ∨ x = 283 ∨ x = 284 ∨ x = 285
theorem fr_X12_must {x1 : Int32} {x2 : Int32} {x3 : Int32} {σ : ST} {v : Int32} {s : ST} (h : f_X12_must x1 x2 x3 σ = some (v, s)) : Fr (W_X12_must ) σ s := by
  unfold f_X12_must at h
  have F := Fr.rf (W_X12_must ) σ
  obtain ⟨v2, s1, hp, h⟩ := bd2_some h
  replace F := F.tr (Fr.mono (fr_X12_isHappening hp) (fun x hx => by unfold W_X12_isHappening at hx; exact hx.elim))
  rcases ite_or h with h | h
  · cases h; exact F
  · obtain ⟨v4, s3, hp, h⟩ := bd2_some h
    replace F := F.tr (Fr.mono (fr_X12_areHours hp) (fun x hx => by unfold W_X12_areHours at hx; exact hx.elim))
    rcases ite_or h with h | h
    · cases h; exact F
    · obtain ⟨v6, s5, hp, h⟩ := bd2_some h
      replace F := F.tr (Fr.mono (fr_X12_all hp) (fun x hx => by unfold W_X12_all at hx; exact hx.elim))
      obtain ⟨v8, s7, hp, h⟩ := bd2_some h
      replace F := F.tr (Fr.mono (fr_X12_solve hp) (fun x hx => by unfold W_X12_solve at hx; unfold W_X12_must; omega))
      rcases ite_or h with h | h
      · cases h; exact F
      · obtain ⟨v10, s9, hp, h⟩ := bd2_some h
        replace F := F.tr (Fr.mono (fr_X12_often hp) (fun x hx => by unfold W_X12_often at hx; unfold W_X12_must; omega))
        obtain ⟨v12, s11, hp, h⟩ := bd2_some h
        replace F := F.tr (Fr.mono (fr_X12_told hp) (fun x hx => by unfold W_X12_told at hx; exact hx.elim))
        cases h; exact F
def W_X12_could_64 (x : Nat) : Prop := False
theorem fr_X12_could_64 {k102 : Int32 → Int32 → Int32 → ST → Option (Int32 × ST)} {W : Nat → Prop} (hW : ∀ x, W_X12_could_64 x → W x) (hk102 : ∀ {u0 : Int32} {u1 : Int32} {u2 : Int32} {sg : ST} {v : Int32} {s : ST}, k102 u0 u1 u2 sg = some (v, s) → Fr W sg s) : ∀ (n : Nat) {x1 : Int32} {x2 : Int32} {x3 : Int32} {x4 : Int32} {sg : ST} {v : Int32} {s : ST}, f_X12_could_64 k102 n x1 x2 x3 x4 sg = some (v, s) → Fr W sg s := by
  intro n
  induction n with
  | zero => intro _ _ _ _ _ _ _ h; rw [f_X12_could_64] at h; cases h
  | succ n ih =>
    intro x1 x2 x3 x4 sg v s h
    rw [f_X12_could_64] at h
    have F := Fr.rf W sg
    rcases ite_or h with h | h
    · obtain ⟨v10, s9, hp, h⟩ := bd2_some h
      replace F := F.tr (Fr.mono (fr_X12_isLeast hp) (fun x hx => by unfold W_X12_isLeast at hx; exact hx.elim))
      rcases ite_or h with h | h
      · exact F.tr (ih h)
      · obtain ⟨v11, -, h⟩ := bd_some h
        exact F.tr (ih h)
    · exact F.tr (hk102 h)
def W_X12_could_27 (x : Nat) : Prop := x = 247 ∨ x = 278 ∨ x = 279 ∨ x = 280 ∨ x = 281
theorem fr_X12_could_27 {W : Nat → Prop} (hW : ∀ x, W_X12_could_27 x → W x) : ∀ (n : Nat) {x1 : Int32} {x2 : Int32} {x3 : Int32} {sg : ST} {v : Int32} {s : ST}, f_X12_could_27 n x1 x2 x3 sg = some (v, s) → Fr W sg s := by
  intro n
  induction n with
  | zero => intro _ _ _ _ _ _ h; rw [f_X12_could_27] at h; cases h
  | succ n ih =>
    intro x1 x2 x3 sg v s h
    rw [f_X12_could_27] at h
    have F := Fr.rf W sg
    rcases ite_or h with h | h
    · obtain ⟨v7, -, h⟩ := bd_some h
      rcases ite_or h with h | h
      · exact F.tr (ih h)
      · obtain ⟨s8, hp, h⟩ := bd_some h
        replace F := F.tr (Fr.mono (fr_X12_edgesOf hp) (fun x hx => hW x (by unfold W_X12_edgesOf at hx; unfold W_X12_could_27; omega)))
        refine F.tr (fr_X12_could_64 (fun x hx => hW x (by unfold W_X12_could_64 at hx; unfold W_X12_could_27; omega)) ?_ FU h)
        · intro x1_12 x2_13 x3_14 s15 _ _ h
          have F := Fr.rf W s15
          exact F.tr (ih h)
    · cases h; exact F
def W_X12_could (x : Nat) : Prop := x = 247 ∨ x = 266 ∨ x = 267 ∨ x = 268 ∨ x = 269 ∨ x = 270 ∨ x = 271 ∨ x = 272 ∨ x = 273 ∨ x = 274 ∨ x = 275 ∨ x = 276 ∨ x = 277 ∨ x = 278 ∨ x = 279 ∨ x = 280 ∨ x = 281
theorem fr_X12_could {x1 : Int32} {σ : ST} {v : Int32} {s : ST} (h : f_X12_could x1 σ = some (v, s)) : Fr (W_X12_could ) σ s := by
  unfold f_X12_could at h
  have F := Fr.rf (W_X12_could ) σ
  obtain ⟨v2, s1, hp, h⟩ := bd2_some h
  replace F := F.tr (Fr.mono (fr_X12_isHour hp) (fun x hx => by unfold W_X12_isHour at hx; exact hx.elim))
  rcases ite_or h with h | h
  · cases h; exact F
  · obtain ⟨v4, s3, hp, h⟩ := bd2_some h
    replace F := F.tr (Fr.mono (fr_X12_all hp) (fun x hx => by unfold W_X12_all at hx; exact hx.elim))
    obtain ⟨v6, s5, hp, h⟩ := bd2_some h
    replace F := F.tr (Fr.mono (fr_X12_solve hp) (fun x hx => by unfold W_X12_solve at hx; unfold W_X12_could; omega))
    rcases ite_or h with h | h
    · cases h; exact F
    · refine F.tr (fr_X12_could_27 (fun x hx => by unfold W_X12_could_27 at hx; unfold W_X12_could; omega) FU h)
def W_X12_ever (x : Nat) : Prop := x = 247 ∨ x = 266 ∨ x = 267 ∨ x = 268 ∨ x = 269 ∨ x = 270 ∨ x = 271 ∨ x = 272 ∨ x = 273 ∨ x = 274 ∨ x = 275 ∨ x = 276 ∨ x = 277 ∨ x = 278 ∨ x = 279 ∨ x = 280 ∨ x = 281 ∨ x = 282 ∨ x = 283 ∨ x = 284 ∨ x = 285
theorem fr_X12_ever {x1 : Int32} {x2 : Int32} {x3 : Int32} {σ : ST} {v : Int32} {s : ST} (h : f_X12_ever x1 x2 x3 σ = some (v, s)) : Fr (W_X12_ever ) σ s := by
  unfold f_X12_ever at h
  have F := Fr.rf (W_X12_ever ) σ
  obtain ⟨v2, s1, hp, h⟩ := bd2_some h
  replace F := F.tr (Fr.mono (fr_X12_isThing hp) (fun x hx => by unfold W_X12_isThing at hx; exact hx.elim))
  rcases ite_or h with h | h
  · cases h; exact F
  · obtain ⟨v4, s3, hp, h⟩ := bd2_some h
    replace F := F.tr (Fr.mono (fr_X12_areHours hp) (fun x hx => by unfold W_X12_areHours at hx; exact hx.elim))
    rcases ite_or h with h | h
    · cases h; exact F
    · obtain ⟨v6, s5, hp, h⟩ := bd2_some h
      replace F := F.tr (Fr.mono (fr_X12_all hp) (fun x hx => by unfold W_X12_all at hx; exact hx.elim))
      obtain ⟨v8, s7, hp, h⟩ := bd2_some h
      replace F := F.tr (Fr.mono (fr_X12_solve hp) (fun x hx => by unfold W_X12_solve at hx; unfold W_X12_ever; omega))
      rcases ite_or h with h | h
      · cases h; exact F
      · obtain ⟨v10, s9, hp, h⟩ := bd2_some h
        replace F := F.tr (Fr.mono (fr_X12_often hp) (fun x hx => by unfold W_X12_often at hx; unfold W_X12_ever; omega))
        obtain ⟨v12, s11, hp, h⟩ := bd2_some h
        replace F := F.tr (Fr.mono (fr_X12_told hp) (fun x hx => by unfold W_X12_told at hx; exact hx.elim))
        cases h; exact F
def W_X12_howLong (x : Nat) : Prop := x = 247 ∨ x = 266 ∨ x = 267 ∨ x = 268 ∨ x = 269 ∨ x = 270 ∨ x = 271 ∨ x = 272 ∨ x = 273 ∨ x = 274 ∨ x = 275 ∨ x = 276 ∨ x = 277 ∨ x = 278 ∨ x = 279 ∨ x = 280 ∨ x = 281 ∨ x = 282 ∨ x = 283 ∨ x = 284 ∨ x = 285
theorem fr_X12_howLong {x1 : Int32} {x2 : Int32} {x3 : Int32} {σ : ST} {v : Int32} {s : ST} (h : f_X12_howLong x1 x2 x3 σ = some (v, s)) : Fr (W_X12_howLong ) σ s := by
  unfold f_X12_howLong at h
  have F := Fr.rf (W_X12_howLong ) σ
  obtain ⟨v2, s1, hp, h⟩ := bd2_some h
  replace F := F.tr (Fr.mono (fr_X12_isThing hp) (fun x hx => by unfold W_X12_isThing at hx; exact hx.elim))
  rcases ite_or h with h | h
  · cases h; exact F
  · obtain ⟨v4, s3, hp, h⟩ := bd2_some h
    replace F := F.tr (Fr.mono (fr_X12_areHours hp) (fun x hx => by unfold W_X12_areHours at hx; exact hx.elim))
    rcases ite_or h with h | h
    · cases h; exact F
    · obtain ⟨v6, s5, hp, h⟩ := bd2_some h
      replace F := F.tr (Fr.mono (fr_X12_all hp) (fun x hx => by unfold W_X12_all at hx; exact hx.elim))
      obtain ⟨v8, s7, hp, h⟩ := bd2_some h
      replace F := F.tr (Fr.mono (fr_X12_solve hp) (fun x hx => by unfold W_X12_solve at hx; unfold W_X12_howLong; omega))
      rcases ite_or h with h | h
      · cases h; exact F
      · obtain ⟨v10, s9, hp, h⟩ := bd2_some h
        replace F := F.tr (Fr.mono (fr_X12_often hp) (fun x hx => by unfold W_X12_often at hx; unfold W_X12_howLong; omega))
        cases h; exact F
def W_X12_since_14 (x : Nat) : Prop := x = 247 ∨ x = 278 ∨ x = 279 ∨ x = 280 ∨ x = 281
theorem fr_X12_since_14 {W : Nat → Prop} (hW : ∀ x, W_X12_since_14 x → W x) : ∀ (n : Nat) {x1 : Int32} {x3 : Int32} {sg : ST} {v : Int32} {s : ST}, f_X12_since_14 n x1 x3 sg = some (v, s) → Fr W sg s := by
  intro n
  induction n with
  | zero => intro _ _ _ _ _ h; rw [f_X12_since_14] at h; cases h
  | succ n ih =>
    intro x1 x3 sg v s h
    rw [f_X12_since_14] at h
    have F := Fr.rf W sg
    rcases ite_or h with h | h
    · obtain ⟨v4, s3, hp, h⟩ := bd2_some h
      replace F := F.tr (Fr.mono (fr_X12_isOf hp) (fun x hx => hW x (by unfold W_X12_isOf at hx; unfold W_X12_since_14; omega)))
      rcases ite_or h with h | h
      · exact F.tr (ih h)
      · cases h; exact F
    · cases h; exact F
def W_X12_since (x : Nat) : Prop := x = 247 ∨ x = 266 ∨ x = 267 ∨ x = 268 ∨ x = 269 ∨ x = 270 ∨ x = 271 ∨ x = 272 ∨ x = 273 ∨ x = 274 ∨ x = 275 ∨ x = 276 ∨ x = 277 ∨ x = 278 ∨ x = 279 ∨ x = 280 ∨ x = 281
theorem fr_X12_since {x1 : Int32} {x2 : Int32} {σ : ST} {v : Int32} {s : ST} (h : f_X12_since x1 x2 σ = some (v, s)) : Fr (W_X12_since ) σ s := by
  unfold f_X12_since at h
  have F := Fr.rf (W_X12_since ) σ
  obtain ⟨v2, s1, hp, h⟩ := bd2_some h
  replace F := F.tr (Fr.mono (fr_X12_is hp) (fun x hx => by unfold W_X12_is at hx; unfold W_X12_since; omega))
  rcases ite_or h with h | h
  · refine F.tr (fr_X12_since_14 (fun x hx => by unfold W_X12_since_14 at hx; unfold W_X12_since; omega) FU h)
  · cases h; exact F
def W_X12_surelyMay_42 (x : Nat) : Prop := False
theorem fr_X12_surelyMay_42 {k83 : Int32 → Int32 → Int32 → ST → Option (Int32 × ST)} {W : Nat → Prop} (hW : ∀ x, W_X12_surelyMay_42 x → W x) (hk83 : ∀ {u0 : Int32} {u1 : Int32} {u2 : Int32} {sg : ST} {v : Int32} {s : ST}, k83 u0 u1 u2 sg = some (v, s) → Fr W sg s) : ∀ (n : Nat) {x1 : Int32} {x2 : Int32} {x3 : Int32} {x4 : Int32} {sg : ST} {v : Int32} {s : ST}, f_X12_surelyMay_42 k83 n x1 x2 x3 x4 sg = some (v, s) → Fr W sg s := by
  intro n
  induction n with
  | zero => intro _ _ _ _ _ _ _ h; rw [f_X12_surelyMay_42] at h; cases h
  | succ n ih =>
    intro x1 x2 x3 x4 sg v s h
    rw [f_X12_surelyMay_42] at h
    have F := Fr.rf W sg
    rcases ite_or h with h | h
    · obtain ⟨v4, s3, hp, h⟩ := bd2_some h
      replace F := F.tr (Fr.mono (fr_X12_isLeast hp) (fun x hx => by unfold W_X12_isLeast at hx; exact hx.elim))
      rcases ite_or h with h | h
      · exact F.tr (ih h)
      · obtain ⟨v5, -, h⟩ := bd_some h
        obtain ⟨v6, -, h⟩ := bd_some h
        exact F.tr (ih h)
    · exact F.tr (hk83 h)
def W_X12_surelyMay_5 (x : Nat) : Prop := x = 247 ∨ x = 278 ∨ x = 279 ∨ x = 280 ∨ x = 281
theorem fr_X12_surelyMay_5 {k89 : Int32 → Int32 → ST → Option (Int32 × ST)} {W : Nat → Prop} (hW : ∀ x, W_X12_surelyMay_5 x → W x) (hk89 : ∀ {u0 : Int32} {u1 : Int32} {sg : ST} {v : Int32} {s : ST}, k89 u0 u1 sg = some (v, s) → Fr W sg s) : ∀ (n : Nat) {x1 : Int32} {x2 : Int32} {x3 : Int32} {sg : ST} {v : Int32} {s : ST}, f_X12_surelyMay_5 k89 n x1 x2 x3 sg = some (v, s) → Fr W sg s := by
  intro n
  induction n with
  | zero => intro _ _ _ _ _ _ h; rw [f_X12_surelyMay_5] at h; cases h
  | succ n ih =>
    intro x1 x2 x3 sg v s h
    rw [f_X12_surelyMay_5] at h
    have F := Fr.rf W sg
    rcases ite_or h with h | h
    · obtain ⟨v1, -, h⟩ := bd_some h
      rcases ite_or h with h | h
      · exact F.tr (ih h)
      · obtain ⟨s2, hp, h⟩ := bd_some h
        replace F := F.tr (Fr.mono (fr_X12_edgesOf hp) (fun x hx => hW x (by unfold W_X12_edgesOf at hx; unfold W_X12_surelyMay_5; omega)))
        refine F.tr (fr_X12_surelyMay_42 (fun x hx => hW x (by unfold W_X12_surelyMay_42 at hx; unfold W_X12_surelyMay_5; omega)) ?_ FU h)
        · intro x1_7 x2_8 x3_9 s10 _ _ h
          have F := Fr.rf W s10
          exact F.tr (ih h)
    · exact F.tr (hk89 h)
def W_X12_surelyMay (x : Nat) : Prop := x = 247 ∨ x = 278 ∨ x = 279 ∨ x = 280 ∨ x = 281
theorem fr_X12_surelyMay {x1 : Int32} {σ : ST} {v : Int32} {s : ST} (h : f_X12_surelyMay x1 σ = some (v, s)) : Fr (W_X12_surelyMay ) σ s := by
  unfold f_X12_surelyMay at h
  have F := Fr.rf (W_X12_surelyMay ) σ
  refine F.tr (fr_X12_surelyMay_5 (fun x hx => by unfold W_X12_surelyMay_5 at hx; unfold W_X12_surelyMay; omega) ?_ FU h)
  · intro x1_11 x2_12 s13 _ _ h
    have F := Fr.rf (W_X12_surelyMay ) s13
    obtain ⟨v14, -, h⟩ := bd_some h
    rcases ite_or h with h | h
    · cases h; exact F
    · cases h; exact F
def W_X12_plan_47 (x : Nat) : Prop := x = 247 ∨ x = 278 ∨ x = 279 ∨ x = 280 ∨ x = 281 ∨ x = 295
theorem fr_X12_plan_47 {k72 : Int32 → Int32 → Int32 → ST → Option (Int32 × ST)} {W : Nat → Prop} (hW : ∀ x, W_X12_plan_47 x → W x) (hk72 : ∀ {u0 : Int32} {u1 : Int32} {u2 : Int32} {sg : ST} {v : Int32} {s : ST}, k72 u0 u1 u2 sg = some (v, s) → Fr W sg s) : ∀ (n : Nat) {x1 : Int32} {x2 : Int32} {x3 : Int32} {x4 : Int32} {sg : ST} {v : Int32} {s : ST}, f_X12_plan_47 k72 n x1 x2 x3 x4 sg = some (v, s) → Fr W sg s := by
  intro n
  induction n with
  | zero => intro _ _ _ _ _ _ _ h; rw [f_X12_plan_47] at h; cases h
  | succ n ih =>
    intro x1 x2 x3 x4 sg v s h
    rw [f_X12_plan_47] at h
    have F := Fr.rf W sg
    rcases ite_or h with h | h
    · obtain ⟨v12, s11, hp, h⟩ := bd2_some h
      replace F := F.tr (Fr.mono (fr_X12_surelyMay hp) (fun x hx => hW x (by unfold W_X12_surelyMay at hx; unfold W_X12_plan_47; omega)))
      obtain ⟨s13, hw, h⟩ := bd_some h
      replace F := F.tr (Fr_wrI (hW _ (by unfold W_X12_plan_47; omega)) hw)
      exact F.tr (ih h)
    · exact F.tr (hk72 h)
def W_X12_plan_84 (x : Nat) : Prop := x = 247 ∨ x = 266 ∨ x = 267 ∨ x = 268 ∨ x = 269 ∨ x = 270 ∨ x = 271 ∨ x = 272 ∨ x = 273 ∨ x = 274 ∨ x = 275 ∨ x = 276 ∨ x = 277 ∨ x = 278 ∨ x = 279 ∨ x = 280 ∨ x = 281
theorem fr_X12_plan_84 {k151 : Int32 → Int32 → Int32 → ST → Option (Int32 × ST)} {W : Nat → Prop} (hW : ∀ x, W_X12_plan_84 x → W x) (hk151 : ∀ {u0 : Int32} {u1 : Int32} {u2 : Int32} {sg : ST} {v : Int32} {s : ST}, k151 u0 u1 u2 sg = some (v, s) → Fr W sg s) : ∀ (n : Nat) {x1 : Int32} {x3 : Int32} {x4 : Int32} {x5 : Int32} {sg : ST} {v : Int32} {s : ST}, f_X12_plan_84 k151 n x1 x3 x4 x5 sg = some (v, s) → Fr W sg s := by
  intro n
  induction n with
  | zero => intro _ _ _ _ _ _ _ h; rw [f_X12_plan_84] at h; cases h
  | succ n ih =>
    intro x1 x3 x4 x5 sg v s h
    rw [f_X12_plan_84] at h
    have F := Fr.rf W sg
    rcases ite_or h with h | h
    · obtain ⟨v18, -, h⟩ := bd_some h
      rcases ite_or h with h | h
      · exact F.tr (ih h)
      · obtain ⟨v20, s19, hp, h⟩ := bd2_some h
        replace F := F.tr (Fr.mono (fr_X12_all hp) (fun x hx => by unfold W_X12_all at hx; exact hx.elim))
        obtain ⟨v22, s21, hp, h⟩ := bd2_some h
        replace F := F.tr (Fr.mono (fr_X12_solve hp) (fun x hx => hW x (by unfold W_X12_solve at hx; unfold W_X12_plan_84; omega)))
        rcases ite_or h with h | h
        · exact F.tr (ih h)
        · obtain ⟨v24, s23, hp, h⟩ := bd2_some h
          replace F := F.tr (Fr.mono (fr_X12_isOf hp) (fun x hx => hW x (by unfold W_X12_isOf at hx; unfold W_X12_plan_84; omega)))
          rcases ite_or h with h | h
          · cases h; exact F
          · exact F.tr (ih h)
    · exact F.tr (hk151 h)
def W_X12_plan_75 (x : Nat) : Prop := x = 247 ∨ x = 266 ∨ x = 267 ∨ x = 268 ∨ x = 269 ∨ x = 270 ∨ x = 271 ∨ x = 272 ∨ x = 273 ∨ x = 274 ∨ x = 275 ∨ x = 276 ∨ x = 277 ∨ x = 278 ∨ x = 279 ∨ x = 280 ∨ x = 281
theorem fr_X12_plan_75 {W : Nat → Prop} (hW : ∀ x, W_X12_plan_75 x → W x) : ∀ (n : Nat) {x1 : Int32} {x3 : Int32} {x4 : Int32} {sg : ST} {v : Int32} {s : ST}, f_X12_plan_75 n x1 x3 x4 sg = some (v, s) → Fr W sg s := by
  intro n
  induction n with
  | zero => intro _ _ _ _ _ _ h; rw [f_X12_plan_75] at h; cases h
  | succ n ih =>
    intro x1 x3 x4 sg v s h
    rw [f_X12_plan_75] at h
    have F := Fr.rf W sg
    rcases ite_or h with h | h
    · refine F.tr (fr_X12_plan_84 (fun x hx => hW x (by unfold W_X12_plan_84 at hx; unfold W_X12_plan_75; omega)) ?_ FU h)
      · intro x1_25 x3_26 x4_27 s28 _ _ h
        have F := Fr.rf W s28
        exact F.tr (ih h)
    · cases h; exact F
def W_X12_plan (x : Nat) : Prop := x = 247 ∨ x = 266 ∨ x = 267 ∨ x = 268 ∨ x = 269 ∨ x = 270 ∨ x = 271 ∨ x = 272 ∨ x = 273 ∨ x = 274 ∨ x = 275 ∨ x = 276 ∨ x = 277 ∨ x = 278 ∨ x = 279 ∨ x = 280 ∨ x = 281 ∨ x = 295
theorem fr_X12_plan {x1 : Int32} {x2 : Int32} {x3 : Int32} {σ : ST} {v : Int32} {s : ST} (h : f_X12_plan x1 x2 x3 σ = some (v, s)) : Fr (W_X12_plan ) σ s := by
  unfold f_X12_plan at h
  have F := Fr.rf (W_X12_plan ) σ
  obtain ⟨v2, s1, hp, h⟩ := bd2_some h
  replace F := F.tr (Fr.mono (fr_X12_isThing hp) (fun x hx => by unfold W_X12_isThing at hx; exact hx.elim))
  rcases ite_or h with h | h
  · cases h; exact F
  · obtain ⟨v4, s3, hp, h⟩ := bd2_some h
    replace F := F.tr (Fr.mono (fr_X12_isHour hp) (fun x hx => by unfold W_X12_isHour at hx; exact hx.elim))
    rcases ite_or h with h | h
    · cases h; exact F
    · obtain ⟨v6, s5, hp, h⟩ := bd2_some h
      replace F := F.tr (Fr.mono (fr_X12_isHour hp) (fun x hx => by unfold W_X12_isHour at hx; exact hx.elim))
      rcases ite_or h with h | h
      · cases h; exact F
      · rcases ite_or h with h | h
        · obtain ⟨v8, s7, hp, h⟩ := bd2_some h
          replace F := F.tr (Fr.mono (fr_X12_all hp) (fun x hx => by unfold W_X12_all at hx; exact hx.elim))
          obtain ⟨v10, s9, hp, h⟩ := bd2_some h
          replace F := F.tr (Fr.mono (fr_X12_solve hp) (fun x hx => by unfold W_X12_solve at hx; unfold W_X12_plan; omega))
          rcases ite_or h with h | h
          · cases h; exact F
          · refine F.tr (fr_X12_plan_47 (fun x hx => by unfold W_X12_plan_47 at hx; unfold W_X12_plan; omega) ?_ FU h)
            · intro x1_14 x2_15 x3_16 s17 _ _ h
              have F := Fr.rf (W_X12_plan ) s17
              refine F.tr (fr_X12_plan_75 (fun x hx => by unfold W_X12_plan_75 at hx; unfold W_X12_plan; omega) FU h)
        · cases h; exact F
def W_X12_seemed_41 (x : Nat) : Prop := False
theorem fr_X12_seemed_41 {k97 : Int32 → Int32 → Int32 → ST → Option (Int32 × ST)} {W : Nat → Prop} (hW : ∀ x, W_X12_seemed_41 x → W x) (hk97 : ∀ {u0 : Int32} {u1 : Int32} {u2 : Int32} {sg : ST} {v : Int32} {s : ST}, k97 u0 u1 u2 sg = some (v, s) → Fr W sg s) : ∀ (n : Nat) {x1 : Int32} {x2 : Int32} {x3 : Int32} {x4 : Int32} {x5 : Int32} {x6 : Int32} {sg : ST} {v : Int32} {s : ST}, f_X12_seemed_41 k97 n x1 x2 x3 x4 x5 x6 sg = some (v, s) → Fr W sg s := by
  intro n
  induction n with
  | zero => intro _ _ _ _ _ _ _ _ _ h; rw [f_X12_seemed_41] at h; cases h
  | succ n ih =>
    intro x1 x2 x3 x4 x5 x6 sg v s h
    rw [f_X12_seemed_41] at h
    have F := Fr.rf W sg
    rcases ite_or h with h | h
    · obtain ⟨v9, -, h⟩ := bd_some h
      rcases ite_or h with h | h
      · obtain ⟨v10, -, h⟩ := bd_some h
        rcases ite_or h with h | h
        · obtain ⟨v11, -, h⟩ := bd_some h
          rcases ite_or h with h | h
          · exact F.tr (ih h)
          · exact F.tr (ih h)
        · exact F.tr (ih h)
      · exact F.tr (ih h)
    · exact F.tr (hk97 h)
def W_X12_seemed (x : Nat) : Prop := x = 247 ∨ x = 266 ∨ x = 267 ∨ x = 268 ∨ x = 269 ∨ x = 270 ∨ x = 271 ∨ x = 272 ∨ x = 273 ∨ x = 274 ∨ x = 275 ∨ x = 276 ∨ x = 277 ∨ x = 278 ∨ x = 279 ∨ x = 280 ∨ x = 281
theorem fr_X12_seemed {x1 : Int32} {x2 : Int32} {x3 : Int32} {x4 : Int32} {σ : ST} {v : Int32} {s : ST} (h : f_X12_seemed x1 x2 x3 x4 σ = some (v, s)) : Fr (W_X12_seemed ) σ s := by
  unfold f_X12_seemed at h
  have F := Fr.rf (W_X12_seemed ) σ
  obtain ⟨v2, s1, hp, h⟩ := bd2_some h
  replace F := F.tr (Fr.mono (fr_X12_isMouth hp) (fun x hx => by unfold W_X12_isMouth at hx; exact hx.elim))
  rcases ite_or h with h | h
  · cases h; exact F
  · obtain ⟨v4, s3, hp, h⟩ := bd2_some h
    replace F := F.tr (Fr.mono (fr_X12_isHour hp) (fun x hx => by unfold W_X12_isHour at hx; exact hx.elim))
    rcases ite_or h with h | h
    · cases h; exact F
    · obtain ⟨v6, s5, hp, h⟩ := bd2_some h
      replace F := F.tr (Fr.mono (fr_X12_isThing hp) (fun x hx => by unfold W_X12_isThing at hx; exact hx.elim))
      rcases ite_or h with h | h
      · cases h; exact F
      · obtain ⟨v8, s7, hp, h⟩ := bd2_some h
        replace F := F.tr (Fr.mono (fr_X12_isHour hp) (fun x hx => by unfold W_X12_isHour at hx; exact hx.elim))
        rcases ite_or h with h | h
        · cases h; exact F
        · refine F.tr (fr_X12_seemed_41 (fun x hx => by unfold W_X12_seemed_41 at hx; unfold W_X12_seemed; omega) ?_ FU h)
          · intro x3_12 x4_13 x5_14 s15 _ _ h
            have F := Fr.rf (W_X12_seemed ) s15
            obtain ⟨v17, s16, hp, h⟩ := bd2_some h
            replace F := F.tr (Fr.mono (fr_X12_solve hp) (fun x hx => by unfold W_X12_solve at hx; unfold W_X12_seemed; omega))
            rcases ite_or h with h | h
            · cases h; exact F
            · obtain ⟨v19, s18, hp, h⟩ := bd2_some h
              replace F := F.tr (Fr.mono (fr_X12_isOf hp) (fun x hx => by unfold W_X12_isOf at hx; unfold W_X12_seemed; omega))
              cases h; exact F
def W_X12_ran (x : Nat) : Prop := x = 247 ∨ x = 288
theorem fr_X12_ran {x1 : Int32} {σ : ST} {s : ST} (h : f_X12_ran x1 σ = some s) : Fr (W_X12_ran ) σ s := by
  unfold f_X12_ran at h
  have F := Fr.rf (W_X12_ran ) σ
  rcases ite_or h with h | h
  · obtain ⟨s2, hw, h⟩ := bd_some h
    replace F := F.tr (Fr_wrI (by unfold W_X12_ran; omega) hw)
    obtain ⟨s3, hw, h⟩ := bd_some h
    replace F := F.tr (Fr_pfI (by unfold W_X12_ran; omega) hw)
    cases h; exact F
  · obtain ⟨s1, hw, h⟩ := bd_some h
    replace F := F.tr (Fr_pfI (by unfold W_X12_ran; omega) hw)
    cases h; exact F
def W_X12_tells_55 (x : Nat) : Prop := False
theorem fr_X12_tells_55 {W : Nat → Prop} (hW : ∀ x, W_X12_tells_55 x → W x) {x1 : Int32} {z0 : Int32} {sg : ST} {v : Int32} {s : ST} (h : f_X12_tells_55 x1 z0 sg = some (v, s)) : Fr W sg s := by
  unfold f_X12_tells_55 at h
  have F := Fr.rf W sg
  obtain ⟨v5, -, h⟩ := bd_some h
  obtain ⟨v6, -, h⟩ := bd_some h
  rcases ite_or h with h | h
  · cases h; exact F
  · cases h; exact F
def W_X12_tells_32 (x : Nat) : Prop := x = 247 ∨ x = 288
theorem fr_X12_tells_32 {W : Nat → Prop} (hW : ∀ x, W_X12_tells_32 x → W x) {x1 : Int32} {x2 : Int32} {sg : ST} {v : Int32} {s : ST} (h : f_X12_tells_32 x1 x2 sg = some (v, s)) : Fr W sg s := by
  unfold f_X12_tells_32 at h
  have F := Fr.rf W sg
  obtain ⟨s3, hp, h⟩ := bd_some h
  replace F := F.tr (Fr.mono (fr_X12_ran hp) (fun x hx => hW x (by unfold W_X12_ran at hx; unfold W_X12_tells_32; omega)))
  obtain ⟨v4, -, h⟩ := bd_some h
  rcases ite_or h with h | h
  · refine F.tr (fr_X12_tells_55 (fun x hx => hW x (by unfold W_X12_tells_55 at hx; unfold W_X12_tells_32; omega)) h)
  · refine F.tr (fr_X12_tells_55 (fun x hx => hW x (by unfold W_X12_tells_55 at hx; unfold W_X12_tells_32; omega)) h)
def W_X12_tells_16 (x : Nat) : Prop := x = 247 ∨ x = 288
theorem fr_X12_tells_16 {W : Nat → Prop} (hW : ∀ x, W_X12_tells_16 x → W x) {x1 : Int32} {x2 : Int32} {sg : ST} {v : Int32} {s : ST} (h : f_X12_tells_16 x1 x2 sg = some (v, s)) : Fr W sg s := by
  unfold f_X12_tells_16 at h
  have F := Fr.rf W sg
  obtain ⟨v2, -, h⟩ := bd_some h
  rcases ite_or h with h | h
  · obtain ⟨s7, hp, h⟩ := bd_some h
    replace F := F.tr (Fr.mono (fr_X12_ran hp) (fun x hx => hW x (by unfold W_X12_ran at hx; unfold W_X12_tells_16; omega)))
    refine F.tr (fr_X12_tells_32 (fun x hx => hW x (by unfold W_X12_tells_32 at hx; unfold W_X12_tells_16; omega)) h)
  · refine F.tr (fr_X12_tells_32 (fun x hx => hW x (by unfold W_X12_tells_32 at hx; unfold W_X12_tells_16; omega)) h)
def W_X12_tells (x : Nat) : Prop := x = 247 ∨ x = 288
theorem fr_X12_tells {x1 : Int32} {x2 : Int32} {σ : ST} {v : Int32} {s : ST} (h : f_X12_tells x1 x2 σ = some (v, s)) : Fr (W_X12_tells ) σ s := by
  unfold f_X12_tells at h
  have F := Fr.rf (W_X12_tells ) σ
  obtain ⟨v1, -, h⟩ := bd_some h
  rcases ite_or h with h | h
  · obtain ⟨s8, hp, h⟩ := bd_some h
    replace F := F.tr (Fr.mono (fr_X12_ran hp) (fun x hx => by unfold W_X12_ran at hx; unfold W_X12_tells; omega))
    refine F.tr (fr_X12_tells_16 (fun x hx => by unfold W_X12_tells_16 at hx; unfold W_X12_tells; omega) h)
  · refine F.tr (fr_X12_tells_16 (fun x hx => by unfold W_X12_tells_16 at hx; unfold W_X12_tells; omega) h)
def W_X12_binds_42 (x : Nat) : Prop := x = 247 ∨ x = 288
theorem fr_X12_binds_42 {W : Nat → Prop} (hW : ∀ x, W_X12_binds_42 x → W x) {x1 : Int32} {x2 : Int32} {sg : ST} {v : Int32} {s : ST} (h : f_X12_binds_42 x1 x2 sg = some (v, s)) : Fr W sg s := by
  unfold f_X12_binds_42 at h
  have F := Fr.rf W sg
  obtain ⟨s4, hp, h⟩ := bd_some h
  replace F := F.tr (Fr.mono (fr_X12_ran hp) (fun x hx => hW x (by unfold W_X12_ran at hx; unfold W_X12_binds_42; omega)))
  obtain ⟨v6, s5, hp, h⟩ := bd2_some h
  replace F := F.tr (Fr.mono (fr_X12_tells hp) (fun x hx => hW x (by unfold W_X12_tells at hx; unfold W_X12_binds_42; omega)))
  obtain ⟨v7, -, h⟩ := bd_some h
  rcases ite_or h with h | h
  · cases h; exact F
  · obtain ⟨v8, -, h⟩ := bd_some h
    rcases ite_or h with h | h
    · cases h; exact F
    · cases h; exact F
def W_X12_binds_36 (x : Nat) : Prop := x = 247 ∨ x = 288
theorem fr_X12_binds_36 {W : Nat → Prop} (hW : ∀ x, W_X12_binds_36 x → W x) {x1 : Int32} {x2 : Int32} {sg : ST} {v : Int32} {s : ST} (h : f_X12_binds_36 x1 x2 sg = some (v, s)) : Fr W sg s := by
  unfold f_X12_binds_36 at h
  have F := Fr.rf W sg
  obtain ⟨s3, hp, h⟩ := bd_some h
  replace F := F.tr (Fr.mono (fr_X12_ran hp) (fun x hx => hW x (by unfold W_X12_ran at hx; unfold W_X12_binds_36; omega)))
  refine F.tr (fr_X12_binds_42 (fun x hx => hW x (by unfold W_X12_binds_42 at hx; unfold W_X12_binds_36; omega)) h)
def W_X12_binds_16 (x : Nat) : Prop := x = 247 ∨ x = 288
theorem fr_X12_binds_16 {W : Nat → Prop} (hW : ∀ x, W_X12_binds_16 x → W x) {x1 : Int32} {x2 : Int32} {sg : ST} {v : Int32} {s : ST} (h : f_X12_binds_16 x1 x2 sg = some (v, s)) : Fr W sg s := by
  unfold f_X12_binds_16 at h
  have F := Fr.rf W sg
  obtain ⟨v2, -, h⟩ := bd_some h
  rcases ite_or h with h | h
  · refine F.tr (fr_X12_binds_36 (fun x hx => hW x (by unfold W_X12_binds_36 at hx; unfold W_X12_binds_16; omega)) h)
  · obtain ⟨v9, -, h⟩ := bd_some h
    rcases ite_or h with h | h
    · refine F.tr (fr_X12_binds_36 (fun x hx => hW x (by unfold W_X12_binds_36 at hx; unfold W_X12_binds_16; omega)) h)
    · refine F.tr (fr_X12_binds_42 (fun x hx => hW x (by unfold W_X12_binds_42 at hx; unfold W_X12_binds_16; omega)) h)
def W_X12_binds (x : Nat) : Prop := x = 247 ∨ x = 288
theorem fr_X12_binds {x1 : Int32} {x2 : Int32} {σ : ST} {v : Int32} {s : ST} (h : f_X12_binds x1 x2 σ = some (v, s)) : Fr (W_X12_binds ) σ s := by
  unfold f_X12_binds at h
  have F := Fr.rf (W_X12_binds ) σ
  obtain ⟨v1, -, h⟩ := bd_some h
  rcases ite_or h with h | h
  · obtain ⟨s10, hp, h⟩ := bd_some h
    replace F := F.tr (Fr.mono (fr_X12_ran hp) (fun x hx => by unfold W_X12_ran at hx; unfold W_X12_binds; omega))
    refine F.tr (fr_X12_binds_16 (fun x hx => by unfold W_X12_binds_16 at hx; unfold W_X12_binds; omega) h)
  · refine F.tr (fr_X12_binds_16 (fun x hx => by unfold W_X12_binds_16 at hx; unfold W_X12_binds; omega) h)
def W_X12_weighs_16 (x : Nat) : Prop := x = 247 ∨ x = 288
theorem fr_X12_weighs_16 {W : Nat → Prop} (hW : ∀ x, W_X12_weighs_16 x → W x) {x1 : Int32} {x2 : Int32} {sg : ST} {v : Int32} {s : ST} (h : f_X12_weighs_16 x1 x2 sg = some (v, s)) : Fr W sg s := by
  unfold f_X12_weighs_16 at h
  have F := Fr.rf W sg
  obtain ⟨s2, hp, h⟩ := bd_some h
  replace F := F.tr (Fr.mono (fr_X12_ran hp) (fun x hx => hW x (by unfold W_X12_ran at hx; unfold W_X12_weighs_16; omega)))
  obtain ⟨v4, s3, hp, h⟩ := bd2_some h
  replace F := F.tr (Fr.mono (fr_X12_binds hp) (fun x hx => hW x (by unfold W_X12_binds at hx; unfold W_X12_weighs_16; omega)))
  obtain ⟨v6, s5, hp, h⟩ := bd2_some h
  replace F := F.tr (Fr.mono (fr_X12_tells hp) (fun x hx => hW x (by unfold W_X12_tells at hx; unfold W_X12_weighs_16; omega)))
  obtain ⟨v7, -, h⟩ := bd_some h
  rcases ite_or h with h | h
  · obtain ⟨v8, -, h⟩ := bd_some h
    cases h; exact F
  · cases h; exact F
def W_X12_weighs (x : Nat) : Prop := x = 247 ∨ x = 288
theorem fr_X12_weighs {x1 : Int32} {x2 : Int32} {σ : ST} {v : Int32} {s : ST} (h : f_X12_weighs x1 x2 σ = some (v, s)) : Fr (W_X12_weighs ) σ s := by
  unfold f_X12_weighs at h
  have F := Fr.rf (W_X12_weighs ) σ
  obtain ⟨v1, -, h⟩ := bd_some h
  rcases ite_or h with h | h
  · obtain ⟨s9, hp, h⟩ := bd_some h
    replace F := F.tr (Fr.mono (fr_X12_ran hp) (fun x hx => by unfold W_X12_ran at hx; unfold W_X12_weighs; omega))
    refine F.tr (fr_X12_weighs_16 (fun x hx => by unfold W_X12_weighs_16 at hx; unfold W_X12_weighs; omega) h)
  · refine F.tr (fr_X12_weighs_16 (fun x hx => by unfold W_X12_weighs_16 at hx; unfold W_X12_weighs; omega) h)
def W_X12_act (x : Nat) : Prop := x = 247 ∨ x = 288
theorem fr_X12_act {x1 : Int32} {x2 : Int32} {x3 : Int32} {σ : ST} {v : Int32} {s : ST} (h : f_X12_act x1 x2 x3 σ = some (v, s)) : Fr (W_X12_act ) σ s := by
  unfold f_X12_act at h
  have F := Fr.rf (W_X12_act ) σ
  obtain ⟨s1, hw, h⟩ := bd_some h
  replace F := F.tr (Fr_pfI (by unfold W_X12_act; omega) hw)
  obtain ⟨v3, s2, hp, h⟩ := bd2_some h
  replace F := F.tr (Fr.mono (fr_X12_isPiece hp) (fun x hx => by unfold W_X12_isPiece at hx; exact hx.elim))
  rcases ite_or h with h | h
  · cases h; exact F
  · rcases ite_or h with h | h
    · cases h; exact F
    · rcases ite_or h with h | h
      · cases h; exact F
      · rcases ite_or h with h | h
        · obtain ⟨v9, s8, hp, h⟩ := bd2_some h
          replace F := F.tr (Fr.mono (fr_X12_tells hp) (fun x hx => by unfold W_X12_tells at hx; unfold W_X12_act; omega))
          cases h; exact F
        · rcases ite_or h with h | h
          · obtain ⟨v7, s6, hp, h⟩ := bd2_some h
            replace F := F.tr (Fr.mono (fr_X12_binds hp) (fun x hx => by unfold W_X12_binds at hx; unfold W_X12_act; omega))
            cases h; exact F
          · obtain ⟨v5, s4, hp, h⟩ := bd2_some h
            replace F := F.tr (Fr.mono (fr_X12_weighs hp) (fun x hx => by unfold W_X12_weighs at hx; unfold W_X12_act; omega))
            cases h; exact F
def W_X12_trace (x : Nat) : Prop := False
theorem fr_X12_trace {x1 : Int32} {σ : ST} {v : Int32} {s : ST} (h : f_X12_trace x1 σ = some (v, s)) : Fr (W_X12_trace ) σ s := by
  unfold f_X12_trace at h
  have F := Fr.rf (W_X12_trace ) σ
  rcases ite_or h with h | h
  · cases h; exact F
  · rcases ite_or h with h | h
    · rcases ite_or h with h | h
      · obtain ⟨v1, -, h⟩ := bd_some h
        cases h; exact F
      · cases h; exact F
    · cases h; exact F
def W_X12_pour_3 (a1 : Nat) (n1 : Nat) (a3 : Nat) (n3 : Nat) (x : Nat) : Prop := x = a3
theorem fr_X12_pour_3 {a1 : Nat} {n1 : Nat} {a3 : Nat} {n3 : Nat} {W : Nat → Prop} (hW : ∀ x, W_X12_pour_3 a1 n1 a3 n3 x → W x) : ∀ (n : Nat) {x2 : Int32} {x4 : Int32} {x5 : Int32} {x6 : Int32} {sg : ST} {s : ST}, f_X12_pour_3 a1 n1 a3 n3 n x2 x4 x5 x6 sg = some s → Fr W sg s := by
  intro n
  induction n with
  | zero => intro _ _ _ _ _ _ h; rw [f_X12_pour_3] at h; cases h
  | succ n ih =>
    intro x2 x4 x5 x6 sg s h
    rw [f_X12_pour_3] at h
    have F := Fr.rf W sg
    rcases ite_or h with h | h
    · obtain ⟨v1, -, h⟩ := bd_some h
      obtain ⟨s2, hw, h⟩ := bd_some h
      replace F := F.tr (Fr_wrI (hW _ (by unfold W_X12_pour_3; omega)) hw)
      exact F.tr (ih h)
    · cases h; exact F
def W_X12_pour (a1 : Nat) (n1 : Nat) (a3 : Nat) (n3 : Nat) (x : Nat) : Prop := x = a3
theorem fr_X12_pour {a1 : Nat} {n1 : Nat} {x2 : Int32} {a3 : Nat} {n3 : Nat} {x4 : Int32} {x5 : Int32} {σ : ST} {s : ST} (h : f_X12_pour a1 n1 x2 a3 n3 x4 x5 σ = some s) : Fr (W_X12_pour a1 n1 a3 n3) σ s := by
  unfold f_X12_pour at h
  have F := Fr.rf (W_X12_pour a1 n1 a3 n3) σ
  refine F.tr (fr_X12_pour_3 (fun x hx => by unfold W_X12_pour_3 at hx; unfold W_X12_pour; omega) FU h)
def W_X12_image (x : Nat) : Prop := x = 247 ∨ x = 289 ∨ x = 290 ∨ x = 291 ∨ x = 292 ∨ x = 293
theorem fr_X12_image {σ : ST} {v : Int32} {s : ST} (h : f_X12_image σ = some (v, s)) : Fr (W_X12_image ) σ s := by
  unfold f_X12_image at h
  have F := Fr.rf (W_X12_image ) σ
  obtain ⟨s1, hw, h⟩ := bd_some h
  replace F := F.tr (Fr_pfZ (by unfold W_X12_image; omega) hw)
  obtain ⟨s2, hw, h⟩ := bd_some h
  replace F := F.tr (Fr_wrI (by unfold W_X12_image; omega) hw)
  obtain ⟨s3, hw, h⟩ := bd_some h
  replace F := F.tr (Fr_wrI (by unfold W_X12_image; omega) hw)
  obtain ⟨s4, hw, h⟩ := bd_some h
  replace F := F.tr (Fr_wrI (by unfold W_X12_image; omega) hw)
  obtain ⟨s5, hp, h⟩ := bd_some h
  replace F := F.tr (Fr.mono (fr_X12_pour hp) (fun x hx => by unfold W_X12_pour at hx; unfold W_X12_image; omega))
  obtain ⟨s6, hp, h⟩ := bd_some h
  replace F := F.tr (Fr.mono (fr_X12_pour hp) (fun x hx => by unfold W_X12_pour at hx; unfold W_X12_image; omega))
  obtain ⟨s7, hp, h⟩ := bd_some h
  replace F := F.tr (Fr.mono (fr_X12_pour hp) (fun x hx => by unfold W_X12_pour at hx; unfold W_X12_image; omega))
  obtain ⟨s8, hp, h⟩ := bd_some h
  replace F := F.tr (Fr.mono (fr_X12_pour hp) (fun x hx => by unfold W_X12_pour at hx; unfold W_X12_image; omega))
  obtain ⟨s9, hp, h⟩ := bd_some h
  replace F := F.tr (Fr.mono (fr_X12_pour hp) (fun x hx => by unfold W_X12_pour at hx; unfold W_X12_image; omega))
  obtain ⟨s10, hp, h⟩ := bd_some h
  replace F := F.tr (Fr.mono (fr_X12_pour hp) (fun x hx => by unfold W_X12_pour at hx; unfold W_X12_image; omega))
  obtain ⟨s11, hp, h⟩ := bd_some h
  replace F := F.tr (Fr.mono (fr_X12_pour hp) (fun x hx => by unfold W_X12_pour at hx; unfold W_X12_image; omega))
  obtain ⟨s12, hp, h⟩ := bd_some h
  replace F := F.tr (Fr.mono (fr_X12_pour hp) (fun x hx => by unfold W_X12_pour at hx; unfold W_X12_image; omega))
  obtain ⟨s13, hp, h⟩ := bd_some h
  replace F := F.tr (Fr.mono (fr_X12_pour hp) (fun x hx => by unfold W_X12_pour at hx; unfold W_X12_image; omega))
  obtain ⟨s14, hp, h⟩ := bd_some h
  replace F := F.tr (Fr.mono (fr_X12_pour hp) (fun x hx => by unfold W_X12_pour at hx; unfold W_X12_image; omega))
  obtain ⟨s15, hp, h⟩ := bd_some h
  replace F := F.tr (Fr.mono (fr_X12_pour hp) (fun x hx => by unfold W_X12_pour at hx; unfold W_X12_image; omega))
  obtain ⟨s16, hp, h⟩ := bd_some h
  replace F := F.tr (Fr.mono (fr_X12_pour hp) (fun x hx => by unfold W_X12_pour at hx; unfold W_X12_image; omega))
  obtain ⟨s17, hp, h⟩ := bd_some h
  replace F := F.tr (Fr.mono (fr_X12_pour hp) (fun x hx => by unfold W_X12_pour at hx; unfold W_X12_image; omega))
  obtain ⟨s18, hp, h⟩ := bd_some h
  replace F := F.tr (Fr.mono (fr_X12_pour hp) (fun x hx => by unfold W_X12_pour at hx; unfold W_X12_image; omega))
  obtain ⟨s19, hp, h⟩ := bd_some h
  replace F := F.tr (Fr.mono (fr_X12_pour hp) (fun x hx => by unfold W_X12_pour at hx; unfold W_X12_image; omega))
  cases h; exact F
def W_X12_restore_299 (x : Nat) : Prop := x = 263
theorem fr_X12_restore_299 {W : Nat → Prop} (hW : ∀ x, W_X12_restore_299 x → W x) : ∀ (n : Nat) {x1 : Int32} {sg : ST} {v : Int32} {s : ST}, f_X12_restore_299 n x1 sg = some (v, s) → Fr W sg s := by
  intro n
  induction n with
  | zero => intro _ _ _ _ h; rw [f_X12_restore_299] at h; cases h
  | succ n ih =>
    intro x1 sg v s h
    rw [f_X12_restore_299] at h
    have F := Fr.rf W sg
    rcases ite_or h with h | h
    · obtain ⟨v23, s22, hp, h⟩ := bd2_some h
      replace F := F.tr (Fr.mono (fr_X12_holdsPiece hp) (fun x hx => by unfold W_X12_holdsPiece at hx; exact hx.elim))
      rcases ite_or h with h | h
      · exact F.tr (ih h)
      · obtain ⟨v24, -, h⟩ := bd_some h
        rcases ite_or h with h | h
        · exact F.tr (ih h)
        · obtain ⟨s25, hw, h⟩ := bd_some h
          replace F := F.tr (Fr_wrI (hW _ (by unfold W_X12_restore_299; omega)) hw)
          exact F.tr (ih h)
    · cases h; exact F
def W_X12_restore (x : Nat) : Prop := x = 247 ∨ x = 248 ∨ x = 249 ∨ x = 250 ∨ x = 251 ∨ x = 252 ∨ x = 253 ∨ x = 254 ∨ x = 255 ∨ x = 256 ∨ x = 257 ∨ x = 258 ∨ x = 259 ∨ x = 260 ∨ x = 261 ∨ x = 262 ∨ x = 263 ∨ x = 294
theorem fr_X12_restore {σ : ST} {v : Int32} {s : ST} (h : f_X12_restore σ = some (v, s)) : Fr (W_X12_restore ) σ s := by
  unfold f_X12_restore at h
  have F := Fr.rf (W_X12_restore ) σ
  rcases ite_or h with h | h
  · obtain ⟨v27, s26, hp, h⟩ := bd2_some h
    replace F := F.tr (Fr.mono (fr_X12_no hp) (fun x hx => by unfold W_X12_no at hx; unfold W_X12_restore; omega))
    cases h; exact F
  · obtain ⟨v1, -, h⟩ := bd_some h
    obtain ⟨s2, hw, h⟩ := bd_some h
    replace F := F.tr (Fr_pfI (by unfold W_X12_restore; omega) hw)
    obtain ⟨v3, -, h⟩ := bd_some h
    obtain ⟨s4, hw, h⟩ := bd_some h
    replace F := F.tr (Fr_pfI (by unfold W_X12_restore; omega) hw)
    obtain ⟨v5, -, h⟩ := bd_some h
    obtain ⟨s6, hw, h⟩ := bd_some h
    replace F := F.tr (Fr_pfI (by unfold W_X12_restore; omega) hw)
    obtain ⟨s7, hp, h⟩ := bd_some h
    replace F := F.tr (Fr.mono (fr_X12_pour hp) (fun x hx => by unfold W_X12_pour at hx; unfold W_X12_restore; omega))
    obtain ⟨s8, hp, h⟩ := bd_some h
    replace F := F.tr (Fr.mono (fr_X12_pour hp) (fun x hx => by unfold W_X12_pour at hx; unfold W_X12_restore; omega))
    obtain ⟨s9, hp, h⟩ := bd_some h
    replace F := F.tr (Fr.mono (fr_X12_pour hp) (fun x hx => by unfold W_X12_pour at hx; unfold W_X12_restore; omega))
    obtain ⟨s10, hp, h⟩ := bd_some h
    replace F := F.tr (Fr.mono (fr_X12_pour hp) (fun x hx => by unfold W_X12_pour at hx; unfold W_X12_restore; omega))
    obtain ⟨s11, hp, h⟩ := bd_some h
    replace F := F.tr (Fr.mono (fr_X12_pour hp) (fun x hx => by unfold W_X12_pour at hx; unfold W_X12_restore; omega))
    obtain ⟨s12, hp, h⟩ := bd_some h
    replace F := F.tr (Fr.mono (fr_X12_pour hp) (fun x hx => by unfold W_X12_pour at hx; unfold W_X12_restore; omega))
    obtain ⟨s13, hp, h⟩ := bd_some h
    replace F := F.tr (Fr.mono (fr_X12_pour hp) (fun x hx => by unfold W_X12_pour at hx; unfold W_X12_restore; omega))
    obtain ⟨s14, hp, h⟩ := bd_some h
    replace F := F.tr (Fr.mono (fr_X12_pour hp) (fun x hx => by unfold W_X12_pour at hx; unfold W_X12_restore; omega))
    obtain ⟨s15, hp, h⟩ := bd_some h
    replace F := F.tr (Fr.mono (fr_X12_pour hp) (fun x hx => by unfold W_X12_pour at hx; unfold W_X12_restore; omega))
    obtain ⟨s16, hp, h⟩ := bd_some h
    replace F := F.tr (Fr.mono (fr_X12_pour hp) (fun x hx => by unfold W_X12_pour at hx; unfold W_X12_restore; omega))
    obtain ⟨s17, hp, h⟩ := bd_some h
    replace F := F.tr (Fr.mono (fr_X12_pour hp) (fun x hx => by unfold W_X12_pour at hx; unfold W_X12_restore; omega))
    obtain ⟨s18, hp, h⟩ := bd_some h
    replace F := F.tr (Fr.mono (fr_X12_pour hp) (fun x hx => by unfold W_X12_pour at hx; unfold W_X12_restore; omega))
    obtain ⟨s19, hp, h⟩ := bd_some h
    replace F := F.tr (Fr.mono (fr_X12_pour hp) (fun x hx => by unfold W_X12_pour at hx; unfold W_X12_restore; omega))
    obtain ⟨s20, hp, h⟩ := bd_some h
    replace F := F.tr (Fr.mono (fr_X12_pour hp) (fun x hx => by unfold W_X12_pour at hx; unfold W_X12_restore; omega))
    obtain ⟨s21, hp, h⟩ := bd_some h
    replace F := F.tr (Fr.mono (fr_X12_pour hp) (fun x hx => by unfold W_X12_pour at hx; unfold W_X12_restore; omega))
    refine F.tr (fr_X12_restore_299 (fun x hx => by unfold W_X12_restore_299 at hx; unfold W_X12_restore; omega) FU h)
def W_X12_status_60 (x : Nat) : Prop := False
theorem fr_X12_status_60 {W : Nat → Prop} (hW : ∀ x, W_X12_status_60 x → W x) : ∀ (n : Nat) {x2 : Int32} {x3 : Int32} {sg : ST} {v : Int32} {s : ST}, f_X12_status_60 n x2 x3 sg = some (v, s) → Fr W sg s := by
  intro n
  induction n with
  | zero => intro _ _ _ _ _ h; rw [f_X12_status_60] at h; cases h
  | succ n ih =>
    intro x2 x3 sg v s h
    rw [f_X12_status_60] at h
    have F := Fr.rf W sg
    rcases ite_or h with h | h
    · obtain ⟨v1, -, h⟩ := bd_some h
      exact F.tr (ih h)
    · cases h; exact F
def W_X12_status_22 (x : Nat) : Prop := False
theorem fr_X12_status_22 {W : Nat → Prop} (hW : ∀ x, W_X12_status_22 x → W x) {x1 : Int32} {sg : ST} {v : Int32} {s : ST} (h : f_X12_status_22 x1 sg = some (v, s)) : Fr W sg s := by
  unfold f_X12_status_22 at h
  have F := Fr.rf W sg
  rcases ite_or h with h | h
  · cases h; exact F
  · rcases ite_or h with h | h
    · cases h; exact F
    · rcases ite_or h with h | h
      · cases h; exact F
      · rcases ite_or h with h | h
        · refine F.tr (fr_X12_status_60 (fun x hx => hW x (by unfold W_X12_status_60 at hx; unfold W_X12_status_22; omega)) FU h)
        · rcases ite_or h with h | h
          · cases h; exact F
          · cases h; exact F
def W_X12_status (x : Nat) : Prop := False
theorem fr_X12_status {x1 : Int32} {σ : ST} {v : Int32} {s : ST} (h : f_X12_status x1 σ = some (v, s)) : Fr (W_X12_status ) σ s := by
  unfold f_X12_status at h
  have F := Fr.rf (W_X12_status ) σ
  rcases ite_or h with h | h
  · refine F.tr (fr_X12_status_22 (fun x hx => by unfold W_X12_status_22 at hx; unfold W_X12_status; omega) h)
  · rcases ite_or h with h | h
    · refine F.tr (fr_X12_status_22 (fun x hx => by unfold W_X12_status_22 at hx; unfold W_X12_status; omega) h)
    · obtain ⟨v2, -, h⟩ := bd_some h
      cases h; exact F
