/-! ===== functions: 38.tlM ===== -/
noncomputable def f_X12_no (x1 : Int32) (σ : ST) : Option (Int32 × ST) :=
    (rdI σ 294 8 (-x1)).bind fun v1 =>
    (wrI σ 294 8 (-x1) (v1 + (nI 1))).bind fun s2 =>
    some (x1, s2)
theorem e_X12_no {G : GP} {x1 : Int32} {σ : ST} {v : Int32} {s : ST}  (h : f_X12_no x1 σ = some (v, s)) : E G mX12_no (0, 0) 0 [.ref 247, .int x1] [] (mem σ) (QI v s) := by
  unfold f_X12_no at h
  refine E_aload_n (pc := 0) rfl dX12_no_0 ?_
  refine R_getR (pc := 1) (b := 294) f12_153 dX12_no_1 (ent_st MO247) (by decide) rfl rfl ?_
  refine E_iload_n (pc := 4) rfl dX12_no_4 ?_
  refine E_ineg (pc := 5) dX12_no_5 ?_
  refine E_dup2 (pc := 6) rfl rfl dX12_no_6 ?_
  refine T_iald (pc := 7) dX12_no_7 (ent_st MA294) (by decide) h (fun v1 h => ?_)
  refine E_iconst (pc := 8) 1 rfl dX12_no_8 ?_
  refine E_iadd (pc := 9) dX12_no_9 ?_
  refine T_iast (pc := 10) dX12_no_10 (ent_st MA294) (by decide) h (fun s2 h => ?_)
  refine E_iload_n (pc := 11) rfl dX12_no_11 ?_
  exact E_ireturn (pc := 12) rfl rfl dX12_no_12 (QI_of h)
noncomputable def f_X12_isShelf (x1 : Int32) (σ : ST) : Option (Int32 × ST) :=
    if x1 < 0 then
    (some ((nI 0), σ))
    else (if x1 < (nI 8) then
    (some ((nI 1), σ))
    else (some ((nI 0), σ)))
theorem e_X12_isShelf {G : GP} {x1 : Int32} {σ : ST} {v : Int32} {s : ST}  (h : f_X12_isShelf x1 σ = some (v, s)) : E G mX12_isShelf (0, 0) 0 [.ref 247, .int x1] [] (mem σ) (QI v s) := by
  unfold f_X12_isShelf at h
  refine E_iload_n (pc := 0) rfl dX12_isShelf_0 ?_
  refine T_if_lt (pc := 1) 14 dX12_isShelf_1 (by decide) h (fun h => ?_) (fun h => ?_)
  · refine E_iconst (pc := 14) 0 rfl dX12_isShelf_14 ?_
    exact E_ireturn (pc := 15) rfl (by decide) dX12_isShelf_15 (QI_of h)
  · refine E_iload_n (pc := 4) rfl dX12_isShelf_4 ?_
    refine E_bipush (pc := 5) (nI 8) (by decide) dX12_isShelf_5 ?_
    refine T_icmp_ge (pc := 7) 14 dX12_isShelf_7 (by decide) h (fun h => ?_) (fun h => ?_)
    · refine E_iconst (pc := 14) 0 rfl dX12_isShelf_14 ?_
      exact E_ireturn (pc := 15) rfl (by decide) dX12_isShelf_15 (QI_of h)
    · refine E_iconst (pc := 10) 1 rfl dX12_isShelf_10 ?_
      refine E_goto (pc := 11) 15 (by decide) dX12_isShelf_11 ?_
      exact E_ireturn (pc := 15) rfl (by decide) dX12_isShelf_15 (QI_of h)
noncomputable def f_X12_isRow (x1 : Int32) (σ : ST) : Option (Int32 × ST) :=
    (rdI σ 263 8 x1).bind fun v1 =>
    if v1 < (nI 100) then
    (some ((nI 0), σ))
    else (some ((nI 1), σ))
theorem e_X12_isRow {G : GP} {x1 : Int32} {σ : ST} {v : Int32} {s : ST}  (h : f_X12_isRow x1 σ = some (v, s)) : E G mX12_isRow (0, 0) 0 [.ref 247, .int x1] [] (mem σ) (QI v s) := by
  unfold f_X12_isRow at h
  refine E_aload_n (pc := 0) rfl dX12_isRow_0 ?_
  refine R_getR (pc := 1) (b := 263) f12_55 dX12_isRow_1 (ent_st MO247) (by decide) rfl rfl ?_
  refine E_iload_n (pc := 4) rfl dX12_isRow_4 ?_
  refine T_iald (pc := 5) dX12_isRow_5 (ent_st MA263) (by decide) h (fun v1 h => ?_)
  refine E_bipush (pc := 6) (nI 100) (by decide) dX12_isRow_6 ?_
  refine T_icmp_lt (pc := 8) 15 dX12_isRow_8 (by decide) h (fun h => ?_) (fun h => ?_)
  · refine E_iconst (pc := 15) 0 rfl dX12_isRow_15 ?_
    exact E_ireturn (pc := 16) rfl (by decide) dX12_isRow_16 (QI_of h)
  · refine E_iconst (pc := 11) 1 rfl dX12_isRow_11 ?_
    refine E_goto (pc := 12) 16 (by decide) dX12_isRow_12 ?_
    exact E_ireturn (pc := 16) rfl (by decide) dX12_isRow_16 (QI_of h)
noncomputable def f_X12_holdsPiece (x1 : Int32) (σ : ST) : Option (Int32 × ST) :=
    (rdI σ 263 8 x1).bind fun v1 =>
    if v1 < 0 then
    (some ((nI 0), σ))
    else ((rdI σ 263 8 x1).bind fun v2 =>
    if v2 < (nI 100) then
    (some ((nI 1), σ))
    else (some ((nI 0), σ)))
theorem e_X12_holdsPiece {G : GP} {x1 : Int32} {σ : ST} {v : Int32} {s : ST}  (h : f_X12_holdsPiece x1 σ = some (v, s)) : E G mX12_holdsPiece (0, 0) 0 [.ref 247, .int x1] [] (mem σ) (QI v s) := by
  unfold f_X12_holdsPiece at h
  refine E_aload_n (pc := 0) rfl dX12_holdsPiece_0 ?_
  refine R_getR (pc := 1) (b := 263) f12_55 dX12_holdsPiece_1 (ent_st MO247) (by decide) rfl rfl ?_
  refine E_iload_n (pc := 4) rfl dX12_holdsPiece_4 ?_
  refine T_iald (pc := 5) dX12_holdsPiece_5 (ent_st MA263) (by decide) h (fun v1 h => ?_)
  refine T_if_lt (pc := 6) 24 dX12_holdsPiece_6 (by decide) h (fun h => ?_) (fun h => ?_)
  · refine E_iconst (pc := 24) 0 rfl dX12_holdsPiece_24 ?_
    exact E_ireturn (pc := 25) rfl (by decide) dX12_holdsPiece_25 (QI_of h)
  · refine E_aload_n (pc := 9) rfl dX12_holdsPiece_9 ?_
    refine R_getR (pc := 10) (b := 263) f12_55 dX12_holdsPiece_10 (ent_st MO247) (by decide) rfl rfl ?_
    refine E_iload_n (pc := 13) rfl dX12_holdsPiece_13 ?_
    refine T_iald (pc := 14) dX12_holdsPiece_14 (ent_st MA263) (by decide) h (fun v2 h => ?_)
    refine E_bipush (pc := 15) (nI 100) (by decide) dX12_holdsPiece_15 ?_
    refine T_icmp_ge (pc := 17) 24 dX12_holdsPiece_17 (by decide) h (fun h => ?_) (fun h => ?_)
    · refine E_iconst (pc := 24) 0 rfl dX12_holdsPiece_24 ?_
      exact E_ireturn (pc := 25) rfl (by decide) dX12_holdsPiece_25 (QI_of h)
    · refine E_iconst (pc := 20) 1 rfl dX12_holdsPiece_20 ?_
      refine E_goto (pc := 21) 25 (by decide) dX12_holdsPiece_21 ?_
      exact E_ireturn (pc := 25) rfl (by decide) dX12_holdsPiece_25 (QI_of h)
noncomputable def f_X12_isThing (x1 : Int32) (σ : ST) : Option (Int32 × ST) :=
    if x1 < 0 then
    (some ((nI 0), σ))
    else (if x1 < (σ.1 247 0) then
    (some ((nI 1), σ))
    else (some ((nI 0), σ)))
theorem e_X12_isThing {G : GP} {x1 : Int32} {σ : ST} {v : Int32} {s : ST}  (h : f_X12_isThing x1 σ = some (v, s)) : E G mX12_isThing (0, 0) 0 [.ref 247, .int x1] [] (mem σ) (QI v s) := by
  unfold f_X12_isThing at h
  refine E_iload_n (pc := 0) rfl dX12_isThing_0 ?_
  refine T_if_lt (pc := 1) 16 dX12_isThing_1 (by decide) h (fun h => ?_) (fun h => ?_)
  · refine E_iconst (pc := 16) 0 rfl dX12_isThing_16 ?_
    exact E_ireturn (pc := 17) rfl (by decide) dX12_isThing_17 (QI_of h)
  · refine E_iload_n (pc := 4) rfl dX12_isThing_4 ?_
    refine E_aload_n (pc := 5) rfl dX12_isThing_5 ?_
    refine R_getI (pc := 6) f12_159 dX12_isThing_6 (ent_st MO247) (by decide) rfl ?_
    refine T_icmp_ge (pc := 9) 16 dX12_isThing_9 (by decide) h (fun h => ?_) (fun h => ?_)
    · refine E_iconst (pc := 16) 0 rfl dX12_isThing_16 ?_
      exact E_ireturn (pc := 17) rfl (by decide) dX12_isThing_17 (QI_of h)
    · refine E_iconst (pc := 12) 1 rfl dX12_isThing_12 ?_
      refine E_goto (pc := 13) 17 (by decide) dX12_isThing_13 ?_
      exact E_ireturn (pc := 17) rfl (by decide) dX12_isThing_17 (QI_of h)
noncomputable def f_X12_isHappening (x1 : Int32) (σ : ST) : Option (Int32 × ST) :=
    if x1 < 0 then
    (some ((nI 0), σ))
    else (if x1 < (σ.1 247 4) then
    (some ((nI 1), σ))
    else (some ((nI 0), σ)))
theorem e_X12_isHappening {G : GP} {x1 : Int32} {σ : ST} {v : Int32} {s : ST}  (h : f_X12_isHappening x1 σ = some (v, s)) : E G mX12_isHappening (0, 0) 0 [.ref 247, .int x1] [] (mem σ) (QI v s) := by
  unfold f_X12_isHappening at h
  refine E_iload_n (pc := 0) rfl dX12_isHappening_0 ?_
  refine T_if_lt (pc := 1) 16 dX12_isHappening_1 (by decide) h (fun h => ?_) (fun h => ?_)
  · refine E_iconst (pc := 16) 0 rfl dX12_isHappening_16 ?_
    exact E_ireturn (pc := 17) rfl (by decide) dX12_isHappening_17 (QI_of h)
  · refine E_iload_n (pc := 4) rfl dX12_isHappening_4 ?_
    refine E_aload_n (pc := 5) rfl dX12_isHappening_5 ?_
    refine R_getI (pc := 6) f12_162 dX12_isHappening_6 (ent_st MO247) (by decide) rfl ?_
    refine T_icmp_ge (pc := 9) 16 dX12_isHappening_9 (by decide) h (fun h => ?_) (fun h => ?_)
    · refine E_iconst (pc := 16) 0 rfl dX12_isHappening_16 ?_
      exact E_ireturn (pc := 17) rfl (by decide) dX12_isHappening_17 (QI_of h)
    · refine E_iconst (pc := 12) 1 rfl dX12_isHappening_12 ?_
      refine E_goto (pc := 13) 17 (by decide) dX12_isHappening_13 ?_
      exact E_ireturn (pc := 17) rfl (by decide) dX12_isHappening_17 (QI_of h)
noncomputable def f_X12_isPiece (x1 : Int32) (σ : ST) : Option (Int32 × ST) :=
    if x1 < 0 then
    (some ((nI 0), σ))
    else (if x1 < (σ.1 247 9) then
    (some ((nI 1), σ))
    else (some ((nI 0), σ)))
theorem e_X12_isPiece {G : GP} {x1 : Int32} {σ : ST} {v : Int32} {s : ST}  (h : f_X12_isPiece x1 σ = some (v, s)) : E G mX12_isPiece (0, 0) 0 [.ref 247, .int x1] [] (mem σ) (QI v s) := by
  unfold f_X12_isPiece at h
  refine E_iload_n (pc := 0) rfl dX12_isPiece_0 ?_
  refine T_if_lt (pc := 1) 16 dX12_isPiece_1 (by decide) h (fun h => ?_) (fun h => ?_)
  · refine E_iconst (pc := 16) 0 rfl dX12_isPiece_16 ?_
    exact E_ireturn (pc := 17) rfl (by decide) dX12_isPiece_17 (QI_of h)
  · refine E_iload_n (pc := 4) rfl dX12_isPiece_4 ?_
    refine E_aload_n (pc := 5) rfl dX12_isPiece_5 ?_
    refine R_getI (pc := 6) f12_165 dX12_isPiece_6 (ent_st MO247) (by decide) rfl ?_
    refine T_icmp_ge (pc := 9) 16 dX12_isPiece_9 (by decide) h (fun h => ?_) (fun h => ?_)
    · refine E_iconst (pc := 16) 0 rfl dX12_isPiece_16 ?_
      exact E_ireturn (pc := 17) rfl (by decide) dX12_isPiece_17 (QI_of h)
    · refine E_iconst (pc := 12) 1 rfl dX12_isPiece_12 ?_
      refine E_goto (pc := 13) 17 (by decide) dX12_isPiece_13 ?_
      exact E_ireturn (pc := 17) rfl (by decide) dX12_isPiece_17 (QI_of h)
noncomputable def f_X12_isMouth (x1 : Int32) (σ : ST) : Option (Int32 × ST) :=
    if x1 < 0 then
    (some ((nI 0), σ))
    else (if x1 < (nI 6) then
    (some ((nI 1), σ))
    else (some ((nI 0), σ)))
theorem e_X12_isMouth {G : GP} {x1 : Int32} {σ : ST} {v : Int32} {s : ST}  (h : f_X12_isMouth x1 σ = some (v, s)) : E G mX12_isMouth (0, 0) 0 [.ref 247, .int x1] [] (mem σ) (QI v s) := by
  unfold f_X12_isMouth at h
  refine E_iload_n (pc := 0) rfl dX12_isMouth_0 ?_
  refine T_if_lt (pc := 1) 14 dX12_isMouth_1 (by decide) h (fun h => ?_) (fun h => ?_)
  · refine E_iconst (pc := 14) 0 rfl dX12_isMouth_14 ?_
    exact E_ireturn (pc := 15) rfl (by decide) dX12_isMouth_15 (QI_of h)
  · refine E_iload_n (pc := 4) rfl dX12_isMouth_4 ?_
    refine E_bipush (pc := 5) (nI 6) (by decide) dX12_isMouth_5 ?_
    refine T_icmp_ge (pc := 7) 14 dX12_isMouth_7 (by decide) h (fun h => ?_) (fun h => ?_)
    · refine E_iconst (pc := 14) 0 rfl dX12_isMouth_14 ?_
      exact E_ireturn (pc := 15) rfl (by decide) dX12_isMouth_15 (QI_of h)
    · refine E_iconst (pc := 10) 1 rfl dX12_isMouth_10 ?_
      refine E_goto (pc := 11) 15 (by decide) dX12_isMouth_11 ?_
      exact E_ireturn (pc := 15) rfl (by decide) dX12_isMouth_15 (QI_of h)
noncomputable def f_X12_isHour (x1 : Int32) (σ : ST) : Option (Int32 × ST) :=
    if x1 < 0 then
    (some ((nI 0), σ))
    else (if x1 < (nI 12) then
    (some ((nI 1), σ))
    else (some ((nI 0), σ)))
theorem e_X12_isHour {G : GP} {x1 : Int32} {σ : ST} {v : Int32} {s : ST}  (h : f_X12_isHour x1 σ = some (v, s)) : E G mX12_isHour (0, 0) 0 [.ref 247, .int x1] [] (mem σ) (QI v s) := by
  unfold f_X12_isHour at h
  refine E_iload_n (pc := 0) rfl dX12_isHour_0 ?_
  refine T_if_lt (pc := 1) 14 dX12_isHour_1 (by decide) h (fun h => ?_) (fun h => ?_)
  · refine E_iconst (pc := 14) 0 rfl dX12_isHour_14 ?_
    exact E_ireturn (pc := 15) rfl (by decide) dX12_isHour_15 (QI_of h)
  · refine E_iload_n (pc := 4) rfl dX12_isHour_4 ?_
    refine E_bipush (pc := 5) (nI 12) (by decide) dX12_isHour_5 ?_
    refine T_icmp_ge (pc := 7) 14 dX12_isHour_7 (by decide) h (fun h => ?_) (fun h => ?_)
    · refine E_iconst (pc := 14) 0 rfl dX12_isHour_14 ?_
      exact E_ireturn (pc := 15) rfl (by decide) dX12_isHour_15 (QI_of h)
    · refine E_iconst (pc := 10) 1 rfl dX12_isHour_10 ?_
      refine E_goto (pc := 11) 15 (by decide) dX12_isHour_11 ?_
      exact E_ireturn (pc := 15) rfl (by decide) dX12_isHour_15 (QI_of h)
noncomputable def f_X12_areHours (x1 : Int32) (x2 : Int32) (σ : ST) : Option (Int32 × ST) :=
    bd2 (f_X12_isHour x1 σ) fun v2 s1 =>
    if v2 = 0 then
    (some ((nI 0), s1))
    else (bd2 (f_X12_isHour x2 s1) fun v4 s3 =>
    if v4 = 0 then
    (some ((nI 0), s3))
    else (if x2 < x1 then
    (some ((nI 0), s3))
    else (some ((nI 1), s3))))
theorem e_X12_areHours {G : GP} {x1 : Int32} {x2 : Int32} {σ : ST} {v : Int32} {s : ST}  (h : f_X12_areHours x1 x2 σ = some (v, s)) : E G mX12_areHours (1, 21) 0 [.ref 247, .int x1, .int x2] [] (mem σ) (QI v s) := by
  unfold f_X12_areHours at h
  refine E_aload_n (pc := 0) rfl dX12_areHours_0 ?_
  refine E_iload_n (pc := 1) rfl dX12_areHours_1 ?_
  obtain ⟨v2, s1, hp, h⟩ := bd2_some h
  refine E_callV (pc := 2) (As := [_]) (fc := (0, 0)) s12_168_12 oX12_isHour dX12_areHours_2 (mem_ob (ent_st MO247)) rfl rfl (Nat.le_of_ble_eq_true rfl) rfl rfl (by decide) (e_X12_isHour hp) (fun rv_ M_ hq_ => ?_)
  obtain ⟨rfl, rfl⟩ := hq_
  refine T_if_eq (pc := 5) 25 dX12_areHours_5 (by decide) h (fun h => ?_) (fun h => ?_)
  · refine E_iconst (pc := 25) 0 rfl dX12_areHours_25 ?_
    exact E_ireturn (pc := 26) rfl (by decide) dX12_areHours_26 (QI_of h)
  · refine E_aload_n (pc := 8) rfl dX12_areHours_8 ?_
    refine E_iload_n (pc := 9) rfl dX12_areHours_9 ?_
    obtain ⟨v4, s3, hp, h⟩ := bd2_some h
    refine E_callV (pc := 10) (As := [_]) (fc := (0, 0)) s12_168_12 oX12_isHour dX12_areHours_10 (mem_ob (ent_st MO247)) rfl rfl (Nat.le_of_ble_eq_true rfl) rfl rfl (by decide) (e_X12_isHour hp) (fun rv_ M_ hq_ => ?_)
    obtain ⟨rfl, rfl⟩ := hq_
    refine T_if_eq (pc := 13) 25 dX12_areHours_13 (by decide) h (fun h => ?_) (fun h => ?_)
    · refine E_iconst (pc := 25) 0 rfl dX12_areHours_25 ?_
      exact E_ireturn (pc := 26) rfl (by decide) dX12_areHours_26 (QI_of h)
    · refine E_iload_n (pc := 16) rfl dX12_areHours_16 ?_
      refine E_iload_n (pc := 17) rfl dX12_areHours_17 ?_
      refine T_icmp_gt (pc := 18) 25 dX12_areHours_18 (by decide) h (fun h => ?_) (fun h => ?_)
      · refine E_iconst (pc := 25) 0 rfl dX12_areHours_25 ?_
        exact E_ireturn (pc := 26) rfl (by decide) dX12_areHours_26 (QI_of h)
      · refine E_iconst (pc := 21) 1 rfl dX12_areHours_21 ?_
        refine E_goto (pc := 22) 26 (by decide) dX12_areHours_22 ?_
        exact E_ireturn (pc := 26) rfl (by decide) dX12_areHours_26 (QI_of h)
noncomputable def f_X12_row_74 : Nat → Int32 → Int32 → ST → Option (Int32 × ST)
  | 0, _, _, _ => none
  | n + 1, x1, x4, sg =>
    if x4 < (nI 60) then
    ((wrJ sg 265 480 (((nI 60) * x1) + x4) (0)).bind fun s7 =>
    (f_X12_row_74 n) x1 (x4 + nI 1) s7)
    else (some ((nI 1), sg))
theorem e_X12_row_74 {G : GP} {v : Int32} {s : ST}  : ∀ (n : Nat) {x1 : Int32} {x4 : Int32} {sg : ST}, f_X12_row_74 n x1 x4 sg = some (v, s) → E G mX12_row (1, 21) 74 [.ref 247, .int x1, D0, D0, .int x4] [] (mem sg) (QI v s) := by
  intro n
  induction n with
  | zero => intro _ _ _ h; rw [f_X12_row_74] at h; cases h
  | succ n ih =>
    intro x1 x4 sg h
    rw [f_X12_row_74] at h
    refine E_iload (pc := 74) rfl dX12_row_74 ?_
    refine E_bipush (pc := 76) (nI 60) (by decide) dX12_row_76 ?_
    refine T_icmp_ge (pc := 78) 100 dX12_row_78 (by decide) h (fun h => ?_) (fun h => ?_)
    · refine E_iconst (pc := 100) 1 rfl dX12_row_100 ?_
      exact E_ireturn (pc := 101) rfl rfl dX12_row_101 (QI_of h)
    · refine E_aload_n (pc := 81) rfl dX12_row_81 ?_
      refine R_getR (pc := 82) (b := 265) f12_61 dX12_row_82 (ent_st MO247) (by decide) rfl rfl ?_
      refine E_bipush (pc := 85) (nI 60) (by decide) dX12_row_85 ?_
      refine E_iload_n (pc := 87) rfl dX12_row_87 ?_
      refine E_imul (pc := 88) dX12_row_88 ?_
      refine E_iload (pc := 89) rfl dX12_row_89 ?_
      refine E_iadd (pc := 91) dX12_row_91 ?_
      refine E_lconst (pc := 92) 0 rfl dX12_row_92 ?_
      refine T_jast (pc := 93) dX12_row_93 (ent_st MA265) (by decide) h (fun s7 h => ?_)
      refine T_iinc (pc := 94) (m := 1) (L2 := [_, _, _, _, _]) rfl rfl rfl rfl dX12_row_94 ?_
      refine E_goto (pc := 97) 74 (by decide) dX12_row_97 ?_
      exact ih h
noncomputable def f_X12_row (x1 : Int32) (x2 : Int32) (x3 : Int32) (σ : ST) : Option (Int32 × ST) :=
    bd2 (f_X12_isShelf x1 σ) fun v2 s1 =>
    if v2 = 0 then
    (bd2 (f_X12_no (-1) s1) fun v15 s14 =>
    some (v15, s14))
    else (if x3 < 0 then
    (bd2 (f_X12_no (-4) s1) fun v13 s12 =>
    some (v13, s12))
    else (if x2 < 0 then
    (bd2 (f_X12_no (-6) s1) fun v4 s3 =>
    some (v4, s3))
    else (if (nI 3) < x2 then
    (bd2 (f_X12_no (-6) s1) fun v11 s10 =>
    some (v11, s10))
    else (if (nI 60) < x3 then
    (bd2 (f_X12_no (-7) s1) fun v9 s8 =>
    some (v9, s8))
    else ((wrI s1 263 8 x1 ((nI 100) + x2)).bind fun s5 =>
    (wrI s5 264 8 x1 x3).bind fun s6 =>
    f_X12_row_74 FU x1 (nI 0) s6)))))
theorem e_X12_row {G : GP} {x1 : Int32} {x2 : Int32} {x3 : Int32} {σ : ST} {v : Int32} {s : ST}  (h : f_X12_row x1 x2 x3 σ = some (v, s)) : E G mX12_row (1, 21) 0 [.ref 247, .int x1, .int x2, .int x3, D0] [] (mem σ) (QI v s) := by
  unfold f_X12_row at h
  refine E_aload_n (pc := 0) rfl dX12_row_0 ?_
  refine E_iload_n (pc := 1) rfl dX12_row_1 ?_
  obtain ⟨v2, s1, hp, h⟩ := bd2_some h
  refine E_callV (pc := 2) (As := [_]) (fc := (0, 0)) s12_172_12 oX12_isShelf dX12_row_2 (mem_ob (ent_st MO247)) rfl rfl (Nat.le_of_ble_eq_true rfl) rfl rfl (by decide) (e_X12_isShelf hp) (fun rv_ M_ hq_ => ?_)
  obtain ⟨rfl, rfl⟩ := hq_
  refine T_if_ne (pc := 5) 14 dX12_row_5 (by decide) h (fun h => ?_) (fun h => ?_)
  · refine E_iload_n (pc := 14) rfl dX12_row_14 ?_
    refine T_if_ge (pc := 15) 25 dX12_row_15 (by decide) h (fun h => ?_) (fun h => ?_)
    · refine E_iload_n (pc := 25) rfl dX12_row_25 ?_
      refine T_if_lt (pc := 26) 34 dX12_row_26 (by decide) h (fun h => ?_) (fun h => ?_)
      · refine E_aload_n (pc := 34) rfl dX12_row_34 ?_
        refine E_bipush (pc := 35) (-6) (by decide) dX12_row_35 ?_
        obtain ⟨v4, s3, hp, h⟩ := bd2_some h
        refine E_callV (pc := 37) (As := [_]) (fc := (0, 0)) s12_175_12 oX12_no dX12_row_37 (mem_ob (ent_st MO247)) rfl rfl (Nat.le_of_ble_eq_true rfl) rfl rfl (by decide) (e_X12_no hp) (fun rv_ M_ hq_ => ?_)
        obtain ⟨rfl, rfl⟩ := hq_
        exact E_ireturn (pc := 40) rfl rfl dX12_row_40 (QI_of h)
      · refine E_iload_n (pc := 29) rfl dX12_row_29 ?_
        refine E_iconst (pc := 30) 3 rfl dX12_row_30 ?_
        refine T_icmp_le (pc := 31) 41 dX12_row_31 (by decide) h (fun h => ?_) (fun h => ?_)
        · refine E_iload_n (pc := 41) rfl dX12_row_41 ?_
          refine E_bipush (pc := 42) (nI 60) (by decide) dX12_row_42 ?_
          refine T_icmp_le (pc := 44) 54 dX12_row_44 (by decide) h (fun h => ?_) (fun h => ?_)
          · refine E_aload_n (pc := 54) rfl dX12_row_54 ?_
            refine R_getR (pc := 55) (b := 263) f12_55 dX12_row_55 (ent_st MO247) (by decide) rfl rfl ?_
            refine E_iload_n (pc := 58) rfl dX12_row_58 ?_
            refine E_bipush (pc := 59) (nI 100) (by decide) dX12_row_59 ?_
            refine E_iload_n (pc := 61) rfl dX12_row_61 ?_
            refine E_iadd (pc := 62) dX12_row_62 ?_
            refine T_iast (pc := 63) dX12_row_63 (ent_st MA263) (by decide) h (fun s5 h => ?_)
            refine E_aload_n (pc := 64) rfl dX12_row_64 ?_
            refine R_getR (pc := 65) (b := 264) f12_58 dX12_row_65 (ent_st MO247) (by decide) rfl rfl ?_
            refine E_iload_n (pc := 68) rfl dX12_row_68 ?_
            refine E_iload_n (pc := 69) rfl dX12_row_69 ?_
            refine T_iast (pc := 70) dX12_row_70 (ent_st MA264) (by decide) h (fun s6 h => ?_)
            refine E_iconst (pc := 71) 0 rfl dX12_row_71 ?_
            refine E_istore (pc := 72) (L2 := [_, _, _, _, _]) rfl rfl dX12_row_72 ?_
            refine E_kp [true, true, false, false, true] (L2 := [_, _, D0, D0, _]) rfl rfl ?_
            refine e_X12_row_74  FU h
          · refine E_aload_n (pc := 47) rfl dX12_row_47 ?_
            refine E_bipush (pc := 48) (-7) (by decide) dX12_row_48 ?_
            obtain ⟨v9, s8, hp, h⟩ := bd2_some h
            refine E_callV (pc := 50) (As := [_]) (fc := (0, 0)) s12_175_12 oX12_no dX12_row_50 (mem_ob (ent_st MO247)) rfl rfl (Nat.le_of_ble_eq_true rfl) rfl rfl (by decide) (e_X12_no hp) (fun rv_ M_ hq_ => ?_)
            obtain ⟨rfl, rfl⟩ := hq_
            exact E_ireturn (pc := 53) rfl rfl dX12_row_53 (QI_of h)
        · refine E_aload_n (pc := 34) rfl dX12_row_34 ?_
          refine E_bipush (pc := 35) (-6) (by decide) dX12_row_35 ?_
          obtain ⟨v11, s10, hp, h⟩ := bd2_some h
          refine E_callV (pc := 37) (As := [_]) (fc := (0, 0)) s12_175_12 oX12_no dX12_row_37 (mem_ob (ent_st MO247)) rfl rfl (Nat.le_of_ble_eq_true rfl) rfl rfl (by decide) (e_X12_no hp) (fun rv_ M_ hq_ => ?_)
          obtain ⟨rfl, rfl⟩ := hq_
          exact E_ireturn (pc := 40) rfl rfl dX12_row_40 (QI_of h)
    · refine E_aload_n (pc := 18) rfl dX12_row_18 ?_
      refine E_bipush (pc := 19) (-4) (by decide) dX12_row_19 ?_
      obtain ⟨v13, s12, hp, h⟩ := bd2_some h
      refine E_callV (pc := 21) (As := [_]) (fc := (0, 0)) s12_175_12 oX12_no dX12_row_21 (mem_ob (ent_st MO247)) rfl rfl (Nat.le_of_ble_eq_true rfl) rfl rfl (by decide) (e_X12_no hp) (fun rv_ M_ hq_ => ?_)
      obtain ⟨rfl, rfl⟩ := hq_
      exact E_ireturn (pc := 24) rfl rfl dX12_row_24 (QI_of h)
  · refine E_aload_n (pc := 8) rfl dX12_row_8 ?_
    refine E_im1 (pc := 9) dX12_row_9 ?_
    obtain ⟨v15, s14, hp, h⟩ := bd2_some h
    refine E_callV (pc := 10) (As := [_]) (fc := (0, 0)) s12_175_12 oX12_no dX12_row_10 (mem_ob (ent_st MO247)) rfl rfl (Nat.le_of_ble_eq_true rfl) rfl rfl (by decide) (e_X12_no hp) (fun rv_ M_ hq_ => ?_)
    obtain ⟨rfl, rfl⟩ := hq_
    exact E_ireturn (pc := 13) rfl rfl dX12_row_13 (QI_of h)
noncomputable def f_X12_noRow (x1 : Int32) (σ : ST) : Option (Int32 × ST) :=
    bd2 (f_X12_isShelf x1 σ) fun v2 s1 =>
    if v2 = 0 then
    (some ((-1), s1))
    else ((rdI s1 263 8 x1).bind fun v3 =>
    if v3 < 0 then
    (some ((-3), s1))
    else (bd2 (f_X12_isRow x1 s1) fun v5 s4 =>
    if v5 = 0 then
    (some ((-2), s4))
    else (some ((nI 0), s4))))
theorem e_X12_noRow {G : GP} {x1 : Int32} {σ : ST} {v : Int32} {s : ST}  (h : f_X12_noRow x1 σ = some (v, s)) : E G mX12_noRow (1, 21) 0 [.ref 247, .int x1] [] (mem σ) (QI v s) := by
  unfold f_X12_noRow at h
  refine E_aload_n (pc := 0) rfl dX12_noRow_0 ?_
  refine E_iload_n (pc := 1) rfl dX12_noRow_1 ?_
  obtain ⟨v2, s1, hp, h⟩ := bd2_some h
  refine E_callV (pc := 2) (As := [_]) (fc := (0, 0)) s12_172_12 oX12_isShelf dX12_noRow_2 (mem_ob (ent_st MO247)) rfl rfl (Nat.le_of_ble_eq_true rfl) rfl rfl (by decide) (e_X12_isShelf hp) (fun rv_ M_ hq_ => ?_)
  obtain ⟨rfl, rfl⟩ := hq_
  refine T_if_ne (pc := 5) 10 dX12_noRow_5 (by decide) h (fun h => ?_) (fun h => ?_)
  · refine E_aload_n (pc := 10) rfl dX12_noRow_10 ?_
    refine R_getR (pc := 11) (b := 263) f12_55 dX12_noRow_11 (ent_st MO247) (by decide) rfl rfl ?_
    refine E_iload_n (pc := 14) rfl dX12_noRow_14 ?_
    refine T_iald (pc := 15) dX12_noRow_15 (ent_st MA263) (by decide) h (fun v3 h => ?_)
    refine T_if_ge (pc := 16) 22 dX12_noRow_16 (by decide) h (fun h => ?_) (fun h => ?_)
    · refine E_aload_n (pc := 22) rfl dX12_noRow_22 ?_
      refine E_iload_n (pc := 23) rfl dX12_noRow_23 ?_
      obtain ⟨v5, s4, hp, h⟩ := bd2_some h
      refine E_callV (pc := 24) (As := [_]) (fc := (0, 0)) s12_179_12 oX12_isRow dX12_noRow_24 (mem_ob (ent_st MO247)) rfl rfl (Nat.le_of_ble_eq_true rfl) rfl rfl (by decide) (e_X12_isRow hp) (fun rv_ M_ hq_ => ?_)
      obtain ⟨rfl, rfl⟩ := hq_
      refine T_if_eq (pc := 27) 34 dX12_noRow_27 (by decide) h (fun h => ?_) (fun h => ?_)
      · refine E_bipush (pc := 34) (-2) (by decide) dX12_noRow_34 ?_
        exact E_ireturn (pc := 36) rfl rfl dX12_noRow_36 (QI_of h)
      · refine E_iconst (pc := 30) 0 rfl dX12_noRow_30 ?_
        refine E_goto (pc := 31) 36 (by decide) dX12_noRow_31 ?_
        exact E_ireturn (pc := 36) rfl rfl dX12_noRow_36 (QI_of h)
    · refine E_bipush (pc := 19) (-3) (by decide) dX12_noRow_19 ?_
      exact E_ireturn (pc := 21) rfl rfl dX12_noRow_21 (QI_of h)
  · refine E_im1 (pc := 8) dX12_noRow_8 ?_
    exact E_ireturn (pc := 9) rfl rfl dX12_noRow_9 (QI_of h)
noncomputable def f_X12_set (x1 : Int32) (x2 : Int32) (y3 : Int64) (σ : ST) : Option (Int32 × ST) :=
    bd2 (f_X12_noRow x1 σ) fun v2 s1 =>
    if v2 < 0 then
    (bd2 (f_X12_no v2 s1) fun v14 s13 =>
    some (v14, s13))
    else (if x2 < 0 then
    (bd2 (f_X12_no (-5) s1) fun v4 s3 =>
    some (v4, s3))
    else ((rdI s1 264 8 x1).bind fun v5 =>
    if x2 < v5 then
    ((rdI s1 263 8 x1).bind fun v6 =>
    if (v6 - (nI 100)) = 0 then
    ((wrJ s1 265 480 (((nI 60) * x1) + x2) ((((((y3).toInt32)).toInt8.toInt32)).toInt64)).bind fun s10 =>
    some ((nI 1), s10))
    else (if (v6 - (nI 100)) = (nI 1) then
    ((wrJ s1 265 480 (((nI 60) * x1) + x2) ((((((y3).toInt32)).toInt16.toInt32)).toInt64)).bind fun s9 =>
    some ((nI 1), s9))
    else (if (v6 - (nI 100)) = (nI 2) then
    ((wrJ s1 265 480 (((nI 60) * x1) + x2) ((((y3).toInt32)).toInt64)).bind fun s8 =>
    some ((nI 1), s8))
    else ((wrJ s1 265 480 (((nI 60) * x1) + x2) y3).bind fun s7 =>
    some ((nI 1), s7)))))
    else (bd2 (f_X12_no (-5) s1) fun v12 s11 =>
    some (v12, s11))))
theorem e_X12_set {G : GP} {x1 : Int32} {x2 : Int32} {y3 : Int64} {σ : ST} {v : Int32} {s : ST}  (h : f_X12_set x1 x2 y3 σ = some (v, s)) : E G mX12_set (2, 42) 0 [.ref 247, .int x1, .int x2, .long y3, D0, D0, D0] [] (mem σ) (QI v s) := by
  unfold f_X12_set at h
  refine E_aload_n (pc := 0) rfl dX12_set_0 ?_
  refine E_iload_n (pc := 1) rfl dX12_set_1 ?_
  obtain ⟨v2, s1, hp, h⟩ := bd2_some h
  refine E_callV (pc := 2) (As := [_]) (fc := (1, 21)) s12_182_12 oX12_noRow dX12_set_2 (mem_ob (ent_st MO247)) rfl rfl (Nat.le_of_ble_eq_true rfl) rfl rfl (by decide) (e_X12_noRow hp) (fun rv_ M_ hq_ => ?_)
  obtain ⟨rfl, rfl⟩ := hq_
  refine E_istore (pc := 5) (L2 := [_, _, _, _, _, _, _]) rfl rfl dX12_set_5 ?_
  refine E_iload (pc := 7) rfl dX12_set_7 ?_
  refine T_if_ge (pc := 9) 19 dX12_set_9 (by decide) h (fun h => ?_) (fun h => ?_)
  · refine E_iload_n (pc := 19) rfl dX12_set_19 ?_
    refine T_if_lt (pc := 20) 33 dX12_set_20 (by decide) h (fun h => ?_) (fun h => ?_)
    · refine E_aload_n (pc := 33) rfl dX12_set_33 ?_
      refine E_bipush (pc := 34) (-5) (by decide) dX12_set_34 ?_
      obtain ⟨v4, s3, hp, h⟩ := bd2_some h
      refine E_callV (pc := 36) (As := [_]) (fc := (0, 0)) s12_175_12 oX12_no dX12_set_36 (mem_ob (ent_st MO247)) rfl rfl (Nat.le_of_ble_eq_true rfl) rfl rfl (by decide) (e_X12_no hp) (fun rv_ M_ hq_ => ?_)
      obtain ⟨rfl, rfl⟩ := hq_
      exact E_ireturn (pc := 39) rfl rfl dX12_set_39 (QI_of h)
    · refine E_iload_n (pc := 23) rfl dX12_set_23 ?_
      refine E_aload_n (pc := 24) rfl dX12_set_24 ?_
      refine R_getR (pc := 25) (b := 264) f12_58 dX12_set_25 (ent_st MO247) (by decide) rfl rfl ?_
      refine E_iload_n (pc := 28) rfl dX12_set_28 ?_
      refine T_iald (pc := 29) dX12_set_29 (ent_st MA264) (by decide) h (fun v5 h => ?_)
      refine T_icmp_lt (pc := 30) 40 dX12_set_30 (by decide) h (fun h => ?_) (fun h => ?_)
      · refine E_aload_n (pc := 40) rfl dX12_set_40 ?_
        refine R_getR (pc := 41) (b := 263) f12_55 dX12_set_41 (ent_st MO247) (by decide) rfl rfl ?_
        refine E_iload_n (pc := 44) rfl dX12_set_44 ?_
        refine T_iald (pc := 45) dX12_set_45 (ent_st MA263) (by decide) h (fun v6 h => ?_)
        refine E_bipush (pc := 46) (nI 100) (by decide) dX12_set_46 ?_
        refine E_isub (pc := 48) dX12_set_48 ?_
        refine E_istore (pc := 49) (L2 := [_, _, _, _, _, _, _]) rfl rfl dX12_set_49 ?_
        refine E_aload_n (pc := 51) rfl dX12_set_51 ?_
        refine R_getR (pc := 52) (b := 265) f12_61 dX12_set_52 (ent_st MO247) (by decide) rfl rfl ?_
        refine E_bipush (pc := 55) (nI 60) (by decide) dX12_set_55 ?_
        refine E_iload_n (pc := 57) rfl dX12_set_57 ?_
        refine E_imul (pc := 58) dX12_set_58 ?_
        refine E_iload_n (pc := 59) rfl dX12_set_59 ?_
        refine E_iadd (pc := 60) dX12_set_60 ?_
        refine E_iload (pc := 61) rfl dX12_set_61 ?_
        refine T_if_ne (pc := 63) 73 dX12_set_63 (by decide) h (fun h => ?_) (fun h => ?_)
        · refine E_iload (pc := 73) rfl dX12_set_73 ?_
          refine E_iconst (pc := 75) 1 rfl dX12_set_75 ?_
          refine T_icmp_ne (pc := 76) 86 dX12_set_76 (by decide) h (fun h => ?_) (fun h => ?_)
          · refine E_iload (pc := 86) rfl dX12_set_86 ?_
            refine E_iconst (pc := 88) 2 rfl dX12_set_88 ?_
            refine T_icmp_ne (pc := 89) 98 dX12_set_89 (by decide) h (fun h => ?_) (fun h => ?_)
            · refine E_lload_n (pc := 98) rfl dX12_set_98 ?_
              refine T_jast (pc := 99) dX12_set_99 (ent_st MA265) (by decide) h (fun s7 h => ?_)
              refine E_iconst (pc := 100) 1 rfl dX12_set_100 ?_
              exact E_ireturn (pc := 101) rfl rfl dX12_set_101 (QI_of h)
            · refine E_lload_n (pc := 92) rfl dX12_set_92 ?_
              refine E_l2i (pc := 93) dX12_set_93 ?_
              refine E_i2l (pc := 94) dX12_set_94 ?_
              refine E_goto (pc := 95) 99 (by decide) dX12_set_95 ?_
              refine T_jast (pc := 99) dX12_set_99 (ent_st MA265) (by decide) h (fun s8 h => ?_)
              refine E_iconst (pc := 100) 1 rfl dX12_set_100 ?_
              exact E_ireturn (pc := 101) rfl rfl dX12_set_101 (QI_of h)
          · refine E_lload_n (pc := 79) rfl dX12_set_79 ?_
            refine E_l2i (pc := 80) dX12_set_80 ?_
            refine E_i2s (pc := 81) dX12_set_81 ?_
            refine E_i2l (pc := 82) dX12_set_82 ?_
            refine E_goto (pc := 83) 99 (by decide) dX12_set_83 ?_
            refine T_jast (pc := 99) dX12_set_99 (ent_st MA265) (by decide) h (fun s9 h => ?_)
            refine E_iconst (pc := 100) 1 rfl dX12_set_100 ?_
            exact E_ireturn (pc := 101) rfl rfl dX12_set_101 (QI_of h)
        · refine E_lload_n (pc := 66) rfl dX12_set_66 ?_
          refine E_l2i (pc := 67) dX12_set_67 ?_
          refine E_i2b (pc := 68) dX12_set_68 ?_
          refine E_i2l (pc := 69) dX12_set_69 ?_
          refine E_goto (pc := 70) 99 (by decide) dX12_set_70 ?_
          refine T_jast (pc := 99) dX12_set_99 (ent_st MA265) (by decide) h (fun s10 h => ?_)
          refine E_iconst (pc := 100) 1 rfl dX12_set_100 ?_
          exact E_ireturn (pc := 101) rfl rfl dX12_set_101 (QI_of h)
      · refine E_aload_n (pc := 33) rfl dX12_set_33 ?_
        refine E_bipush (pc := 34) (-5) (by decide) dX12_set_34 ?_
        obtain ⟨v12, s11, hp, h⟩ := bd2_some h
        refine E_callV (pc := 36) (As := [_]) (fc := (0, 0)) s12_175_12 oX12_no dX12_set_36 (mem_ob (ent_st MO247)) rfl rfl (Nat.le_of_ble_eq_true rfl) rfl rfl (by decide) (e_X12_no hp) (fun rv_ M_ hq_ => ?_)
        obtain ⟨rfl, rfl⟩ := hq_
        exact E_ireturn (pc := 39) rfl rfl dX12_set_39 (QI_of h)
  · refine E_aload_n (pc := 12) rfl dX12_set_12 ?_
    refine E_iload (pc := 13) rfl dX12_set_13 ?_
    obtain ⟨v14, s13, hp, h⟩ := bd2_some h
    refine E_callV (pc := 15) (As := [_]) (fc := (0, 0)) s12_175_12 oX12_no dX12_set_15 (mem_ob (ent_st MO247)) rfl rfl (Nat.le_of_ble_eq_true rfl) rfl rfl (by decide) (e_X12_no hp) (fun rv_ M_ hq_ => ?_)
    obtain ⟨rfl, rfl⟩ := hq_
    exact E_ireturn (pc := 18) rfl rfl dX12_set_18 (QI_of h)
noncomputable def f_X12_copy_227 : Nat → Int32 → Int32 → Int32 → Int32 → Int32 → Int32 → ST → Option (Int32 × ST)
  | 0, _, _, _, _, _, _, _ => none
  | n + 1, x1, x2, x3, x4, x5, x6, sg =>
    if x6 < x5 then
    ((rdJ sg 265 480 ((((nI 60) * x1) + x3) + x6)).bind fun v29 =>
    (wrJ sg 265 480 ((((nI 60) * x2) + x4) + x6) v29).bind fun s30 =>
    (f_X12_copy_227 n) x1 x2 x3 x4 x5 (x6 + nI 1) s30)
    else (some ((nI 1), sg))
theorem e_X12_copy_227 {G : GP} {v : Int32} {s : ST}  : ∀ (n : Nat) {x1 : Int32} {x2 : Int32} {x3 : Int32} {x4 : Int32} {x5 : Int32} {x6 : Int32} {sg : ST}, f_X12_copy_227 n x1 x2 x3 x4 x5 x6 sg = some (v, s) → E G mX12_copy (1, 21) 227 [.ref 247, .int x1, .int x2, .int x3, .int x4, .int x5, .int x6] [] (mem sg) (QI v s) := by
  intro n
  induction n with
  | zero => intro _ _ _ _ _ _ _ h; rw [f_X12_copy_227] at h; cases h
  | succ n ih =>
    intro x1 x2 x3 x4 x5 x6 sg h
    rw [f_X12_copy_227] at h
    refine E_iload (pc := 227) rfl dX12_copy_227 ?_
    refine E_iload (pc := 229) rfl dX12_copy_229 ?_
    refine T_icmp_ge (pc := 231) 269 dX12_copy_231 (by decide) h (fun h => ?_) (fun h => ?_)
    · refine E_iconst (pc := 269) 1 rfl dX12_copy_269 ?_
      exact E_ireturn (pc := 270) rfl rfl dX12_copy_270 (QI_of h)
    · refine E_aload_n (pc := 234) rfl dX12_copy_234 ?_
      refine R_getR (pc := 235) (b := 265) f12_61 dX12_copy_235 (ent_st MO247) (by decide) rfl rfl ?_
      refine E_bipush (pc := 238) (nI 60) (by decide) dX12_copy_238 ?_
      refine E_iload_n (pc := 240) rfl dX12_copy_240 ?_
      refine E_imul (pc := 241) dX12_copy_241 ?_
      refine E_iload (pc := 242) rfl dX12_copy_242 ?_
      refine E_iadd (pc := 244) dX12_copy_244 ?_
      refine E_iload (pc := 245) rfl dX12_copy_245 ?_
      refine E_iadd (pc := 247) dX12_copy_247 ?_
      refine E_aload_n (pc := 248) rfl dX12_copy_248 ?_
      refine R_getR (pc := 249) (b := 265) f12_61 dX12_copy_249 (ent_st MO247) (by decide) rfl rfl ?_
      refine E_bipush (pc := 252) (nI 60) (by decide) dX12_copy_252 ?_
      refine E_iload_n (pc := 254) rfl dX12_copy_254 ?_
      refine E_imul (pc := 255) dX12_copy_255 ?_
      refine E_iload_n (pc := 256) rfl dX12_copy_256 ?_
      refine E_iadd (pc := 257) dX12_copy_257 ?_
      refine E_iload (pc := 258) rfl dX12_copy_258 ?_
      refine E_iadd (pc := 260) dX12_copy_260 ?_
      refine T_jald (pc := 261) dX12_copy_261 (ent_st MA265) (by decide) h (fun v29 h => ?_)
      refine T_jast (pc := 262) dX12_copy_262 (ent_st MA265) (by decide) h (fun s30 h => ?_)
      refine T_iinc (pc := 263) (m := 1) (L2 := [_, _, _, _, _, _, _]) rfl rfl rfl rfl dX12_copy_263 ?_
      refine E_goto (pc := 266) 227 (by decide) dX12_copy_266 ?_
      exact ih h
noncomputable def f_X12_copy_224 (x1 : Int32) (x2 : Int32) (x3 : Int32) (x4 : Int32) (x5 : Int32) (sg : ST) : Option (Int32 × ST) :=
    f_X12_copy_227 FU x1 x2 x3 x4 x5 (nI 0) sg
theorem e_X12_copy_224 {G : GP} {x1 : Int32} {x2 : Int32} {x3 : Int32} {x4 : Int32} {x5 : Int32} {sg : ST} {v : Int32} {s : ST}  (h : f_X12_copy_224 x1 x2 x3 x4 x5 sg = some (v, s)) : E G mX12_copy (1, 21) 224 [.ref 247, .int x1, .int x2, .int x3, .int x4, .int x5, D0] [] (mem sg) (QI v s) := by
  unfold f_X12_copy_224 at h
  refine E_iconst (pc := 224) 0 rfl dX12_copy_224 ?_
  refine E_istore (pc := 225) (L2 := [_, _, _, _, _, _, _]) rfl rfl dX12_copy_225 ?_
  refine e_X12_copy_227  FU h
noncomputable def f_X12_copy_181 : Nat → Int32 → Int32 → Int32 → Int32 → Int32 → ST → Option (Int32 × ST)
  | 0, _, _, _, _, _, _ => none
  | n + 1, x1, x2, x3, x4, x6, sg =>
    if x6 < 0 then
    (some ((nI 1), sg))
    else ((rdJ sg 265 480 ((((nI 60) * x1) + x3) + x6)).bind fun v31 =>
    (wrJ sg 265 480 ((((nI 60) * x2) + x4) + x6) v31).bind fun s32 =>
    (f_X12_copy_181 n) x1 x2 x3 x4 (x6 + (-1)) s32)
theorem e_X12_copy_181 {G : GP} {v : Int32} {s : ST}  : ∀ (n : Nat) {x1 : Int32} {x2 : Int32} {x3 : Int32} {x4 : Int32} {x6 : Int32} {sg : ST}, f_X12_copy_181 n x1 x2 x3 x4 x6 sg = some (v, s) → E G mX12_copy (1, 21) 181 [.ref 247, .int x1, .int x2, .int x3, .int x4, D0, .int x6] [] (mem sg) (QI v s) := by
  intro n
  induction n with
  | zero => intro _ _ _ _ _ _ h; rw [f_X12_copy_181] at h; cases h
  | succ n ih =>
    intro x1 x2 x3 x4 x6 sg h
    rw [f_X12_copy_181] at h
    refine E_iload (pc := 181) rfl dX12_copy_181 ?_
    refine T_if_lt (pc := 183) 221 dX12_copy_183 (by decide) h (fun h => ?_) (fun h => ?_)
    · refine E_goto (pc := 221) 269 (by decide) dX12_copy_221 ?_
      refine E_iconst (pc := 269) 1 rfl dX12_copy_269 ?_
      exact E_ireturn (pc := 270) rfl rfl dX12_copy_270 (QI_of h)
    · refine E_aload_n (pc := 186) rfl dX12_copy_186 ?_
      refine R_getR (pc := 187) (b := 265) f12_61 dX12_copy_187 (ent_st MO247) (by decide) rfl rfl ?_
      refine E_bipush (pc := 190) (nI 60) (by decide) dX12_copy_190 ?_
      refine E_iload_n (pc := 192) rfl dX12_copy_192 ?_
      refine E_imul (pc := 193) dX12_copy_193 ?_
      refine E_iload (pc := 194) rfl dX12_copy_194 ?_
      refine E_iadd (pc := 196) dX12_copy_196 ?_
      refine E_iload (pc := 197) rfl dX12_copy_197 ?_
      refine E_iadd (pc := 199) dX12_copy_199 ?_
      refine E_aload_n (pc := 200) rfl dX12_copy_200 ?_
      refine R_getR (pc := 201) (b := 265) f12_61 dX12_copy_201 (ent_st MO247) (by decide) rfl rfl ?_
      refine E_bipush (pc := 204) (nI 60) (by decide) dX12_copy_204 ?_
      refine E_iload_n (pc := 206) rfl dX12_copy_206 ?_
      refine E_imul (pc := 207) dX12_copy_207 ?_
      refine E_iload_n (pc := 208) rfl dX12_copy_208 ?_
      refine E_iadd (pc := 209) dX12_copy_209 ?_
      refine E_iload (pc := 210) rfl dX12_copy_210 ?_
      refine E_iadd (pc := 212) dX12_copy_212 ?_
      refine T_jald (pc := 213) dX12_copy_213 (ent_st MA265) (by decide) h (fun v31 h => ?_)
      refine T_jast (pc := 214) dX12_copy_214 (ent_st MA265) (by decide) h (fun s32 h => ?_)
      refine T_idec (pc := 215) (L2 := [_, _, _, _, _, _, _]) rfl rfl rfl dX12_copy_215 ?_
      refine E_goto (pc := 218) 181 (by decide) dX12_copy_218 ?_
      exact ih h
noncomputable def f_X12_copy_76 (x1 : Int32) (x2 : Int32) (x3 : Int32) (x4 : Int32) (x5 : Int32) (sg : ST) : Option (Int32 × ST) :=
    (rdI sg 263 8 x1).bind fun v17 =>
    if v17 < 0 then
    (bd2 (f_X12_no (-3) sg) fun v19 s18 =>
    some (v19, s18))
    else ((rdI sg 263 8 x2).bind fun v20 =>
    if v20 < 0 then
    (bd2 (f_X12_no (-3) sg) fun v38 s37 =>
    some (v38, s37))
    else (if x5 < 0 then
    (bd2 (f_X12_no (-4) sg) fun v36 s35 =>
    some (v36, s35))
    else (if x3 < 0 then
    (bd2 (f_X12_no (-5) sg) fun v22 s21 =>
    some (v22, s21))
    else (if x4 < 0 then
    (bd2 (f_X12_no (-5) sg) fun v24 s23 =>
    some (v24, s23))
    else ((rdI sg 264 8 x1).bind fun v25 =>
    if 0 < (lg_cmp (((x3).toInt64) + ((x5).toInt64)) ((v25).toInt64)) then
    (bd2 (f_X12_no (-5) sg) fun v27 s26 =>
    some (v27, s26))
    else ((rdI sg 264 8 x2).bind fun v28 =>
    if 0 < (lg_cmp (((x4).toInt64) + ((x5).toInt64)) ((v28).toInt64)) then
    (bd2 (f_X12_no (-5) sg) fun v34 s33 =>
    some (v34, s33))
    else (if x1 = x2 then
    (if x3 < x4 then
    (f_X12_copy_181 FU x1 x2 x3 x4 (x5 - (nI 1)) sg)
    else (f_X12_copy_224 x1 x2 x3 x4 x5 sg))
    else (f_X12_copy_224 x1 x2 x3 x4 x5 sg))))))))
theorem e_X12_copy_76 {G : GP} {x1 : Int32} {x2 : Int32} {x3 : Int32} {x4 : Int32} {x5 : Int32} {sg : ST} {v : Int32} {s : ST}  (h : f_X12_copy_76 x1 x2 x3 x4 x5 sg = some (v, s)) : E G mX12_copy (1, 21) 76 [.ref 247, .int x1, .int x2, .int x3, .int x4, .int x5, D0] [] (mem sg) (QI v s) := by
  unfold f_X12_copy_76 at h
  refine E_aload_n (pc := 76) rfl dX12_copy_76 ?_
  refine R_getR (pc := 77) (b := 263) f12_55 dX12_copy_77 (ent_st MO247) (by decide) rfl rfl ?_
  refine E_iload_n (pc := 80) rfl dX12_copy_80 ?_
  refine T_iald (pc := 81) dX12_copy_81 (ent_st MA263) (by decide) h (fun v17 h => ?_)
  refine T_if_lt (pc := 82) 94 dX12_copy_82 (by decide) h (fun h => ?_) (fun h => ?_)
  · refine E_aload_n (pc := 94) rfl dX12_copy_94 ?_
    refine E_bipush (pc := 95) (-3) (by decide) dX12_copy_95 ?_
    obtain ⟨v19, s18, hp, h⟩ := bd2_some h
    refine E_callV (pc := 97) (As := [_]) (fc := (0, 0)) s12_175_12 oX12_no dX12_copy_97 (mem_ob (ent_st MO247)) rfl rfl (Nat.le_of_ble_eq_true rfl) rfl rfl (by decide) (e_X12_no hp) (fun rv_ M_ hq_ => ?_)
    obtain ⟨rfl, rfl⟩ := hq_
    exact E_ireturn (pc := 100) rfl rfl dX12_copy_100 (QI_of h)
  · refine E_aload_n (pc := 85) rfl dX12_copy_85 ?_
    refine R_getR (pc := 86) (b := 263) f12_55 dX12_copy_86 (ent_st MO247) (by decide) rfl rfl ?_
    refine E_iload_n (pc := 89) rfl dX12_copy_89 ?_
    refine T_iald (pc := 90) dX12_copy_90 (ent_st MA263) (by decide) h (fun v20 h => ?_)
    refine T_if_ge (pc := 91) 101 dX12_copy_91 (by decide) h (fun h => ?_) (fun h => ?_)
    · refine E_iload (pc := 101) rfl dX12_copy_101 ?_
      refine T_if_ge (pc := 103) 113 dX12_copy_103 (by decide) h (fun h => ?_) (fun h => ?_)
      · refine E_iload_n (pc := 113) rfl dX12_copy_113 ?_
        refine T_if_lt (pc := 114) 157 dX12_copy_114 (by decide) h (fun h => ?_) (fun h => ?_)
        · refine E_aload_n (pc := 157) rfl dX12_copy_157 ?_
          refine E_bipush (pc := 158) (-5) (by decide) dX12_copy_158 ?_
          obtain ⟨v22, s21, hp, h⟩ := bd2_some h
          refine E_callV (pc := 160) (As := [_]) (fc := (0, 0)) s12_175_12 oX12_no dX12_copy_160 (mem_ob (ent_st MO247)) rfl rfl (Nat.le_of_ble_eq_true rfl) rfl rfl (by decide) (e_X12_no hp) (fun rv_ M_ hq_ => ?_)
          obtain ⟨rfl, rfl⟩ := hq_
          exact E_ireturn (pc := 163) rfl rfl dX12_copy_163 (QI_of h)
        · refine E_iload (pc := 117) rfl dX12_copy_117 ?_
          refine T_if_lt (pc := 119) 157 dX12_copy_119 (by decide) h (fun h => ?_) (fun h => ?_)
          · refine E_aload_n (pc := 157) rfl dX12_copy_157 ?_
            refine E_bipush (pc := 158) (-5) (by decide) dX12_copy_158 ?_
            obtain ⟨v24, s23, hp, h⟩ := bd2_some h
            refine E_callV (pc := 160) (As := [_]) (fc := (0, 0)) s12_175_12 oX12_no dX12_copy_160 (mem_ob (ent_st MO247)) rfl rfl (Nat.le_of_ble_eq_true rfl) rfl rfl (by decide) (e_X12_no hp) (fun rv_ M_ hq_ => ?_)
            obtain ⟨rfl, rfl⟩ := hq_
            exact E_ireturn (pc := 163) rfl rfl dX12_copy_163 (QI_of h)
          · refine E_iload_n (pc := 122) rfl dX12_copy_122 ?_
            refine E_i2l (pc := 123) dX12_copy_123 ?_
            refine E_iload (pc := 124) rfl dX12_copy_124 ?_
            refine E_i2l (pc := 126) dX12_copy_126 ?_
            refine E_ladd (pc := 127) dX12_copy_127 ?_
            refine E_aload_n (pc := 128) rfl dX12_copy_128 ?_
            refine R_getR (pc := 129) (b := 264) f12_58 dX12_copy_129 (ent_st MO247) (by decide) rfl rfl ?_
            refine E_iload_n (pc := 132) rfl dX12_copy_132 ?_
            refine T_iald (pc := 133) dX12_copy_133 (ent_st MA264) (by decide) h (fun v25 h => ?_)
            refine E_i2l (pc := 134) dX12_copy_134 ?_
            refine E_lcmp (pc := 135) dX12_copy_135 ?_
            refine T_if_gt (pc := 136) 157 dX12_copy_136 (by decide) h (fun h => ?_) (fun h => ?_)
            · refine E_aload_n (pc := 157) rfl dX12_copy_157 ?_
              refine E_bipush (pc := 158) (-5) (by decide) dX12_copy_158 ?_
              obtain ⟨v27, s26, hp, h⟩ := bd2_some h
              refine E_callV (pc := 160) (As := [_]) (fc := (0, 0)) s12_175_12 oX12_no dX12_copy_160 (mem_ob (ent_st MO247)) rfl rfl (Nat.le_of_ble_eq_true rfl) rfl rfl (by decide) (e_X12_no hp) (fun rv_ M_ hq_ => ?_)
              obtain ⟨rfl, rfl⟩ := hq_
              exact E_ireturn (pc := 163) rfl rfl dX12_copy_163 (QI_of h)
            · refine E_iload (pc := 139) rfl dX12_copy_139 ?_
              refine E_i2l (pc := 141) dX12_copy_141 ?_
              refine E_iload (pc := 142) rfl dX12_copy_142 ?_
              refine E_i2l (pc := 144) dX12_copy_144 ?_
              refine E_ladd (pc := 145) dX12_copy_145 ?_
              refine E_aload_n (pc := 146) rfl dX12_copy_146 ?_
              refine R_getR (pc := 147) (b := 264) f12_58 dX12_copy_147 (ent_st MO247) (by decide) rfl rfl ?_
              refine E_iload_n (pc := 150) rfl dX12_copy_150 ?_
              refine T_iald (pc := 151) dX12_copy_151 (ent_st MA264) (by decide) h (fun v28 h => ?_)
              refine E_i2l (pc := 152) dX12_copy_152 ?_
              refine E_lcmp (pc := 153) dX12_copy_153 ?_
              refine T_if_le (pc := 154) 164 dX12_copy_154 (by decide) h (fun h => ?_) (fun h => ?_)
              · refine E_iload_n (pc := 164) rfl dX12_copy_164 ?_
                refine E_iload_n (pc := 165) rfl dX12_copy_165 ?_
                refine T_icmp_ne (pc := 166) 224 dX12_copy_166 (by decide) h (fun h => ?_) (fun h => ?_)
                · refine e_X12_copy_224  h
                · refine E_iload_n (pc := 169) rfl dX12_copy_169 ?_
                  refine E_iload (pc := 170) rfl dX12_copy_170 ?_
                  refine T_icmp_ge (pc := 172) 224 dX12_copy_172 (by decide) h (fun h => ?_) (fun h => ?_)
                  · refine e_X12_copy_224  h
                  · refine E_iload (pc := 175) rfl dX12_copy_175 ?_
                    refine E_iconst (pc := 177) 1 rfl dX12_copy_177 ?_
                    refine E_isub (pc := 178) dX12_copy_178 ?_
                    refine E_istore (pc := 179) (L2 := [_, _, _, _, _, _, _]) rfl rfl dX12_copy_179 ?_
                    refine E_kp [true, true, true, true, true, false, true] (L2 := [_, _, _, _, _, D0, _]) rfl rfl ?_
                    refine e_X12_copy_181  FU h
              · refine E_aload_n (pc := 157) rfl dX12_copy_157 ?_
                refine E_bipush (pc := 158) (-5) (by decide) dX12_copy_158 ?_
                obtain ⟨v34, s33, hp, h⟩ := bd2_some h
                refine E_callV (pc := 160) (As := [_]) (fc := (0, 0)) s12_175_12 oX12_no dX12_copy_160 (mem_ob (ent_st MO247)) rfl rfl (Nat.le_of_ble_eq_true rfl) rfl rfl (by decide) (e_X12_no hp) (fun rv_ M_ hq_ => ?_)
                obtain ⟨rfl, rfl⟩ := hq_
                exact E_ireturn (pc := 163) rfl rfl dX12_copy_163 (QI_of h)
      · refine E_aload_n (pc := 106) rfl dX12_copy_106 ?_
        refine E_bipush (pc := 107) (-4) (by decide) dX12_copy_107 ?_
        obtain ⟨v36, s35, hp, h⟩ := bd2_some h
        refine E_callV (pc := 109) (As := [_]) (fc := (0, 0)) s12_175_12 oX12_no dX12_copy_109 (mem_ob (ent_st MO247)) rfl rfl (Nat.le_of_ble_eq_true rfl) rfl rfl (by decide) (e_X12_no hp) (fun rv_ M_ hq_ => ?_)
        obtain ⟨rfl, rfl⟩ := hq_
        exact E_ireturn (pc := 112) rfl rfl dX12_copy_112 (QI_of h)
    · refine E_aload_n (pc := 94) rfl dX12_copy_94 ?_
      refine E_bipush (pc := 95) (-3) (by decide) dX12_copy_95 ?_
      obtain ⟨v38, s37, hp, h⟩ := bd2_some h
      refine E_callV (pc := 97) (As := [_]) (fc := (0, 0)) s12_175_12 oX12_no dX12_copy_97 (mem_ob (ent_st MO247)) rfl rfl (Nat.le_of_ble_eq_true rfl) rfl rfl (by decide) (e_X12_no hp) (fun rv_ M_ hq_ => ?_)
      obtain ⟨rfl, rfl⟩ := hq_
      exact E_ireturn (pc := 100) rfl rfl dX12_copy_100 (QI_of h)
noncomputable def f_X12_copy (x1 : Int32) (x2 : Int32) (x3 : Int32) (x4 : Int32) (x5 : Int32) (σ : ST) : Option (Int32 × ST) :=
    bd2 (f_X12_isShelf x1 σ) fun v2 s1 =>
    if v2 = 0 then
    (bd2 (f_X12_no (-1) s1) fun v4 s3 =>
    some (v4, s3))
    else (bd2 (f_X12_isShelf x2 s1) fun v6 s5 =>
    if v6 = 0 then
    (bd2 (f_X12_no (-1) s5) fun v46 s45 =>
    some (v46, s45))
    else (bd2 (f_X12_holdsPiece x1 s5) fun v8 s7 =>
    if v8 = 0 then
    (bd2 (f_X12_holdsPiece x2 s7) fun v12 s11 =>
    if v12 = 0 then
    (bd2 (f_X12_isRow x1 s11) fun v16 s15 =>
    if v16 = 0 then
    (f_X12_copy_76 x1 x2 x3 x4 x5 s15)
    else (bd2 (f_X12_isRow x2 s15) fun v40 s39 =>
    if v40 = 0 then
    (f_X12_copy_76 x1 x2 x3 x4 x5 s39)
    else ((rdI s39 263 8 x1).bind fun v41 =>
    (rdI s39 263 8 x2).bind fun v42 =>
    if v41 = v42 then
    (f_X12_copy_76 x1 x2 x3 x4 x5 s39)
    else (bd2 (f_X12_no (-2) s39) fun v44 s43 =>
    some (v44, s43)))))
    else (bd2 (f_X12_no (-2) s11) fun v14 s13 =>
    some (v14, s13)))
    else (bd2 (f_X12_no (-2) s7) fun v10 s9 =>
    some (v10, s9))))
theorem e_X12_copy {G : GP} {x1 : Int32} {x2 : Int32} {x3 : Int32} {x4 : Int32} {x5 : Int32} {σ : ST} {v : Int32} {s : ST}  (h : f_X12_copy x1 x2 x3 x4 x5 σ = some (v, s)) : E G mX12_copy (1, 21) 0 [.ref 247, .int x1, .int x2, .int x3, .int x4, .int x5, D0] [] (mem σ) (QI v s) := by
  unfold f_X12_copy at h
  refine E_aload_n (pc := 0) rfl dX12_copy_0 ?_
  refine E_iload_n (pc := 1) rfl dX12_copy_1 ?_
  obtain ⟨v2, s1, hp, h⟩ := bd2_some h
  refine E_callV (pc := 2) (As := [_]) (fc := (0, 0)) s12_172_12 oX12_isShelf dX12_copy_2 (mem_ob (ent_st MO247)) rfl rfl (Nat.le_of_ble_eq_true rfl) rfl rfl (by decide) (e_X12_isShelf hp) (fun rv_ M_ hq_ => ?_)
  obtain ⟨rfl, rfl⟩ := hq_
  refine T_if_eq (pc := 5) 16 dX12_copy_5 (by decide) h (fun h => ?_) (fun h => ?_)
  · refine E_aload_n (pc := 16) rfl dX12_copy_16 ?_
    refine E_im1 (pc := 17) dX12_copy_17 ?_
    obtain ⟨v4, s3, hp, h⟩ := bd2_some h
    refine E_callV (pc := 18) (As := [_]) (fc := (0, 0)) s12_175_12 oX12_no dX12_copy_18 (mem_ob (ent_st MO247)) rfl rfl (Nat.le_of_ble_eq_true rfl) rfl rfl (by decide) (e_X12_no hp) (fun rv_ M_ hq_ => ?_)
    obtain ⟨rfl, rfl⟩ := hq_
    exact E_ireturn (pc := 21) rfl rfl dX12_copy_21 (QI_of h)
  · refine E_aload_n (pc := 8) rfl dX12_copy_8 ?_
    refine E_iload_n (pc := 9) rfl dX12_copy_9 ?_
    obtain ⟨v6, s5, hp, h⟩ := bd2_some h
    refine E_callV (pc := 10) (As := [_]) (fc := (0, 0)) s12_172_12 oX12_isShelf dX12_copy_10 (mem_ob (ent_st MO247)) rfl rfl (Nat.le_of_ble_eq_true rfl) rfl rfl (by decide) (e_X12_isShelf hp) (fun rv_ M_ hq_ => ?_)
    obtain ⟨rfl, rfl⟩ := hq_
    refine T_if_ne (pc := 13) 22 dX12_copy_13 (by decide) h (fun h => ?_) (fun h => ?_)
    · refine E_aload_n (pc := 22) rfl dX12_copy_22 ?_
      refine E_iload_n (pc := 23) rfl dX12_copy_23 ?_
      obtain ⟨v8, s7, hp, h⟩ := bd2_some h
      refine E_callV (pc := 24) (As := [_]) (fc := (0, 0)) s12_185_12 oX12_holdsPiece dX12_copy_24 (mem_ob (ent_st MO247)) rfl rfl (Nat.le_of_ble_eq_true rfl) rfl rfl (by decide) (e_X12_holdsPiece hp) (fun rv_ M_ hq_ => ?_)
      obtain ⟨rfl, rfl⟩ := hq_
      refine T_if_ne (pc := 27) 69 dX12_copy_27 (by decide) h (fun h => ?_) (fun h => ?_)
      · refine E_aload_n (pc := 69) rfl dX12_copy_69 ?_
        refine E_bipush (pc := 70) (-2) (by decide) dX12_copy_70 ?_
        obtain ⟨v10, s9, hp, h⟩ := bd2_some h
        refine E_callV (pc := 72) (As := [_]) (fc := (0, 0)) s12_175_12 oX12_no dX12_copy_72 (mem_ob (ent_st MO247)) rfl rfl (Nat.le_of_ble_eq_true rfl) rfl rfl (by decide) (e_X12_no hp) (fun rv_ M_ hq_ => ?_)
        obtain ⟨rfl, rfl⟩ := hq_
        exact E_ireturn (pc := 75) rfl rfl dX12_copy_75 (QI_of h)
      · refine E_aload_n (pc := 30) rfl dX12_copy_30 ?_
        refine E_iload_n (pc := 31) rfl dX12_copy_31 ?_
        obtain ⟨v12, s11, hp, h⟩ := bd2_some h
        refine E_callV (pc := 32) (As := [_]) (fc := (0, 0)) s12_185_12 oX12_holdsPiece dX12_copy_32 (mem_ob (ent_st MO247)) rfl rfl (Nat.le_of_ble_eq_true rfl) rfl rfl (by decide) (e_X12_holdsPiece hp) (fun rv_ M_ hq_ => ?_)
        obtain ⟨rfl, rfl⟩ := hq_
        refine T_if_ne (pc := 35) 69 dX12_copy_35 (by decide) h (fun h => ?_) (fun h => ?_)
        · refine E_aload_n (pc := 69) rfl dX12_copy_69 ?_
          refine E_bipush (pc := 70) (-2) (by decide) dX12_copy_70 ?_
          obtain ⟨v14, s13, hp, h⟩ := bd2_some h
          refine E_callV (pc := 72) (As := [_]) (fc := (0, 0)) s12_175_12 oX12_no dX12_copy_72 (mem_ob (ent_st MO247)) rfl rfl (Nat.le_of_ble_eq_true rfl) rfl rfl (by decide) (e_X12_no hp) (fun rv_ M_ hq_ => ?_)
          obtain ⟨rfl, rfl⟩ := hq_
          exact E_ireturn (pc := 75) rfl rfl dX12_copy_75 (QI_of h)
        · refine E_aload_n (pc := 38) rfl dX12_copy_38 ?_
          refine E_iload_n (pc := 39) rfl dX12_copy_39 ?_
          obtain ⟨v16, s15, hp, h⟩ := bd2_some h
          refine E_callV (pc := 40) (As := [_]) (fc := (0, 0)) s12_179_12 oX12_isRow dX12_copy_40 (mem_ob (ent_st MO247)) rfl rfl (Nat.le_of_ble_eq_true rfl) rfl rfl (by decide) (e_X12_isRow hp) (fun rv_ M_ hq_ => ?_)
          obtain ⟨rfl, rfl⟩ := hq_
          refine T_if_eq (pc := 43) 76 dX12_copy_43 (by decide) h (fun h => ?_) (fun h => ?_)
          · refine e_X12_copy_76  h
          · refine E_aload_n (pc := 46) rfl dX12_copy_46 ?_
            refine E_iload_n (pc := 47) rfl dX12_copy_47 ?_
            obtain ⟨v40, s39, hp, h⟩ := bd2_some h
            refine E_callV (pc := 48) (As := [_]) (fc := (0, 0)) s12_179_12 oX12_isRow dX12_copy_48 (mem_ob (ent_st MO247)) rfl rfl (Nat.le_of_ble_eq_true rfl) rfl rfl (by decide) (e_X12_isRow hp) (fun rv_ M_ hq_ => ?_)
            obtain ⟨rfl, rfl⟩ := hq_
            refine T_if_eq (pc := 51) 76 dX12_copy_51 (by decide) h (fun h => ?_) (fun h => ?_)
            · refine e_X12_copy_76  h
            · refine E_aload_n (pc := 54) rfl dX12_copy_54 ?_
              refine R_getR (pc := 55) (b := 263) f12_55 dX12_copy_55 (ent_st MO247) (by decide) rfl rfl ?_
              refine E_iload_n (pc := 58) rfl dX12_copy_58 ?_
              refine T_iald (pc := 59) dX12_copy_59 (ent_st MA263) (by decide) h (fun v41 h => ?_)
              refine E_aload_n (pc := 60) rfl dX12_copy_60 ?_
              refine R_getR (pc := 61) (b := 263) f12_55 dX12_copy_61 (ent_st MO247) (by decide) rfl rfl ?_
              refine E_iload_n (pc := 64) rfl dX12_copy_64 ?_
              refine T_iald (pc := 65) dX12_copy_65 (ent_st MA263) (by decide) h (fun v42 h => ?_)
              refine T_icmp_eq (pc := 66) 76 dX12_copy_66 (by decide) h (fun h => ?_) (fun h => ?_)
              · refine e_X12_copy_76  h
              · refine E_aload_n (pc := 69) rfl dX12_copy_69 ?_
                refine E_bipush (pc := 70) (-2) (by decide) dX12_copy_70 ?_
                obtain ⟨v44, s43, hp, h⟩ := bd2_some h
                refine E_callV (pc := 72) (As := [_]) (fc := (0, 0)) s12_175_12 oX12_no dX12_copy_72 (mem_ob (ent_st MO247)) rfl rfl (Nat.le_of_ble_eq_true rfl) rfl rfl (by decide) (e_X12_no hp) (fun rv_ M_ hq_ => ?_)
                obtain ⟨rfl, rfl⟩ := hq_
                exact E_ireturn (pc := 75) rfl rfl dX12_copy_75 (QI_of h)
    · refine E_aload_n (pc := 16) rfl dX12_copy_16 ?_
      refine E_im1 (pc := 17) dX12_copy_17 ?_
      obtain ⟨v46, s45, hp, h⟩ := bd2_some h
      refine E_callV (pc := 18) (As := [_]) (fc := (0, 0)) s12_175_12 oX12_no dX12_copy_18 (mem_ob (ent_st MO247)) rfl rfl (Nat.le_of_ble_eq_true rfl) rfl rfl (by decide) (e_X12_no hp) (fun rv_ M_ hq_ => ?_)
      obtain ⟨rfl, rfl⟩ := hq_
      exact E_ireturn (pc := 21) rfl rfl dX12_copy_21 (QI_of h)
noncomputable def f_X12_element (x1 : Int32) (x2 : Int32) (σ : ST) : Option (Int64 × ST) :=
    bd2 (f_X12_isShelf x1 σ) fun v2 s1 =>
    if v2 = 0 then
    (some ((0), s1))
    else (bd2 (f_X12_isRow x1 s1) fun v4 s3 =>
    if v4 = 0 then
    (some ((0), s3))
    else (if x2 < 0 then
    (some ((0), s3))
    else ((rdI s3 264 8 x1).bind fun v5 =>
    if x2 < v5 then
    ((rdJ s3 265 480 (((nI 60) * x1) + x2)).bind fun v6 =>
    some (v6, s3))
    else (some ((0), s3)))))
theorem e_X12_element {G : GP} {x1 : Int32} {x2 : Int32} {σ : ST} {v : Int64} {s : ST}  (h : f_X12_element x1 x2 σ = some (v, s)) : E G mX12_element (1, 21) 0 [.ref 247, .int x1, .int x2] [] (mem σ) (QJ v s) := by
  unfold f_X12_element at h
  refine E_aload_n (pc := 0) rfl dX12_element_0 ?_
  refine E_iload_n (pc := 1) rfl dX12_element_1 ?_
  obtain ⟨v2, s1, hp, h⟩ := bd2_some h
  refine E_callV (pc := 2) (As := [_]) (fc := (0, 0)) s12_172_12 oX12_isShelf dX12_element_2 (mem_ob (ent_st MO247)) rfl rfl (Nat.le_of_ble_eq_true rfl) rfl rfl (by decide) (e_X12_isShelf hp) (fun rv_ M_ hq_ => ?_)
  obtain ⟨rfl, rfl⟩ := hq_
  refine T_if_eq (pc := 5) 30 dX12_element_5 (by decide) h (fun h => ?_) (fun h => ?_)
  · refine E_lconst (pc := 30) 0 rfl dX12_element_30 ?_
    exact E_lreturn (pc := 31) rfl dX12_element_31 (QJ_of h)
  · refine E_aload_n (pc := 8) rfl dX12_element_8 ?_
    refine E_iload_n (pc := 9) rfl dX12_element_9 ?_
    obtain ⟨v4, s3, hp, h⟩ := bd2_some h
    refine E_callV (pc := 10) (As := [_]) (fc := (0, 0)) s12_179_12 oX12_isRow dX12_element_10 (mem_ob (ent_st MO247)) rfl rfl (Nat.le_of_ble_eq_true rfl) rfl rfl (by decide) (e_X12_isRow hp) (fun rv_ M_ hq_ => ?_)
    obtain ⟨rfl, rfl⟩ := hq_
    refine T_if_eq (pc := 13) 30 dX12_element_13 (by decide) h (fun h => ?_) (fun h => ?_)
    · refine E_lconst (pc := 30) 0 rfl dX12_element_30 ?_
      exact E_lreturn (pc := 31) rfl dX12_element_31 (QJ_of h)
    · refine E_iload_n (pc := 16) rfl dX12_element_16 ?_
      refine T_if_lt (pc := 17) 30 dX12_element_17 (by decide) h (fun h => ?_) (fun h => ?_)
      · refine E_lconst (pc := 30) 0 rfl dX12_element_30 ?_
        exact E_lreturn (pc := 31) rfl dX12_element_31 (QJ_of h)
      · refine E_iload_n (pc := 20) rfl dX12_element_20 ?_
        refine E_aload_n (pc := 21) rfl dX12_element_21 ?_
        refine R_getR (pc := 22) (b := 264) f12_58 dX12_element_22 (ent_st MO247) (by decide) rfl rfl ?_
        refine E_iload_n (pc := 25) rfl dX12_element_25 ?_
        refine T_iald (pc := 26) dX12_element_26 (ent_st MA264) (by decide) h (fun v5 h => ?_)
        refine T_icmp_lt (pc := 27) 32 dX12_element_27 (by decide) h (fun h => ?_) (fun h => ?_)
        · refine E_aload_n (pc := 32) rfl dX12_element_32 ?_
          refine R_getR (pc := 33) (b := 265) f12_61 dX12_element_33 (ent_st MO247) (by decide) rfl rfl ?_
          refine E_bipush (pc := 36) (nI 60) (by decide) dX12_element_36 ?_
          refine E_iload_n (pc := 38) rfl dX12_element_38 ?_
          refine E_imul (pc := 39) dX12_element_39 ?_
          refine E_iload_n (pc := 40) rfl dX12_element_40 ?_
          refine E_iadd (pc := 41) dX12_element_41 ?_
          refine T_jald (pc := 42) dX12_element_42 (ent_st MA265) (by decide) h (fun v6 h => ?_)
          exact E_lreturn (pc := 43) rfl dX12_element_43 (QJ_of h)
        · refine E_lconst (pc := 30) 0 rfl dX12_element_30 ?_
          exact E_lreturn (pc := 31) rfl dX12_element_31 (QJ_of h)
noncomputable def f_X12_show_27 (x1 : Int32) (x2 : Int32) (sg : ST) : Option (Int32 × ST) :=
    (wrI sg 263 8 x1 x2).bind fun s5 =>
    if x2 < 0 then
    (some ((nI 0), s5))
    else (some ((nI 1), s5))
theorem e_X12_show_27 {G : GP} {x1 : Int32} {x2 : Int32} {sg : ST} {v : Int32} {s : ST}  (h : f_X12_show_27 x1 x2 sg = some (v, s)) : E G mX12_show (1, 21) 27 [.ref 247, .int x1, .int x2] [] (mem sg) (QI v s) := by
  unfold f_X12_show_27 at h
  refine E_aload_n (pc := 27) rfl dX12_show_27 ?_
  refine R_getR (pc := 28) (b := 263) f12_55 dX12_show_28 (ent_st MO247) (by decide) rfl rfl ?_
  refine E_iload_n (pc := 31) rfl dX12_show_31 ?_
  refine E_iload_n (pc := 32) rfl dX12_show_32 ?_
  refine T_iast (pc := 33) dX12_show_33 (ent_st MA263) (by decide) h (fun s5 h => ?_)
  refine E_iload_n (pc := 34) rfl dX12_show_34 ?_
  refine T_if_ge (pc := 35) 42 dX12_show_35 (by decide) h (fun h => ?_) (fun h => ?_)
  · refine E_iconst (pc := 42) 1 rfl dX12_show_42 ?_
    exact E_ireturn (pc := 43) rfl rfl dX12_show_43 (QI_of h)
  · refine E_iconst (pc := 38) 0 rfl dX12_show_38 ?_
    refine E_goto (pc := 39) 43 (by decide) dX12_show_39 ?_
    exact E_ireturn (pc := 43) rfl rfl dX12_show_43 (QI_of h)
noncomputable def f_X12_show (x1 : Int32) (x2 : Int32) (σ : ST) : Option (Int32 × ST) :=
    bd2 (f_X12_isShelf x1 σ) fun v2 s1 =>
    if v2 = 0 then
    (bd2 (f_X12_no (-1) s1) fun v4 s3 =>
    some (v4, s3))
    else (if x2 = (-1) then
    (f_X12_show_27 x1 x2 s1)
    else (bd2 (f_X12_isPiece x2 s1) fun v7 s6 =>
    if v7 = 0 then
    (bd2 (f_X12_no (-1) s6) fun v9 s8 =>
    some (v9, s8))
    else (f_X12_show_27 x1 x2 s6)))
theorem e_X12_show {G : GP} {x1 : Int32} {x2 : Int32} {σ : ST} {v : Int32} {s : ST}  (h : f_X12_show x1 x2 σ = some (v, s)) : E G mX12_show (1, 21) 0 [.ref 247, .int x1, .int x2] [] (mem σ) (QI v s) := by
  unfold f_X12_show at h
  refine E_aload_n (pc := 0) rfl dX12_show_0 ?_
  refine E_iload_n (pc := 1) rfl dX12_show_1 ?_
  obtain ⟨v2, s1, hp, h⟩ := bd2_some h
  refine E_callV (pc := 2) (As := [_]) (fc := (0, 0)) s12_172_12 oX12_isShelf dX12_show_2 (mem_ob (ent_st MO247)) rfl rfl (Nat.le_of_ble_eq_true rfl) rfl rfl (by decide) (e_X12_isShelf hp) (fun rv_ M_ hq_ => ?_)
  obtain ⟨rfl, rfl⟩ := hq_
  refine T_if_eq (pc := 5) 21 dX12_show_5 (by decide) h (fun h => ?_) (fun h => ?_)
  · refine E_aload_n (pc := 21) rfl dX12_show_21 ?_
    refine E_im1 (pc := 22) dX12_show_22 ?_
    obtain ⟨v4, s3, hp, h⟩ := bd2_some h
    refine E_callV (pc := 23) (As := [_]) (fc := (0, 0)) s12_175_12 oX12_no dX12_show_23 (mem_ob (ent_st MO247)) rfl rfl (Nat.le_of_ble_eq_true rfl) rfl rfl (by decide) (e_X12_no hp) (fun rv_ M_ hq_ => ?_)
    obtain ⟨rfl, rfl⟩ := hq_
    exact E_ireturn (pc := 26) rfl rfl dX12_show_26 (QI_of h)
  · refine E_iload_n (pc := 8) rfl dX12_show_8 ?_
    refine E_im1 (pc := 9) dX12_show_9 ?_
    refine T_icmp_eq (pc := 10) 27 dX12_show_10 (by decide) h (fun h => ?_) (fun h => ?_)
    · refine e_X12_show_27  h
    · refine E_aload_n (pc := 13) rfl dX12_show_13 ?_
      refine E_iload_n (pc := 14) rfl dX12_show_14 ?_
      obtain ⟨v7, s6, hp, h⟩ := bd2_some h
      refine E_callV (pc := 15) (As := [_]) (fc := (0, 0)) s12_188_12 oX12_isPiece dX12_show_15 (mem_ob (ent_st MO247)) rfl rfl (Nat.le_of_ble_eq_true rfl) rfl rfl (by decide) (e_X12_isPiece hp) (fun rv_ M_ hq_ => ?_)
      obtain ⟨rfl, rfl⟩ := hq_
      refine T_if_ne (pc := 18) 27 dX12_show_18 (by decide) h (fun h => ?_) (fun h => ?_)
      · refine e_X12_show_27  h
      · refine E_aload_n (pc := 21) rfl dX12_show_21 ?_
        refine E_im1 (pc := 22) dX12_show_22 ?_
        obtain ⟨v9, s8, hp, h⟩ := bd2_some h
        refine E_callV (pc := 23) (As := [_]) (fc := (0, 0)) s12_175_12 oX12_no dX12_show_23 (mem_ob (ent_st MO247)) rfl rfl (Nat.le_of_ble_eq_true rfl) rfl rfl (by decide) (e_X12_no hp) (fun rv_ M_ hq_ => ?_)
        obtain ⟨rfl, rfl⟩ := hq_
        exact E_ireturn (pc := 26) rfl rfl dX12_show_26 (QI_of h)
noncomputable def f_X12_holds (x1 : Int32) (σ : ST) : Option (Int32 × ST) :=
    bd2 (f_X12_isShelf x1 σ) fun v2 s1 =>
    if v2 = 0 then
    (some ((-1), s1))
    else ((rdI s1 263 8 x1).bind fun v3 =>
    some (v3, s1))
theorem e_X12_holds {G : GP} {x1 : Int32} {σ : ST} {v : Int32} {s : ST}  (h : f_X12_holds x1 σ = some (v, s)) : E G mX12_holds (1, 21) 0 [.ref 247, .int x1] [] (mem σ) (QI v s) := by
  unfold f_X12_holds at h
  refine E_aload_n (pc := 0) rfl dX12_holds_0 ?_
  refine E_iload_n (pc := 1) rfl dX12_holds_1 ?_
  obtain ⟨v2, s1, hp, h⟩ := bd2_some h
  refine E_callV (pc := 2) (As := [_]) (fc := (0, 0)) s12_172_12 oX12_isShelf dX12_holds_2 (mem_ob (ent_st MO247)) rfl rfl (Nat.le_of_ble_eq_true rfl) rfl rfl (by decide) (e_X12_isShelf hp) (fun rv_ M_ hq_ => ?_)
  obtain ⟨rfl, rfl⟩ := hq_
  refine T_if_eq (pc := 5) 17 dX12_holds_5 (by decide) h (fun h => ?_) (fun h => ?_)
  · refine E_im1 (pc := 17) dX12_holds_17 ?_
    exact E_ireturn (pc := 18) rfl rfl dX12_holds_18 (QI_of h)
  · refine E_aload_n (pc := 8) rfl dX12_holds_8 ?_
    refine R_getR (pc := 9) (b := 263) f12_55 dX12_holds_9 (ent_st MO247) (by decide) rfl rfl ?_
    refine E_iload_n (pc := 12) rfl dX12_holds_12 ?_
    refine T_iald (pc := 13) dX12_holds_13 (ent_st MA263) (by decide) h (fun v3 h => ?_)
    refine E_goto (pc := 14) 18 (by decide) dX12_holds_14 ?_
    exact E_ireturn (pc := 18) rfl rfl dX12_holds_18 (QI_of h)
noncomputable def f_X12_says_97 (x2 : Int32) (x3 : Int32) (sg : ST) : Option (Int32 × ST) :=
    if x2 = 0 then
    ((rdI sg 260 16 x3).bind fun v13 =>
    some (v13, sg))
    else (if x2 = (nI 2) then
    ((rdI sg 259 16 x3).bind fun v12 =>
    some (v12, sg))
    else ((rdI sg 258 16 x3).bind fun v11 =>
    some (v11, sg)))
theorem e_X12_says_97 {G : GP} {x2 : Int32} {x3 : Int32} {sg : ST} {v : Int32} {s : ST}  (h : f_X12_says_97 x2 x3 sg = some (v, s)) : E G mX12_says (1, 21) 97 [.ref 247, D0, .int x2, .int x3] [] (mem sg) (QI v s) := by
  unfold f_X12_says_97 at h
  refine E_iload_n (pc := 97) rfl dX12_says_97 ?_
  refine T_if_ne (pc := 98) 110 dX12_says_98 (by decide) h (fun h => ?_) (fun h => ?_)
  · refine E_iload_n (pc := 110) rfl dX12_says_110 ?_
    refine E_iconst (pc := 111) 2 rfl dX12_says_111 ?_
    refine T_icmp_ne (pc := 112) 124 dX12_says_112 (by decide) h (fun h => ?_) (fun h => ?_)
    · refine E_aload_n (pc := 124) rfl dX12_says_124 ?_
      refine R_getR (pc := 125) (b := 258) f12_40 dX12_says_125 (ent_st MO247) (by decide) rfl rfl ?_
      refine E_iload_n (pc := 128) rfl dX12_says_128 ?_
      refine T_iald (pc := 129) dX12_says_129 (ent_st MA258) (by decide) h (fun v11 h => ?_)
      exact E_ireturn (pc := 130) rfl rfl dX12_says_130 (QI_of h)
    · refine E_aload_n (pc := 115) rfl dX12_says_115 ?_
      refine R_getR (pc := 116) (b := 259) f12_43 dX12_says_116 (ent_st MO247) (by decide) rfl rfl ?_
      refine E_iload_n (pc := 119) rfl dX12_says_119 ?_
      refine T_iald (pc := 120) dX12_says_120 (ent_st MA259) (by decide) h (fun v12 h => ?_)
      refine E_goto (pc := 121) 130 (by decide) dX12_says_121 ?_
      exact E_ireturn (pc := 130) rfl rfl dX12_says_130 (QI_of h)
  · refine E_aload_n (pc := 101) rfl dX12_says_101 ?_
    refine R_getR (pc := 102) (b := 260) f12_46 dX12_says_102 (ent_st MO247) (by decide) rfl rfl ?_
    refine E_iload_n (pc := 105) rfl dX12_says_105 ?_
    refine T_iald (pc := 106) dX12_says_106 (ent_st MA260) (by decide) h (fun v13 h => ?_)
    refine E_goto (pc := 107) 130 (by decide) dX12_says_107 ?_
    exact E_ireturn (pc := 130) rfl rfl dX12_says_130 (QI_of h)
noncomputable def f_X12_says (x1 : Int32) (x2 : Int32) (σ : ST) : Option (Int32 × ST) :=
    bd2 (f_X12_isShelf x1 σ) fun v2 s1 =>
    if v2 = 0 then
    (bd2 (f_X12_no (-1) s1) fun v4 s3 =>
    some (v4, s3))
    else (if x2 < 0 then
    (bd2 (f_X12_no (-1) s1) fun v6 s5 =>
    some (v6, s5))
    else (if (nI 3) < x2 then
    (bd2 (f_X12_no (-1) s1) fun v25 s24 =>
    some (v25, s24))
    else (bd2 (f_X12_isRow x1 s1) fun v8 s7 =>
    if v8 = 0 then
    ((rdI s7 263 8 x1).bind fun v9 =>
    if v9 < 0 then
    (bd2 (f_X12_no (-3) s7) fun v21 s20 =>
    some (v21, s20))
    else ((rdI s7 263 8 x1).bind fun v10 =>
    if x2 = 0 then
    (f_X12_says_97 x2 v10 s7)
    else ((rdI s7 255 16 v10).bind fun v14 =>
    if x2 = v14 then
    (f_X12_says_97 x2 v10 s7)
    else (if x2 = (nI 1) then
    ((rdI s7 255 16 v10).bind fun v17 =>
    if v17 = (nI 3) then
    (f_X12_says_97 x2 v10 s7)
    else (bd2 (f_X12_no (-2) s7) fun v19 s18 =>
    some (v19, s18)))
    else (bd2 (f_X12_no (-2) s7) fun v16 s15 =>
    some (v16, s15))))))
    else (bd2 (f_X12_no (-2) s7) fun v23 s22 =>
    some (v23, s22)))))
theorem e_X12_says {G : GP} {x1 : Int32} {x2 : Int32} {σ : ST} {v : Int32} {s : ST}  (h : f_X12_says x1 x2 σ = some (v, s)) : E G mX12_says (1, 21) 0 [.ref 247, .int x1, .int x2, D0] [] (mem σ) (QI v s) := by
  unfold f_X12_says at h
  refine E_aload_n (pc := 0) rfl dX12_says_0 ?_
  refine E_iload_n (pc := 1) rfl dX12_says_1 ?_
  obtain ⟨v2, s1, hp, h⟩ := bd2_some h
  refine E_callV (pc := 2) (As := [_]) (fc := (0, 0)) s12_172_12 oX12_isShelf dX12_says_2 (mem_ob (ent_st MO247)) rfl rfl (Nat.le_of_ble_eq_true rfl) rfl rfl (by decide) (e_X12_isShelf hp) (fun rv_ M_ hq_ => ?_)
  obtain ⟨rfl, rfl⟩ := hq_
  refine T_if_eq (pc := 5) 17 dX12_says_5 (by decide) h (fun h => ?_) (fun h => ?_)
  · refine E_aload_n (pc := 17) rfl dX12_says_17 ?_
    refine E_im1 (pc := 18) dX12_says_18 ?_
    obtain ⟨v4, s3, hp, h⟩ := bd2_some h
    refine E_callV (pc := 19) (As := [_]) (fc := (0, 0)) s12_175_12 oX12_no dX12_says_19 (mem_ob (ent_st MO247)) rfl rfl (Nat.le_of_ble_eq_true rfl) rfl rfl (by decide) (e_X12_no hp) (fun rv_ M_ hq_ => ?_)
    obtain ⟨rfl, rfl⟩ := hq_
    exact E_ireturn (pc := 22) rfl rfl dX12_says_22 (QI_of h)
  · refine E_iload_n (pc := 8) rfl dX12_says_8 ?_
    refine T_if_lt (pc := 9) 17 dX12_says_9 (by decide) h (fun h => ?_) (fun h => ?_)
    · refine E_aload_n (pc := 17) rfl dX12_says_17 ?_
      refine E_im1 (pc := 18) dX12_says_18 ?_
      obtain ⟨v6, s5, hp, h⟩ := bd2_some h
      refine E_callV (pc := 19) (As := [_]) (fc := (0, 0)) s12_175_12 oX12_no dX12_says_19 (mem_ob (ent_st MO247)) rfl rfl (Nat.le_of_ble_eq_true rfl) rfl rfl (by decide) (e_X12_no hp) (fun rv_ M_ hq_ => ?_)
      obtain ⟨rfl, rfl⟩ := hq_
      exact E_ireturn (pc := 22) rfl rfl dX12_says_22 (QI_of h)
    · refine E_iload_n (pc := 12) rfl dX12_says_12 ?_
      refine E_iconst (pc := 13) 3 rfl dX12_says_13 ?_
      refine T_icmp_le (pc := 14) 23 dX12_says_14 (by decide) h (fun h => ?_) (fun h => ?_)
      · refine E_aload_n (pc := 23) rfl dX12_says_23 ?_
        refine E_iload_n (pc := 24) rfl dX12_says_24 ?_
        obtain ⟨v8, s7, hp, h⟩ := bd2_some h
        refine E_callV (pc := 25) (As := [_]) (fc := (0, 0)) s12_179_12 oX12_isRow dX12_says_25 (mem_ob (ent_st MO247)) rfl rfl (Nat.le_of_ble_eq_true rfl) rfl rfl (by decide) (e_X12_isRow hp) (fun rv_ M_ hq_ => ?_)
        obtain ⟨rfl, rfl⟩ := hq_
        refine T_if_eq (pc := 28) 38 dX12_says_28 (by decide) h (fun h => ?_) (fun h => ?_)
        · refine E_aload_n (pc := 38) rfl dX12_says_38 ?_
          refine R_getR (pc := 39) (b := 263) f12_55 dX12_says_39 (ent_st MO247) (by decide) rfl rfl ?_
          refine E_iload_n (pc := 42) rfl dX12_says_42 ?_
          refine T_iald (pc := 43) dX12_says_43 (ent_st MA263) (by decide) h (fun v9 h => ?_)
          refine T_if_ge (pc := 44) 54 dX12_says_44 (by decide) h (fun h => ?_) (fun h => ?_)
          · refine E_aload_n (pc := 54) rfl dX12_says_54 ?_
            refine R_getR (pc := 55) (b := 263) f12_55 dX12_says_55 (ent_st MO247) (by decide) rfl rfl ?_
            refine E_iload_n (pc := 58) rfl dX12_says_58 ?_
            refine T_iald (pc := 59) dX12_says_59 (ent_st MA263) (by decide) h (fun v10 h => ?_)
            refine E_istore_n (pc := 60) (L2 := [_, _, _, _]) rfl rfl dX12_says_60 ?_
            refine E_iload_n (pc := 61) rfl dX12_says_61 ?_
            refine T_if_eq (pc := 62) 97 dX12_says_62 (by decide) h (fun h => ?_) (fun h => ?_)
            · refine E_kp [true, false, true, true] (L2 := [_, D0, _, _]) rfl rfl ?_
              refine e_X12_says_97  h
            · refine E_iload_n (pc := 65) rfl dX12_says_65 ?_
              refine E_aload_n (pc := 66) rfl dX12_says_66 ?_
              refine R_getR (pc := 67) (b := 255) f12_31 dX12_says_67 (ent_st MO247) (by decide) rfl rfl ?_
              refine E_iload_n (pc := 70) rfl dX12_says_70 ?_
              refine T_iald (pc := 71) dX12_says_71 (ent_st MA255) (by decide) h (fun v14 h => ?_)
              refine T_icmp_eq (pc := 72) 97 dX12_says_72 (by decide) h (fun h => ?_) (fun h => ?_)
              · refine E_kp [true, false, true, true] (L2 := [_, D0, _, _]) rfl rfl ?_
                refine e_X12_says_97  h
              · refine E_iload_n (pc := 75) rfl dX12_says_75 ?_
                refine E_iconst (pc := 76) 1 rfl dX12_says_76 ?_
                refine T_icmp_ne (pc := 77) 90 dX12_says_77 (by decide) h (fun h => ?_) (fun h => ?_)
                · refine E_aload_n (pc := 90) rfl dX12_says_90 ?_
                  refine E_bipush (pc := 91) (-2) (by decide) dX12_says_91 ?_
                  obtain ⟨v16, s15, hp, h⟩ := bd2_some h
                  refine E_callV (pc := 93) (As := [_]) (fc := (0, 0)) s12_175_12 oX12_no dX12_says_93 (mem_ob (ent_st MO247)) rfl rfl (Nat.le_of_ble_eq_true rfl) rfl rfl (by decide) (e_X12_no hp) (fun rv_ M_ hq_ => ?_)
                  obtain ⟨rfl, rfl⟩ := hq_
                  exact E_ireturn (pc := 96) rfl rfl dX12_says_96 (QI_of h)
                · refine E_aload_n (pc := 80) rfl dX12_says_80 ?_
                  refine R_getR (pc := 81) (b := 255) f12_31 dX12_says_81 (ent_st MO247) (by decide) rfl rfl ?_
                  refine E_iload_n (pc := 84) rfl dX12_says_84 ?_
                  refine T_iald (pc := 85) dX12_says_85 (ent_st MA255) (by decide) h (fun v17 h => ?_)
                  refine E_iconst (pc := 86) 3 rfl dX12_says_86 ?_
                  refine T_icmp_eq (pc := 87) 97 dX12_says_87 (by decide) h (fun h => ?_) (fun h => ?_)
                  · refine E_kp [true, false, true, true] (L2 := [_, D0, _, _]) rfl rfl ?_
                    refine e_X12_says_97  h
                  · refine E_aload_n (pc := 90) rfl dX12_says_90 ?_
                    refine E_bipush (pc := 91) (-2) (by decide) dX12_says_91 ?_
                    obtain ⟨v19, s18, hp, h⟩ := bd2_some h
                    refine E_callV (pc := 93) (As := [_]) (fc := (0, 0)) s12_175_12 oX12_no dX12_says_93 (mem_ob (ent_st MO247)) rfl rfl (Nat.le_of_ble_eq_true rfl) rfl rfl (by decide) (e_X12_no hp) (fun rv_ M_ hq_ => ?_)
                    obtain ⟨rfl, rfl⟩ := hq_
                    exact E_ireturn (pc := 96) rfl rfl dX12_says_96 (QI_of h)
          · refine E_aload_n (pc := 47) rfl dX12_says_47 ?_
            refine E_bipush (pc := 48) (-3) (by decide) dX12_says_48 ?_
            obtain ⟨v21, s20, hp, h⟩ := bd2_some h
            refine E_callV (pc := 50) (As := [_]) (fc := (0, 0)) s12_175_12 oX12_no dX12_says_50 (mem_ob (ent_st MO247)) rfl rfl (Nat.le_of_ble_eq_true rfl) rfl rfl (by decide) (e_X12_no hp) (fun rv_ M_ hq_ => ?_)
            obtain ⟨rfl, rfl⟩ := hq_
            exact E_ireturn (pc := 53) rfl rfl dX12_says_53 (QI_of h)
        · refine E_aload_n (pc := 31) rfl dX12_says_31 ?_
          refine E_bipush (pc := 32) (-2) (by decide) dX12_says_32 ?_
          obtain ⟨v23, s22, hp, h⟩ := bd2_some h
          refine E_callV (pc := 34) (As := [_]) (fc := (0, 0)) s12_175_12 oX12_no dX12_says_34 (mem_ob (ent_st MO247)) rfl rfl (Nat.le_of_ble_eq_true rfl) rfl rfl (by decide) (e_X12_no hp) (fun rv_ M_ hq_ => ?_)
          obtain ⟨rfl, rfl⟩ := hq_
          exact E_ireturn (pc := 37) rfl rfl dX12_says_37 (QI_of h)
      · refine E_aload_n (pc := 17) rfl dX12_says_17 ?_
        refine E_im1 (pc := 18) dX12_says_18 ?_
        obtain ⟨v25, s24, hp, h⟩ := bd2_some h
        refine E_callV (pc := 19) (As := [_]) (fc := (0, 0)) s12_175_12 oX12_no dX12_says_19 (mem_ob (ent_st MO247)) rfl rfl (Nat.le_of_ble_eq_true rfl) rfl rfl (by decide) (e_X12_no hp) (fun rv_ M_ hq_ => ?_)
        obtain ⟨rfl, rfl⟩ := hq_
        exact E_ireturn (pc := 22) rfl rfl dX12_says_22 (QI_of h)
noncomputable def f_X12_letter (x1 : Int32) (x2 : Int32) (σ : ST) : Option (Int32 × ST) :=
    (rdI σ 264 8 x1).bind fun v1 =>
    if x2 < v1 then
    ((rdJ σ 265 480 (((nI 60) * x1) + x2)).bind fun v2 =>
    some (((v2).toInt32), σ))
    else (some ((nI 0), σ))
theorem e_X12_letter {G : GP} {x1 : Int32} {x2 : Int32} {σ : ST} {v : Int32} {s : ST}  (h : f_X12_letter x1 x2 σ = some (v, s)) : E G mX12_letter (0, 0) 0 [.ref 247, .int x1, .int x2] [] (mem σ) (QI v s) := by
  unfold f_X12_letter at h
  refine E_iload_n (pc := 0) rfl dX12_letter_0 ?_
  refine E_aload_n (pc := 1) rfl dX12_letter_1 ?_
  refine R_getR (pc := 2) (b := 264) f12_58 dX12_letter_2 (ent_st MO247) (by decide) rfl rfl ?_
  refine E_iload_n (pc := 5) rfl dX12_letter_5 ?_
  refine T_iald (pc := 6) dX12_letter_6 (ent_st MA264) (by decide) h (fun v1 h => ?_)
  refine T_icmp_ge (pc := 7) 25 dX12_letter_7 (by decide) h (fun h => ?_) (fun h => ?_)
  · refine E_iconst (pc := 25) 0 rfl dX12_letter_25 ?_
    exact E_ireturn (pc := 26) rfl rfl dX12_letter_26 (QI_of h)
  · refine E_aload_n (pc := 10) rfl dX12_letter_10 ?_
    refine R_getR (pc := 11) (b := 265) f12_61 dX12_letter_11 (ent_st MO247) (by decide) rfl rfl ?_
    refine E_bipush (pc := 14) (nI 60) (by decide) dX12_letter_14 ?_
    refine E_iload_n (pc := 16) rfl dX12_letter_16 ?_
    refine E_imul (pc := 17) dX12_letter_17 ?_
    refine E_iload_n (pc := 18) rfl dX12_letter_18 ?_
    refine E_iadd (pc := 19) dX12_letter_19 ?_
    refine T_jald (pc := 20) dX12_letter_20 (ent_st MA265) (by decide) h (fun v2 h => ?_)
    refine E_l2i (pc := 21) dX12_letter_21 ?_
    refine E_goto (pc := 22) 26 (by decide) dX12_letter_22 ?_
    exact E_ireturn (pc := 26) rfl rfl dX12_letter_26 (QI_of h)
noncomputable def f_X12_isDigitOf (x1 : Int32) (x2 : Int32) (σ : ST) : Option (Int32 × ST) :=
    if (x1 - (nI 48)) < 0 then
    (some ((nI 0), σ))
    else (if (x1 - (nI 48)) < (nI 10) then
    (bd2 (f_X12_isThing (x1 - (nI 48)) σ) fun v2 s1 =>
    if v2 = 0 then
    (some ((nI 0), s1))
    else (if x2 < 0 then
    (some ((nI 1), s1))
    else ((rdI s1 248 10 (x1 - (nI 48))).bind fun v3 =>
    if v3 = x2 then
    (some ((nI 1), s1))
    else (some ((nI 0), s1)))))
    else (some ((nI 0), σ)))
theorem e_X12_isDigitOf {G : GP} {x1 : Int32} {x2 : Int32} {σ : ST} {v : Int32} {s : ST}  (h : f_X12_isDigitOf x1 x2 σ = some (v, s)) : E G mX12_isDigitOf (1, 21) 0 [.ref 247, .int x1, .int x2, D0] [] (mem σ) (QI v s) := by
  unfold f_X12_isDigitOf at h
  refine E_iload_n (pc := 0) rfl dX12_isDigitOf_0 ?_
  refine E_bipush (pc := 1) (nI 48) (by decide) dX12_isDigitOf_1 ?_
  refine E_isub (pc := 3) dX12_isDigitOf_3 ?_
  refine E_istore_n (pc := 4) (L2 := [_, _, _, _]) rfl rfl dX12_isDigitOf_4 ?_
  refine E_iload_n (pc := 5) rfl dX12_isDigitOf_5 ?_
  refine T_if_lt (pc := 6) 41 dX12_isDigitOf_6 (by decide) h (fun h => ?_) (fun h => ?_)
  · refine E_iconst (pc := 41) 0 rfl dX12_isDigitOf_41 ?_
    exact E_ireturn (pc := 42) rfl (by decide) dX12_isDigitOf_42 (QI_of h)
  · refine E_iload_n (pc := 9) rfl dX12_isDigitOf_9 ?_
    refine E_bipush (pc := 10) (nI 10) (by decide) dX12_isDigitOf_10 ?_
    refine T_icmp_ge (pc := 12) 41 dX12_isDigitOf_12 (by decide) h (fun h => ?_) (fun h => ?_)
    · refine E_iconst (pc := 41) 0 rfl dX12_isDigitOf_41 ?_
      exact E_ireturn (pc := 42) rfl (by decide) dX12_isDigitOf_42 (QI_of h)
    · refine E_aload_n (pc := 15) rfl dX12_isDigitOf_15 ?_
      refine E_iload_n (pc := 16) rfl dX12_isDigitOf_16 ?_
      obtain ⟨v2, s1, hp, h⟩ := bd2_some h
      refine E_callV (pc := 17) (As := [_]) (fc := (0, 0)) s12_191_12 oX12_isThing dX12_isDigitOf_17 (mem_ob (ent_st MO247)) rfl rfl (Nat.le_of_ble_eq_true rfl) rfl rfl (by decide) (e_X12_isThing hp) (fun rv_ M_ hq_ => ?_)
      obtain ⟨rfl, rfl⟩ := hq_
      refine T_if_eq (pc := 20) 41 dX12_isDigitOf_20 (by decide) h (fun h => ?_) (fun h => ?_)
      · refine E_iconst (pc := 41) 0 rfl dX12_isDigitOf_41 ?_
        exact E_ireturn (pc := 42) rfl (by decide) dX12_isDigitOf_42 (QI_of h)
      · refine E_iload_n (pc := 23) rfl dX12_isDigitOf_23 ?_
        refine T_if_lt (pc := 24) 37 dX12_isDigitOf_24 (by decide) h (fun h => ?_) (fun h => ?_)
        · refine E_iconst (pc := 37) 1 rfl dX12_isDigitOf_37 ?_
          refine E_goto (pc := 38) 42 (by decide) dX12_isDigitOf_38 ?_
          exact E_ireturn (pc := 42) rfl (by decide) dX12_isDigitOf_42 (QI_of h)
        · refine E_aload_n (pc := 27) rfl dX12_isDigitOf_27 ?_
          refine R_getR (pc := 28) (b := 248) f12_7 dX12_isDigitOf_28 (ent_st MO247) (by decide) rfl rfl ?_
          refine E_iload_n (pc := 31) rfl dX12_isDigitOf_31 ?_
          refine T_iald (pc := 32) dX12_isDigitOf_32 (ent_st MA248) (by decide) h (fun v3 h => ?_)
          refine E_iload_n (pc := 33) rfl dX12_isDigitOf_33 ?_
          refine T_icmp_ne (pc := 34) 41 dX12_isDigitOf_34 (by decide) h (fun h => ?_) (fun h => ?_)
          · refine E_iconst (pc := 41) 0 rfl dX12_isDigitOf_41 ?_
            exact E_ireturn (pc := 42) rfl (by decide) dX12_isDigitOf_42 (QI_of h)
          · refine E_iconst (pc := 37) 1 rfl dX12_isDigitOf_37 ?_
            refine E_goto (pc := 38) 42 (by decide) dX12_isDigitOf_38 ?_
            exact E_ireturn (pc := 42) rfl (by decide) dX12_isDigitOf_42 (QI_of h)
noncomputable def f_X12_overCondition_128 (k0 : Int32 → ST → Option (Int32 × ST)) (x1 : Int32) (sg : ST) : Option (Int32 × ST) :=
    bd2 (f_X12_letter x1 (sg.1 247 22) sg) fun v11 s10 =>
    if v11 = (nI 38) then
    ((pfI s10 247 22 ((s10.1 247 22) + (nI 1))).bind fun s12 =>
    k0 x1 s12)
    else (bd2 (f_X12_letter x1 (s10.1 247 22) s10) fun v14 s13 =>
    if v14 = (nI 124) then
    ((pfI s13 247 22 ((s13.1 247 22) + (nI 1))).bind fun s15 =>
    k0 x1 s15)
    else (some ((nI 1), s13)))
theorem e_X12_overCondition_128 {G : GP} {k0 : Int32 → ST → Option (Int32 × ST)} {x1 : Int32} {sg : ST} {v : Int32} {s : ST} (hk0 : ∀ {x1 : Int32} {sg : ST}, k0 x1 sg = some (v, s) → E G mX12_overCondition (2, 44) 0 [.ref 247, .int x1, D0] [] (mem sg) (QI v s)) (h : f_X12_overCondition_128 k0 x1 sg = some (v, s)) : E G mX12_overCondition (2, 44) 128 [.ref 247, .int x1, D0] [] (mem sg) (QI v s) := by
  unfold f_X12_overCondition_128 at h
  refine E_aload_n (pc := 128) rfl dX12_overCondition_128 ?_
  refine E_iload_n (pc := 129) rfl dX12_overCondition_129 ?_
  refine E_aload_n (pc := 130) rfl dX12_overCondition_130 ?_
  refine R_getI (pc := 131) f12_194 dX12_overCondition_131 (ent_st MO247) (by decide) rfl ?_
  obtain ⟨v11, s10, hp, h⟩ := bd2_some h
  refine E_callV (pc := 134) (As := [_, _]) (fc := (0, 0)) s12_197_12 oX12_letter dX12_overCondition_134 (mem_ob (ent_st MO247)) rfl rfl (Nat.le_of_ble_eq_true rfl) rfl rfl (by decide) (e_X12_letter hp) (fun rv_ M_ hq_ => ?_)
  obtain ⟨rfl, rfl⟩ := hq_
  refine E_bipush (pc := 137) (nI 38) (by decide) dX12_overCondition_137 ?_
  refine T_icmp_eq (pc := 139) 158 dX12_overCondition_139 (by decide) h (fun h => ?_) (fun h => ?_)
  · refine E_aload_n (pc := 158) rfl dX12_overCondition_158 ?_
    refine E_dup (pc := 159) rfl dX12_overCondition_159 ?_
    refine R_getI (pc := 160) f12_194 dX12_overCondition_160 (ent_st MO247) (by decide) rfl ?_
    refine E_iconst (pc := 163) 1 rfl dX12_overCondition_163 ?_
    refine E_iadd (pc := 164) dX12_overCondition_164 ?_
    refine T_putI (pc := 165) f12_194 dX12_overCondition_165 (ent_st MO247) (by decide) rfl (by decide +kernel) h (fun s12 h => ?_)
    refine E_goto (pc := 168) 0 (by decide) dX12_overCondition_168 ?_
    exact hk0 h
  · refine E_aload_n (pc := 142) rfl dX12_overCondition_142 ?_
    refine E_iload_n (pc := 143) rfl dX12_overCondition_143 ?_
    refine E_aload_n (pc := 144) rfl dX12_overCondition_144 ?_
    refine R_getI (pc := 145) f12_194 dX12_overCondition_145 (ent_st MO247) (by decide) rfl ?_
    obtain ⟨v14, s13, hp, h⟩ := bd2_some h
    refine E_callV (pc := 148) (As := [_, _]) (fc := (0, 0)) s12_197_12 oX12_letter dX12_overCondition_148 (mem_ob (ent_st MO247)) rfl rfl (Nat.le_of_ble_eq_true rfl) rfl rfl (by decide) (e_X12_letter hp) (fun rv_ M_ hq_ => ?_)
    obtain ⟨rfl, rfl⟩ := hq_
    refine E_bipush (pc := 151) (nI 124) (by decide) dX12_overCondition_151 ?_
    refine T_icmp_eq (pc := 153) 158 dX12_overCondition_153 (by decide) h (fun h => ?_) (fun h => ?_)
    · refine E_aload_n (pc := 158) rfl dX12_overCondition_158 ?_
      refine E_dup (pc := 159) rfl dX12_overCondition_159 ?_
      refine R_getI (pc := 160) f12_194 dX12_overCondition_160 (ent_st MO247) (by decide) rfl ?_
      refine E_iconst (pc := 163) 1 rfl dX12_overCondition_163 ?_
      refine E_iadd (pc := 164) dX12_overCondition_164 ?_
      refine T_putI (pc := 165) f12_194 dX12_overCondition_165 (ent_st MO247) (by decide) rfl (by decide +kernel) h (fun s15 h => ?_)
      refine E_goto (pc := 168) 0 (by decide) dX12_overCondition_168 ?_
      exact hk0 h
    · refine E_iconst (pc := 156) 1 rfl dX12_overCondition_156 ?_
      exact E_ireturn (pc := 157) rfl (by decide) dX12_overCondition_157 (QI_of h)
noncomputable def f_X12_overCondition_24 (k0 : Int32 → ST → Option (Int32 × ST)) (x1 : Int32) (sg : ST) : Option (Int32 × ST) :=
    bd2 (f_X12_letter x1 (sg.1 247 22) sg) fun v4 s3 =>
    bd2 (f_X12_isDigitOf v4 (-1) s3) fun v6 s5 =>
    if v6 = 0 then
    (some ((nI 0), s5))
    else ((pfI s5 247 22 ((s5.1 247 22) + (nI 1))).bind fun s7 =>
    bd2 (f_X12_isDigitOf v4 (nI 3) s7) fun v9 s8 =>
    if v9 = 0 then
    (f_X12_overCondition_128 k0 x1 s8)
    else (bd2 (f_X12_letter x1 (s8.1 247 22) s8) fun v17 s16 =>
    if v17 = (nI 62) then
    ((pfI s16 247 22 ((s16.1 247 22) + (nI 1))).bind fun s18 =>
    bd2 (f_X12_letter x1 (s18.1 247 22) s18) fun v20 s19 =>
    if v20 < (nI 48) then
    (some ((nI 0), s19))
    else (bd2 (f_X12_letter x1 (s19.1 247 22) s19) fun v22 s21 =>
    if (nI 55) < v22 then
    (some ((nI 0), s21))
    else ((pfI s21 247 22 ((s21.1 247 22) + (nI 1))).bind fun s23 =>
    f_X12_overCondition_128 k0 x1 s23)))
    else (f_X12_overCondition_128 k0 x1 s16)))
theorem e_X12_overCondition_24 {G : GP} {k0 : Int32 → ST → Option (Int32 × ST)} {x1 : Int32} {sg : ST} {v : Int32} {s : ST} (hk0 : ∀ {x1 : Int32} {sg : ST}, k0 x1 sg = some (v, s) → E G mX12_overCondition (2, 44) 0 [.ref 247, .int x1, D0] [] (mem sg) (QI v s)) (h : f_X12_overCondition_24 k0 x1 sg = some (v, s)) : E G mX12_overCondition (2, 44) 24 [.ref 247, .int x1, D0] [] (mem sg) (QI v s) := by
  unfold f_X12_overCondition_24 at h
  refine E_aload_n (pc := 24) rfl dX12_overCondition_24 ?_
  refine E_iload_n (pc := 25) rfl dX12_overCondition_25 ?_
  refine E_aload_n (pc := 26) rfl dX12_overCondition_26 ?_
  refine R_getI (pc := 27) f12_194 dX12_overCondition_27 (ent_st MO247) (by decide) rfl ?_
  obtain ⟨v4, s3, hp, h⟩ := bd2_some h
  refine E_callV (pc := 30) (As := [_, _]) (fc := (0, 0)) s12_197_12 oX12_letter dX12_overCondition_30 (mem_ob (ent_st MO247)) rfl rfl (Nat.le_of_ble_eq_true rfl) rfl rfl (by decide) (e_X12_letter hp) (fun rv_ M_ hq_ => ?_)
  obtain ⟨rfl, rfl⟩ := hq_
  refine E_istore_n (pc := 33) (L2 := [_, _, _]) rfl rfl dX12_overCondition_33 ?_
  refine E_aload_n (pc := 34) rfl dX12_overCondition_34 ?_
  refine E_iload_n (pc := 35) rfl dX12_overCondition_35 ?_
  refine E_im1 (pc := 36) dX12_overCondition_36 ?_
  obtain ⟨v6, s5, hp, h⟩ := bd2_some h
  refine E_callV (pc := 37) (As := [_, _]) (fc := (1, 21)) s12_201_12 oX12_isDigitOf dX12_overCondition_37 (mem_ob (ent_st MO247)) rfl rfl (Nat.le_of_ble_eq_true rfl) rfl rfl (by decide) (e_X12_isDigitOf hp) (fun rv_ M_ hq_ => ?_)
  obtain ⟨rfl, rfl⟩ := hq_
  refine T_if_ne (pc := 40) 45 dX12_overCondition_40 (by decide) h (fun h => ?_) (fun h => ?_)
  · refine E_aload_n (pc := 45) rfl dX12_overCondition_45 ?_
    refine E_dup (pc := 46) rfl dX12_overCondition_46 ?_
    refine R_getI (pc := 47) f12_194 dX12_overCondition_47 (ent_st MO247) (by decide) rfl ?_
    refine E_iconst (pc := 50) 1 rfl dX12_overCondition_50 ?_
    refine E_iadd (pc := 51) dX12_overCondition_51 ?_
    refine T_putI (pc := 52) f12_194 dX12_overCondition_52 (ent_st MO247) (by decide) rfl (by decide +kernel) h (fun s7 h => ?_)
    refine E_aload_n (pc := 55) rfl dX12_overCondition_55 ?_
    refine E_iload_n (pc := 56) rfl dX12_overCondition_56 ?_
    refine E_iconst (pc := 57) 3 rfl dX12_overCondition_57 ?_
    obtain ⟨v9, s8, hp, h⟩ := bd2_some h
    refine E_callV (pc := 58) (As := [_, _]) (fc := (1, 21)) s12_201_12 oX12_isDigitOf dX12_overCondition_58 (mem_ob (ent_st MO247)) rfl rfl (Nat.le_of_ble_eq_true rfl) rfl rfl (by decide) (e_X12_isDigitOf hp) (fun rv_ M_ hq_ => ?_)
    obtain ⟨rfl, rfl⟩ := hq_
    refine T_if_eq (pc := 61) 128 dX12_overCondition_61 (by decide) h (fun h => ?_) (fun h => ?_)
    · refine E_kp [true, true, false] (L2 := [_, _, D0]) rfl rfl ?_
      refine e_X12_overCondition_128 (fun h => hk0 h) h
    · refine E_aload_n (pc := 64) rfl dX12_overCondition_64 ?_
      refine E_iload_n (pc := 65) rfl dX12_overCondition_65 ?_
      refine E_aload_n (pc := 66) rfl dX12_overCondition_66 ?_
      refine R_getI (pc := 67) f12_194 dX12_overCondition_67 (ent_st MO247) (by decide) rfl ?_
      obtain ⟨v17, s16, hp, h⟩ := bd2_some h
      refine E_callV (pc := 70) (As := [_, _]) (fc := (0, 0)) s12_197_12 oX12_letter dX12_overCondition_70 (mem_ob (ent_st MO247)) rfl rfl (Nat.le_of_ble_eq_true rfl) rfl rfl (by decide) (e_X12_letter hp) (fun rv_ M_ hq_ => ?_)
      obtain ⟨rfl, rfl⟩ := hq_
      refine E_bipush (pc := 73) (nI 62) (by decide) dX12_overCondition_73 ?_
      refine T_icmp_ne (pc := 75) 128 dX12_overCondition_75 (by decide) h (fun h => ?_) (fun h => ?_)
      · refine E_kp [true, true, false] (L2 := [_, _, D0]) rfl rfl ?_
        refine e_X12_overCondition_128 (fun h => hk0 h) h
      · refine E_aload_n (pc := 78) rfl dX12_overCondition_78 ?_
        refine E_dup (pc := 79) rfl dX12_overCondition_79 ?_
        refine R_getI (pc := 80) f12_194 dX12_overCondition_80 (ent_st MO247) (by decide) rfl ?_
        refine E_iconst (pc := 83) 1 rfl dX12_overCondition_83 ?_
        refine E_iadd (pc := 84) dX12_overCondition_84 ?_
        refine T_putI (pc := 85) f12_194 dX12_overCondition_85 (ent_st MO247) (by decide) rfl (by decide +kernel) h (fun s18 h => ?_)
        refine E_aload_n (pc := 88) rfl dX12_overCondition_88 ?_
        refine E_iload_n (pc := 89) rfl dX12_overCondition_89 ?_
        refine E_aload_n (pc := 90) rfl dX12_overCondition_90 ?_
        refine R_getI (pc := 91) f12_194 dX12_overCondition_91 (ent_st MO247) (by decide) rfl ?_
        obtain ⟨v20, s19, hp, h⟩ := bd2_some h
        refine E_callV (pc := 94) (As := [_, _]) (fc := (0, 0)) s12_197_12 oX12_letter dX12_overCondition_94 (mem_ob (ent_st MO247)) rfl rfl (Nat.le_of_ble_eq_true rfl) rfl rfl (by decide) (e_X12_letter hp) (fun rv_ M_ hq_ => ?_)
        obtain ⟨rfl, rfl⟩ := hq_
        refine E_bipush (pc := 97) (nI 48) (by decide) dX12_overCondition_97 ?_
        refine T_icmp_lt (pc := 99) 116 dX12_overCondition_99 (by decide) h (fun h => ?_) (fun h => ?_)
        · refine E_iconst (pc := 116) 0 rfl dX12_overCondition_116 ?_
          exact E_ireturn (pc := 117) rfl (by decide) dX12_overCondition_117 (QI_of h)
        · refine E_aload_n (pc := 102) rfl dX12_overCondition_102 ?_
          refine E_iload_n (pc := 103) rfl dX12_overCondition_103 ?_
          refine E_aload_n (pc := 104) rfl dX12_overCondition_104 ?_
          refine R_getI (pc := 105) f12_194 dX12_overCondition_105 (ent_st MO247) (by decide) rfl ?_
          obtain ⟨v22, s21, hp, h⟩ := bd2_some h
          refine E_callV (pc := 108) (As := [_, _]) (fc := (0, 0)) s12_197_12 oX12_letter dX12_overCondition_108 (mem_ob (ent_st MO247)) rfl rfl (Nat.le_of_ble_eq_true rfl) rfl rfl (by decide) (e_X12_letter hp) (fun rv_ M_ hq_ => ?_)
          obtain ⟨rfl, rfl⟩ := hq_
          refine E_bipush (pc := 111) (nI 55) (by decide) dX12_overCondition_111 ?_
          refine T_icmp_le (pc := 113) 118 dX12_overCondition_113 (by decide) h (fun h => ?_) (fun h => ?_)
          · refine E_aload_n (pc := 118) rfl dX12_overCondition_118 ?_
            refine E_dup (pc := 119) rfl dX12_overCondition_119 ?_
            refine R_getI (pc := 120) f12_194 dX12_overCondition_120 (ent_st MO247) (by decide) rfl ?_
            refine E_iconst (pc := 123) 1 rfl dX12_overCondition_123 ?_
            refine E_iadd (pc := 124) dX12_overCondition_124 ?_
            refine T_putI (pc := 125) f12_194 dX12_overCondition_125 (ent_st MO247) (by decide) rfl (by decide +kernel) h (fun s23 h => ?_)
            refine E_kp [true, true, false] (L2 := [_, _, D0]) rfl rfl ?_
            refine e_X12_overCondition_128 (fun h => hk0 h) h
          · refine E_iconst (pc := 116) 0 rfl dX12_overCondition_116 ?_
            exact E_ireturn (pc := 117) rfl (by decide) dX12_overCondition_117 (QI_of h)
  · refine E_iconst (pc := 43) 0 rfl dX12_overCondition_43 ?_
    exact E_ireturn (pc := 44) rfl (by decide) dX12_overCondition_44 (QI_of h)
noncomputable def f_X12_overCondition_0 : Nat → Int32 → ST → Option (Int32 × ST)
  | 0, _, _ => none
  | n + 1, x1, sg =>
    bd2 (f_X12_letter x1 (sg.1 247 22) sg) fun v2 s1 =>
    if v2 = (nI 33) then
    ((pfI s1 247 22 ((s1.1 247 22) + (nI 1))).bind fun s24 =>
    f_X12_overCondition_24 (f_X12_overCondition_0 n) x1 s24)
    else (f_X12_overCondition_24 (f_X12_overCondition_0 n) x1 s1)
theorem e_X12_overCondition_0 {G : GP} {v : Int32} {s : ST}  : ∀ (n : Nat) {x1 : Int32} {sg : ST}, f_X12_overCondition_0 n x1 sg = some (v, s) → E G mX12_overCondition (2, 44) 0 [.ref 247, .int x1, D0] [] (mem sg) (QI v s) := by
  intro n
  induction n with
  | zero => intro _ _ h; rw [f_X12_overCondition_0] at h; cases h
  | succ n ih =>
    intro x1 sg h
    rw [f_X12_overCondition_0] at h
    refine E_aload_n (pc := 0) rfl dX12_overCondition_0 ?_
    refine E_iload_n (pc := 1) rfl dX12_overCondition_1 ?_
    refine E_aload_n (pc := 2) rfl dX12_overCondition_2 ?_
    refine R_getI (pc := 3) f12_194 dX12_overCondition_3 (ent_st MO247) (by decide) rfl ?_
    obtain ⟨v2, s1, hp, h⟩ := bd2_some h
    refine E_callV (pc := 6) (As := [_, _]) (fc := (0, 0)) s12_197_12 oX12_letter dX12_overCondition_6 (mem_ob (ent_st MO247)) rfl rfl (Nat.le_of_ble_eq_true rfl) rfl rfl (by decide) (e_X12_letter hp) (fun rv_ M_ hq_ => ?_)
    obtain ⟨rfl, rfl⟩ := hq_
    refine E_bipush (pc := 9) (nI 33) (by decide) dX12_overCondition_9 ?_
    refine T_icmp_ne (pc := 11) 24 dX12_overCondition_11 (by decide) h (fun h => ?_) (fun h => ?_)
    · refine e_X12_overCondition_24 (fun h => ih h) h
    · refine E_aload_n (pc := 14) rfl dX12_overCondition_14 ?_
      refine E_dup (pc := 15) rfl dX12_overCondition_15 ?_
      refine R_getI (pc := 16) f12_194 dX12_overCondition_16 (ent_st MO247) (by decide) rfl ?_
      refine E_iconst (pc := 19) 1 rfl dX12_overCondition_19 ?_
      refine E_iadd (pc := 20) dX12_overCondition_20 ?_
      refine T_putI (pc := 21) f12_194 dX12_overCondition_21 (ent_st MO247) (by decide) rfl (by decide +kernel) h (fun s24 h => ?_)
      refine e_X12_overCondition_24 (fun h => ih h) h
noncomputable def f_X12_overCondition (x1 : Int32) (σ : ST) : Option (Int32 × ST) :=
    f_X12_overCondition_0 FU x1 σ
theorem e_X12_overCondition {G : GP} {x1 : Int32} {σ : ST} {v : Int32} {s : ST}  (h : f_X12_overCondition x1 σ = some (v, s)) : E G mX12_overCondition (2, 44) 0 [.ref 247, .int x1, D0] [] (mem σ) (QI v s) := by
  unfold f_X12_overCondition at h
  refine e_X12_overCondition_0  FU h
noncomputable def f_X12_conditionFault (x1 : Int32) (σ : ST) : Option (Int32 × ST) :=
    (pfI σ 247 22 (nI 0)).bind fun s1 =>
    bd2 (f_X12_overCondition x1 s1) fun v3 s2 =>
    if v3 = 0 then
    (some ((s2.1 247 22), s2))
    else ((rdI s2 264 8 x1).bind fun v4 =>
    if (s2.1 247 22) < v4 then
    (some ((s2.1 247 22), s2))
    else (some ((-1), s2)))
theorem e_X12_conditionFault {G : GP} {x1 : Int32} {σ : ST} {v : Int32} {s : ST}  (h : f_X12_conditionFault x1 σ = some (v, s)) : E G mX12_conditionFault (3, 66) 0 [.ref 247, .int x1] [] (mem σ) (QI v s) := by
  unfold f_X12_conditionFault at h
  refine E_aload_n (pc := 0) rfl dX12_conditionFault_0 ?_
  refine E_iconst (pc := 1) 0 rfl dX12_conditionFault_1 ?_
  refine T_putI (pc := 2) f12_194 dX12_conditionFault_2 (ent_st MO247) (by decide) rfl (by decide +kernel) h (fun s1 h => ?_)
  refine E_aload_n (pc := 5) rfl dX12_conditionFault_5 ?_
  refine E_iload_n (pc := 6) rfl dX12_conditionFault_6 ?_
  obtain ⟨v3, s2, hp, h⟩ := bd2_some h
  refine E_callV (pc := 7) (As := [_]) (fc := (2, 44)) s12_205_12 oX12_overCondition dX12_conditionFault_7 (mem_ob (ent_st MO247)) rfl rfl (Nat.le_of_ble_eq_true rfl) rfl rfl (by decide) (e_X12_overCondition hp) (fun rv_ M_ hq_ => ?_)
  obtain ⟨rfl, rfl⟩ := hq_
  refine T_if_ne (pc := 10) 18 dX12_conditionFault_10 (by decide) h (fun h => ?_) (fun h => ?_)
  · refine E_aload_n (pc := 18) rfl dX12_conditionFault_18 ?_
    refine R_getI (pc := 19) f12_194 dX12_conditionFault_19 (ent_st MO247) (by decide) rfl ?_
    refine E_aload_n (pc := 22) rfl dX12_conditionFault_22 ?_
    refine R_getR (pc := 23) (b := 264) f12_58 dX12_conditionFault_23 (ent_st MO247) (by decide) rfl rfl ?_
    refine E_iload_n (pc := 26) rfl dX12_conditionFault_26 ?_
    refine T_iald (pc := 27) dX12_conditionFault_27 (ent_st MA264) (by decide) h (fun v4 h => ?_)
    refine T_icmp_ge (pc := 28) 38 dX12_conditionFault_28 (by decide) h (fun h => ?_) (fun h => ?_)
    · refine E_im1 (pc := 38) dX12_conditionFault_38 ?_
      exact E_ireturn (pc := 39) rfl rfl dX12_conditionFault_39 (QI_of h)
    · refine E_aload_n (pc := 31) rfl dX12_conditionFault_31 ?_
      refine R_getI (pc := 32) f12_194 dX12_conditionFault_32 (ent_st MO247) (by decide) rfl ?_
      refine E_goto (pc := 35) 39 (by decide) dX12_conditionFault_35 ?_
      exact E_ireturn (pc := 39) rfl rfl dX12_conditionFault_39 (QI_of h)
  · refine E_aload_n (pc := 13) rfl dX12_conditionFault_13 ?_
    refine R_getI (pc := 14) f12_194 dX12_conditionFault_14 (ent_st MO247) (by decide) rfl ?_
    exact E_ireturn (pc := 17) rfl rfl dX12_conditionFault_17 (QI_of h)
noncomputable def f_X12_lawFault_137 (k60 : Int32 → Int32 → ST → Option (Int32 × ST)) (x1 : Int32) (x2 : Int32) (z1 : Int32) (z2 : Int32) (sg : ST) : Option (Int32 × ST) :=
    bd2 (f_X12_isDigitOf z1 z2 sg) fun v14 s13 =>
    if v14 = 0 then
    (some ((s13.1 247 22), s13))
    else ((pfI s13 247 22 ((s13.1 247 22) + (nI 1))).bind fun s15 =>
    k60 x1 (x2 + nI 1) s15)
theorem e_X12_lawFault_137 {G : GP} {k60 : Int32 → Int32 → ST → Option (Int32 × ST)} {x1 : Int32} {x2 : Int32} {z1 : Int32} {z2 : Int32} {sg : ST} {v : Int32} {s : ST} (hk60 : ∀ {x1 : Int32} {x2 : Int32} {sg : ST}, k60 x1 x2 sg = some (v, s) → E G mX12_lawFault (3, 66) 60 [.ref 247, .int x1, .int x2, D0] [] (mem sg) (QI v s)) (h : f_X12_lawFault_137 k60 x1 x2 z1 z2 sg = some (v, s)) : E G mX12_lawFault (3, 66) 137 [.ref 247, .int x1, .int x2, D0] [.int z2, .int z1, .ref 247] (mem sg) (QI v s) := by
  unfold f_X12_lawFault_137 at h
  obtain ⟨v14, s13, hp, h⟩ := bd2_some h
  refine E_callV (pc := 137) (As := [_, _]) (fc := (1, 21)) s12_201_12 oX12_isDigitOf dX12_lawFault_137 (mem_ob (ent_st MO247)) rfl rfl (Nat.le_of_ble_eq_true rfl) rfl rfl (by decide) (e_X12_isDigitOf hp) (fun rv_ M_ hq_ => ?_)
  obtain ⟨rfl, rfl⟩ := hq_
  refine T_if_ne (pc := 140) 148 dX12_lawFault_140 (by decide) h (fun h => ?_) (fun h => ?_)
  · refine E_aload_n (pc := 148) rfl dX12_lawFault_148 ?_
    refine E_dup (pc := 149) rfl dX12_lawFault_149 ?_
    refine R_getI (pc := 150) f12_194 dX12_lawFault_150 (ent_st MO247) (by decide) rfl ?_
    refine E_iconst (pc := 153) 1 rfl dX12_lawFault_153 ?_
    refine E_iadd (pc := 154) dX12_lawFault_154 ?_
    refine T_putI (pc := 155) f12_194 dX12_lawFault_155 (ent_st MO247) (by decide) rfl (by decide +kernel) h (fun s15 h => ?_)
    refine T_iinc (pc := 158) (m := 1) (L2 := [_, _, _, _]) rfl rfl rfl rfl dX12_lawFault_158 ?_
    refine E_goto (pc := 161) 60 (by decide) dX12_lawFault_161 ?_
    exact hk60 h
  · refine E_aload_n (pc := 143) rfl dX12_lawFault_143 ?_
    refine R_getI (pc := 144) f12_194 dX12_lawFault_144 (ent_st MO247) (by decide) rfl ?_
    exact E_ireturn (pc := 147) rfl rfl dX12_lawFault_147 (QI_of h)
noncomputable def f_X12_lawFault_106 (k60 : Int32 → Int32 → ST → Option (Int32 × ST)) (x1 : Int32) (x2 : Int32) (x3 : Int32) (sg : ST) : Option (Int32 × ST) :=
    (pfI sg 247 22 ((sg.1 247 22) + (nI 1))).bind fun s10 =>
    bd2 (f_X12_letter x1 (s10.1 247 22) s10) fun v12 s11 =>
    if x3 = (nI 122) then
    (f_X12_lawFault_137 k60 x1 x2 v12 (nI 3) s11)
    else (f_X12_lawFault_137 k60 x1 x2 v12 (nI 1) s11)
theorem e_X12_lawFault_106 {G : GP} {k60 : Int32 → Int32 → ST → Option (Int32 × ST)} {x1 : Int32} {x2 : Int32} {x3 : Int32} {sg : ST} {v : Int32} {s : ST} (hk60 : ∀ {x1 : Int32} {x2 : Int32} {sg : ST}, k60 x1 x2 sg = some (v, s) → E G mX12_lawFault (3, 66) 60 [.ref 247, .int x1, .int x2, D0] [] (mem sg) (QI v s)) (h : f_X12_lawFault_106 k60 x1 x2 x3 sg = some (v, s)) : E G mX12_lawFault (3, 66) 106 [.ref 247, .int x1, .int x2, .int x3] [] (mem sg) (QI v s) := by
  unfold f_X12_lawFault_106 at h
  refine E_aload_n (pc := 106) rfl dX12_lawFault_106 ?_
  refine E_dup (pc := 107) rfl dX12_lawFault_107 ?_
  refine R_getI (pc := 108) f12_194 dX12_lawFault_108 (ent_st MO247) (by decide) rfl ?_
  refine E_iconst (pc := 111) 1 rfl dX12_lawFault_111 ?_
  refine E_iadd (pc := 112) dX12_lawFault_112 ?_
  refine T_putI (pc := 113) f12_194 dX12_lawFault_113 (ent_st MO247) (by decide) rfl (by decide +kernel) h (fun s10 h => ?_)
  refine E_aload_n (pc := 116) rfl dX12_lawFault_116 ?_
  refine E_aload_n (pc := 117) rfl dX12_lawFault_117 ?_
  refine E_iload_n (pc := 118) rfl dX12_lawFault_118 ?_
  refine E_aload_n (pc := 119) rfl dX12_lawFault_119 ?_
  refine R_getI (pc := 120) f12_194 dX12_lawFault_120 (ent_st MO247) (by decide) rfl ?_
  obtain ⟨v12, s11, hp, h⟩ := bd2_some h
  refine E_callV (pc := 123) (As := [_, _]) (fc := (0, 0)) s12_197_12 oX12_letter dX12_lawFault_123 (mem_ob (ent_st MO247)) rfl rfl (Nat.le_of_ble_eq_true rfl) rfl rfl (by decide) (e_X12_letter hp) (fun rv_ M_ hq_ => ?_)
  obtain ⟨rfl, rfl⟩ := hq_
  refine E_iload_n (pc := 126) rfl dX12_lawFault_126 ?_
  refine E_bipush (pc := 127) (nI 122) (by decide) dX12_lawFault_127 ?_
  refine T_icmp_ne (pc := 129) 136 dX12_lawFault_129 (by decide) h (fun h => ?_) (fun h => ?_)
  · refine E_iconst (pc := 136) 1 rfl dX12_lawFault_136 ?_
    refine E_kp [true, true, true, false] (L2 := [_, _, _, D0]) rfl rfl ?_
    refine e_X12_lawFault_137 (fun h => hk60 h) h
  · refine E_iconst (pc := 132) 3 rfl dX12_lawFault_132 ?_
    refine E_goto (pc := 133) 137 (by decide) dX12_lawFault_133 ?_
    refine E_kp [true, true, true, false] (L2 := [_, _, _, D0]) rfl rfl ?_
    refine e_X12_lawFault_137 (fun h => hk60 h) h
noncomputable def f_X12_lawFault_60 (k164 : Int32 → ST → Option (Int32 × ST)) : Nat → Int32 → Int32 → ST → Option (Int32 × ST)
  | 0, _, _, _ => none
  | n + 1, x1, x2, sg =>
    (rdI sg 264 8 x1).bind fun v7 =>
    if (sg.1 247 22) < v7 then
    (bd2 (f_X12_letter x1 (sg.1 247 22) sg) fun v9 s8 =>
    if v9 = (nI 98) then
    (f_X12_lawFault_106 (f_X12_lawFault_60 k164 n) x1 x2 v9 s8)
    else (if v9 = (nI 101) then
    (f_X12_lawFault_106 (f_X12_lawFault_60 k164 n) x1 x2 v9 s8)
    else (if v9 = (nI 122) then
    (f_X12_lawFault_106 (f_X12_lawFault_60 k164 n) x1 x2 v9 s8)
    else (some ((s8.1 247 22), s8)))))
    else (k164 x2 sg)
theorem e_X12_lawFault_60 {G : GP} {k164 : Int32 → ST → Option (Int32 × ST)} {v : Int32} {s : ST} (hk164 : ∀ {x2 : Int32} {sg : ST}, k164 x2 sg = some (v, s) → E G mX12_lawFault (3, 66) 164 [.ref 247, D0, .int x2, D0] [] (mem sg) (QI v s)) : ∀ (n : Nat) {x1 : Int32} {x2 : Int32} {sg : ST}, f_X12_lawFault_60 k164 n x1 x2 sg = some (v, s) → E G mX12_lawFault (3, 66) 60 [.ref 247, .int x1, .int x2, D0] [] (mem sg) (QI v s) := by
  intro n
  induction n with
  | zero => intro _ _ _ h; rw [f_X12_lawFault_60] at h; cases h
  | succ n ih =>
    intro x1 x2 sg h
    rw [f_X12_lawFault_60] at h
    refine E_aload_n (pc := 60) rfl dX12_lawFault_60 ?_
    refine R_getI (pc := 61) f12_194 dX12_lawFault_61 (ent_st MO247) (by decide) rfl ?_
    refine E_aload_n (pc := 64) rfl dX12_lawFault_64 ?_
    refine R_getR (pc := 65) (b := 264) f12_58 dX12_lawFault_65 (ent_st MO247) (by decide) rfl rfl ?_
    refine E_iload_n (pc := 68) rfl dX12_lawFault_68 ?_
    refine T_iald (pc := 69) dX12_lawFault_69 (ent_st MA264) (by decide) h (fun v7 h => ?_)
    refine T_icmp_ge (pc := 70) 164 dX12_lawFault_70 (by decide) h (fun h => ?_) (fun h => ?_)
    · refine E_kp [true, false, true, false] (L2 := [_, D0, _, D0]) rfl rfl ?_
      exact hk164 h
    · refine E_aload_n (pc := 73) rfl dX12_lawFault_73 ?_
      refine E_iload_n (pc := 74) rfl dX12_lawFault_74 ?_
      refine E_aload_n (pc := 75) rfl dX12_lawFault_75 ?_
      refine R_getI (pc := 76) f12_194 dX12_lawFault_76 (ent_st MO247) (by decide) rfl ?_
      obtain ⟨v9, s8, hp, h⟩ := bd2_some h
      refine E_callV (pc := 79) (As := [_, _]) (fc := (0, 0)) s12_197_12 oX12_letter dX12_lawFault_79 (mem_ob (ent_st MO247)) rfl rfl (Nat.le_of_ble_eq_true rfl) rfl rfl (by decide) (e_X12_letter hp) (fun rv_ M_ hq_ => ?_)
      obtain ⟨rfl, rfl⟩ := hq_
      refine E_istore_n (pc := 82) (L2 := [_, _, _, _]) rfl rfl dX12_lawFault_82 ?_
      refine E_iload_n (pc := 83) rfl dX12_lawFault_83 ?_
      refine E_bipush (pc := 84) (nI 98) (by decide) dX12_lawFault_84 ?_
      refine T_icmp_eq (pc := 86) 106 dX12_lawFault_86 (by decide) h (fun h => ?_) (fun h => ?_)
      · refine e_X12_lawFault_106 (fun h => ih h) h
      · refine E_iload_n (pc := 89) rfl dX12_lawFault_89 ?_
        refine E_bipush (pc := 90) (nI 101) (by decide) dX12_lawFault_90 ?_
        refine T_icmp_eq (pc := 92) 106 dX12_lawFault_92 (by decide) h (fun h => ?_) (fun h => ?_)
        · refine e_X12_lawFault_106 (fun h => ih h) h
        · refine E_iload_n (pc := 95) rfl dX12_lawFault_95 ?_
          refine E_bipush (pc := 96) (nI 122) (by decide) dX12_lawFault_96 ?_
          refine T_icmp_eq (pc := 98) 106 dX12_lawFault_98 (by decide) h (fun h => ?_) (fun h => ?_)
          · refine e_X12_lawFault_106 (fun h => ih h) h
          · refine E_aload_n (pc := 101) rfl dX12_lawFault_101 ?_
            refine R_getI (pc := 102) f12_194 dX12_lawFault_102 (ent_st MO247) (by decide) rfl ?_
            exact E_ireturn (pc := 105) rfl rfl dX12_lawFault_105 (QI_of h)
noncomputable def f_X12_lawFault_29 (x1 : Int32) (sg : ST) : Option (Int32 × ST) :=
    bd2 (f_X12_letter x1 (sg.1 247 22) sg) fun v5 s4 =>
    if v5 = (nI 58) then
    ((pfI s4 247 22 ((s4.1 247 22) + (nI 1))).bind fun s6 =>
    f_X12_lawFault_60 (fun x2_16 s17 =>
    if x2_16 = 0 then
    (some ((s17.1 247 22), s17))
    else (some ((-1), s17))) FU x1 (nI 0) s6)
    else (some ((s4.1 247 22), s4))
theorem e_X12_lawFault_29 {G : GP} {x1 : Int32} {sg : ST} {v : Int32} {s : ST}  (h : f_X12_lawFault_29 x1 sg = some (v, s)) : E G mX12_lawFault (3, 66) 29 [.ref 247, .int x1, D0, D0] [] (mem sg) (QI v s) := by
  unfold f_X12_lawFault_29 at h
  refine E_aload_n (pc := 29) rfl dX12_lawFault_29 ?_
  refine E_iload_n (pc := 30) rfl dX12_lawFault_30 ?_
  refine E_aload_n (pc := 31) rfl dX12_lawFault_31 ?_
  refine R_getI (pc := 32) f12_194 dX12_lawFault_32 (ent_st MO247) (by decide) rfl ?_
  obtain ⟨v5, s4, hp, h⟩ := bd2_some h
  refine E_callV (pc := 35) (As := [_, _]) (fc := (0, 0)) s12_197_12 oX12_letter dX12_lawFault_35 (mem_ob (ent_st MO247)) rfl rfl (Nat.le_of_ble_eq_true rfl) rfl rfl (by decide) (e_X12_letter hp) (fun rv_ M_ hq_ => ?_)
  obtain ⟨rfl, rfl⟩ := hq_
  refine E_bipush (pc := 38) (nI 58) (by decide) dX12_lawFault_38 ?_
  refine T_icmp_eq (pc := 40) 48 dX12_lawFault_40 (by decide) h (fun h => ?_) (fun h => ?_)
  · refine E_aload_n (pc := 48) rfl dX12_lawFault_48 ?_
    refine E_dup (pc := 49) rfl dX12_lawFault_49 ?_
    refine R_getI (pc := 50) f12_194 dX12_lawFault_50 (ent_st MO247) (by decide) rfl ?_
    refine E_iconst (pc := 53) 1 rfl dX12_lawFault_53 ?_
    refine E_iadd (pc := 54) dX12_lawFault_54 ?_
    refine T_putI (pc := 55) f12_194 dX12_lawFault_55 (ent_st MO247) (by decide) rfl (by decide +kernel) h (fun s6 h => ?_)
    refine E_iconst (pc := 58) 0 rfl dX12_lawFault_58 ?_
    refine E_istore_n (pc := 59) (L2 := [_, _, _, _]) rfl rfl dX12_lawFault_59 ?_
    refine e_X12_lawFault_60 ?_ FU h
    · intro x2_16 s17 h
      refine E_iload_n (pc := 164) rfl dX12_lawFault_164 ?_
      refine T_if_ne (pc := 165) 175 dX12_lawFault_165 (by decide) h (fun h => ?_) (fun h => ?_)
      · refine E_im1 (pc := 175) dX12_lawFault_175 ?_
        exact E_ireturn (pc := 176) rfl rfl dX12_lawFault_176 (QI_of h)
      · refine E_aload_n (pc := 168) rfl dX12_lawFault_168 ?_
        refine R_getI (pc := 169) f12_194 dX12_lawFault_169 (ent_st MO247) (by decide) rfl ?_
        refine E_goto (pc := 172) 176 (by decide) dX12_lawFault_172 ?_
        exact E_ireturn (pc := 176) rfl rfl dX12_lawFault_176 (QI_of h)
  · refine E_aload_n (pc := 43) rfl dX12_lawFault_43 ?_
    refine R_getI (pc := 44) f12_194 dX12_lawFault_44 (ent_st MO247) (by decide) rfl ?_
    exact E_ireturn (pc := 47) rfl rfl dX12_lawFault_47 (QI_of h)
noncomputable def f_X12_lawFault (x1 : Int32) (σ : ST) : Option (Int32 × ST) :=
    (pfI σ 247 22 (nI 0)).bind fun s1 =>
    bd2 (f_X12_letter x1 (nI 0) s1) fun v3 s2 =>
    if v3 = (nI 58) then
    (f_X12_lawFault_29 x1 s2)
    else (bd2 (f_X12_overCondition x1 s2) fun v19 s18 =>
    if v19 = 0 then
    (some ((s18.1 247 22), s18))
    else (f_X12_lawFault_29 x1 s18))
theorem e_X12_lawFault {G : GP} {x1 : Int32} {σ : ST} {v : Int32} {s : ST}  (h : f_X12_lawFault x1 σ = some (v, s)) : E G mX12_lawFault (3, 66) 0 [.ref 247, .int x1, D0, D0] [] (mem σ) (QI v s) := by
  unfold f_X12_lawFault at h
  refine E_aload_n (pc := 0) rfl dX12_lawFault_0 ?_
  refine E_iconst (pc := 1) 0 rfl dX12_lawFault_1 ?_
  refine T_putI (pc := 2) f12_194 dX12_lawFault_2 (ent_st MO247) (by decide) rfl (by decide +kernel) h (fun s1 h => ?_)
  refine E_aload_n (pc := 5) rfl dX12_lawFault_5 ?_
  refine E_iload_n (pc := 6) rfl dX12_lawFault_6 ?_
  refine E_iconst (pc := 7) 0 rfl dX12_lawFault_7 ?_
  obtain ⟨v3, s2, hp, h⟩ := bd2_some h
  refine E_callV (pc := 8) (As := [_, _]) (fc := (0, 0)) s12_197_12 oX12_letter dX12_lawFault_8 (mem_ob (ent_st MO247)) rfl rfl (Nat.le_of_ble_eq_true rfl) rfl rfl (by decide) (e_X12_letter hp) (fun rv_ M_ hq_ => ?_)
  obtain ⟨rfl, rfl⟩ := hq_
  refine E_bipush (pc := 11) (nI 58) (by decide) dX12_lawFault_11 ?_
  refine T_icmp_eq (pc := 13) 29 dX12_lawFault_13 (by decide) h (fun h => ?_) (fun h => ?_)
  · refine e_X12_lawFault_29  h
  · refine E_aload_n (pc := 16) rfl dX12_lawFault_16 ?_
    refine E_iload_n (pc := 17) rfl dX12_lawFault_17 ?_
    obtain ⟨v19, s18, hp, h⟩ := bd2_some h
    refine E_callV (pc := 18) (As := [_]) (fc := (2, 44)) s12_205_12 oX12_overCondition dX12_lawFault_18 (mem_ob (ent_st MO247)) rfl rfl (Nat.le_of_ble_eq_true rfl) rfl rfl (by decide) (e_X12_overCondition hp) (fun rv_ M_ hq_ => ?_)
    obtain ⟨rfl, rfl⟩ := hq_
    refine T_if_ne (pc := 21) 29 dX12_lawFault_21 (by decide) h (fun h => ?_) (fun h => ?_)
    · refine e_X12_lawFault_29  h
    · refine E_aload_n (pc := 24) rfl dX12_lawFault_24 ?_
      refine R_getI (pc := 25) f12_194 dX12_lawFault_25 (ent_st MO247) (by decide) rfl ?_
      exact E_ireturn (pc := 28) rfl rfl dX12_lawFault_28 (QI_of h)
noncomputable def f_X12_many_4 : Nat → Int32 → Int32 → Int32 → ST → Option (Int32 × ST)
  | 0, _, _, _, _ => none
  | n + 1, x1, x2, x3, sg =>
    if x3 < (sg.1 247 0) then
    ((rdI sg 248 10 x3).bind fun v1 =>
    if v1 = x1 then
    ((f_X12_many_4 n) x1 (x2 + nI 1) (x3 + nI 1) sg)
    else ((f_X12_many_4 n) x1 x2 (x3 + nI 1) sg))
    else (some (x2, sg))
theorem e_X12_many_4 {G : GP} {v : Int32} {s : ST}  : ∀ (n : Nat) {x1 : Int32} {x2 : Int32} {x3 : Int32} {sg : ST}, f_X12_many_4 n x1 x2 x3 sg = some (v, s) → E G mX12_many (0, 0) 4 [.ref 247, .int x1, .int x2, .int x3] [] (mem sg) (QI v s) := by
  intro n
  induction n with
  | zero => intro _ _ _ _ h; rw [f_X12_many_4] at h; cases h
  | succ n ih =>
    intro x1 x2 x3 sg h
    rw [f_X12_many_4] at h
    refine E_iload_n (pc := 4) rfl dX12_many_4 ?_
    refine E_aload_n (pc := 5) rfl dX12_many_5 ?_
    refine R_getI (pc := 6) f12_159 dX12_many_6 (ent_st MO247) (by decide) rfl ?_
    refine T_icmp_ge (pc := 9) 31 dX12_many_9 (by decide) h (fun h => ?_) (fun h => ?_)
    · refine E_iload_n (pc := 31) rfl dX12_many_31 ?_
      exact E_ireturn (pc := 32) rfl rfl dX12_many_32 (QI_of h)
    · refine E_aload_n (pc := 12) rfl dX12_many_12 ?_
      refine R_getR (pc := 13) (b := 248) f12_7 dX12_many_13 (ent_st MO247) (by decide) rfl rfl ?_
      refine E_iload_n (pc := 16) rfl dX12_many_16 ?_
      refine T_iald (pc := 17) dX12_many_17 (ent_st MA248) (by decide) h (fun v1 h => ?_)
      refine E_iload_n (pc := 18) rfl dX12_many_18 ?_
      refine T_icmp_ne (pc := 19) 25 dX12_many_19 (by decide) h (fun h => ?_) (fun h => ?_)
      · refine T_iinc (pc := 25) (m := 1) (L2 := [_, _, _, _]) rfl rfl rfl rfl dX12_many_25 ?_
        refine E_goto (pc := 28) 4 (by decide) dX12_many_28 ?_
        exact ih h
      · refine T_iinc (pc := 22) (m := 1) (L2 := [_, _, _, _]) rfl rfl rfl rfl dX12_many_22 ?_
        refine T_iinc (pc := 25) (m := 1) (L2 := [_, _, _, _]) rfl rfl rfl rfl dX12_many_25 ?_
        refine E_goto (pc := 28) 4 (by decide) dX12_many_28 ?_
        exact ih h
noncomputable def f_X12_many (x1 : Int32) (σ : ST) : Option (Int32 × ST) :=
    f_X12_many_4 FU x1 (nI 0) (nI 0) σ
theorem e_X12_many {G : GP} {x1 : Int32} {σ : ST} {v : Int32} {s : ST}  (h : f_X12_many x1 σ = some (v, s)) : E G mX12_many (0, 0) 0 [.ref 247, .int x1, D0, D0] [] (mem σ) (QI v s) := by
  unfold f_X12_many at h
  refine E_iconst (pc := 0) 0 rfl dX12_many_0 ?_
  refine E_istore_n (pc := 1) (L2 := [_, _, _, _]) rfl rfl dX12_many_1 ?_
  refine E_iconst (pc := 2) 0 rfl dX12_many_2 ?_
  refine E_istore_n (pc := 3) (L2 := [_, _, _, _]) rfl rfl dX12_many_3 ?_
  refine e_X12_many_4  FU h
noncomputable def f_X12_thing_130 (k167 : Int32 → ST → Option (Int32 × ST)) : Nat → Int32 → Int32 → Int32 → ST → Option (Int32 × ST)
  | 0, _, _, _, _ => none
  | n + 1, x1, x2, x4, sg =>
    if x4 < (sg.1 247 60) then
    (bd2 (f_X12_letter x2 x4 sg) fun v9 s8 =>
    (wrI s8 250 600 (((nI 60) * (sg.1 247 0)) + x4) v9).bind fun s10 =>
    (f_X12_thing_130 k167 n) x1 x2 (x4 + nI 1) s10)
    else (k167 x1 sg)
theorem e_X12_thing_130 {G : GP} {k167 : Int32 → ST → Option (Int32 × ST)} {v : Int32} {s : ST} (hk167 : ∀ {x1 : Int32} {sg : ST}, k167 x1 sg = some (v, s) → E G mX12_thing (4, 87) 167 [.ref 247, .int x1, D0, D0, D0] [] (mem sg) (QI v s)) : ∀ (n : Nat) {x1 : Int32} {x2 : Int32} {x4 : Int32} {sg : ST}, f_X12_thing_130 k167 n x1 x2 x4 sg = some (v, s) → E G mX12_thing (4, 87) 130 [.ref 247, .int x1, .int x2, D0, .int x4] [] (mem sg) (QI v s) := by
  intro n
  induction n with
  | zero => intro _ _ _ _ h; rw [f_X12_thing_130] at h; cases h
  | succ n ih =>
    intro x1 x2 x4 sg h
    rw [f_X12_thing_130] at h
    refine E_iload (pc := 130) rfl dX12_thing_130 ?_
    refine E_aload_n (pc := 132) rfl dX12_thing_132 ?_
    refine R_getI (pc := 133) f12_208 dX12_thing_133 (ent_st MO247) (by decide) rfl ?_
    refine T_icmp_ge (pc := 136) 167 dX12_thing_136 (by decide) h (fun h => ?_) (fun h => ?_)
    · refine E_kp [true, true, false, false, false] (L2 := [_, _, D0, D0, D0]) rfl rfl ?_
      exact hk167 h
    · refine E_aload_n (pc := 139) rfl dX12_thing_139 ?_
      refine R_getR (pc := 140) (b := 250) f12_16 dX12_thing_140 (ent_st MO247) (by decide) rfl rfl ?_
      refine E_bipush (pc := 143) (nI 60) (by decide) dX12_thing_143 ?_
      refine E_aload_n (pc := 145) rfl dX12_thing_145 ?_
      refine R_getI (pc := 146) f12_159 dX12_thing_146 (ent_st MO247) (by decide) rfl ?_
      refine E_imul (pc := 149) dX12_thing_149 ?_
      refine E_iload (pc := 150) rfl dX12_thing_150 ?_
      refine E_iadd (pc := 152) dX12_thing_152 ?_
      refine E_aload_n (pc := 153) rfl dX12_thing_153 ?_
      refine E_iload_n (pc := 154) rfl dX12_thing_154 ?_
      refine E_iload (pc := 155) rfl dX12_thing_155 ?_
      obtain ⟨v9, s8, hp, h⟩ := bd2_some h
      refine E_callV (pc := 157) (As := [_, _]) (fc := (0, 0)) s12_197_12 oX12_letter dX12_thing_157 (mem_ob (ent_st MO247)) rfl rfl (Nat.le_of_ble_eq_true rfl) rfl rfl (by decide) (e_X12_letter hp) (fun rv_ M_ hq_ => ?_)
      obtain ⟨rfl, rfl⟩ := hq_
      refine T_iast (pc := 160) dX12_thing_160 (ent_st MA250) (by decide) h (fun s10 h => ?_)
      refine T_iinc (pc := 161) (m := 1) (L2 := [_, _, _, _, _]) rfl rfl rfl rfl dX12_thing_161 ?_
      refine E_goto (pc := 164) 130 (by decide) dX12_thing_164 ?_
      exact ih h
noncomputable def f_X12_thing_101 (x1 : Int32) (x2 : Int32) (z0 : Int32) (sg : ST) : Option (Int32 × ST) :=
    if (sg.1 247 0) = (nI 10) then
    (bd2 (f_X12_no (-7) sg) fun v5 s4 =>
    some (v5, s4))
    else (bd2 (f_X12_many x1 sg) fun v7 s6 =>
    if v7 = z0 then
    (bd2 (f_X12_no (-7) s6) fun v17 s16 =>
    some (v17, s16))
    else (f_X12_thing_130 (fun x1_11 s12 =>
    (wrI s12 248 10 (s12.1 247 0) x1_11).bind fun s13 =>
    (wrI s13 249 10 (s13.1 247 0) (s13.1 247 60)).bind fun s14 =>
    (pfI s14 247 0 ((s14.1 247 0) + (nI 1))).bind fun s15 =>
    some (((s15.1 247 0) - (nI 1)), s15)) FU x1 x2 (nI 0) s6))
theorem e_X12_thing_101 {G : GP} {x1 : Int32} {x2 : Int32} {z0 : Int32} {sg : ST} {v : Int32} {s : ST}  (h : f_X12_thing_101 x1 x2 z0 sg = some (v, s)) : E G mX12_thing (4, 87) 101 [.ref 247, .int x1, .int x2, D0, D0] [.int z0] (mem sg) (QI v s) := by
  unfold f_X12_thing_101 at h
  refine E_istore_n (pc := 101) (L2 := [_, _, _, _, _]) rfl rfl dX12_thing_101 ?_
  refine E_aload_n (pc := 102) rfl dX12_thing_102 ?_
  refine R_getI (pc := 103) f12_159 dX12_thing_103 (ent_st MO247) (by decide) rfl ?_
  refine E_bipush (pc := 106) (nI 10) (by decide) dX12_thing_106 ?_
  refine T_icmp_eq (pc := 108) 120 dX12_thing_108 (by decide) h (fun h => ?_) (fun h => ?_)
  · refine E_aload_n (pc := 120) rfl dX12_thing_120 ?_
    refine E_bipush (pc := 121) (-7) (by decide) dX12_thing_121 ?_
    obtain ⟨v5, s4, hp, h⟩ := bd2_some h
    refine E_callV (pc := 123) (As := [_]) (fc := (0, 0)) s12_175_12 oX12_no dX12_thing_123 (mem_ob (ent_st MO247)) rfl rfl (Nat.le_of_ble_eq_true rfl) rfl rfl (by decide) (e_X12_no hp) (fun rv_ M_ hq_ => ?_)
    obtain ⟨rfl, rfl⟩ := hq_
    exact E_ireturn (pc := 126) rfl rfl dX12_thing_126 (QI_of h)
  · refine E_aload_n (pc := 111) rfl dX12_thing_111 ?_
    refine E_iload_n (pc := 112) rfl dX12_thing_112 ?_
    obtain ⟨v7, s6, hp, h⟩ := bd2_some h
    refine E_callV (pc := 113) (As := [_]) (fc := (0, 0)) s12_214_12 oX12_many dX12_thing_113 (mem_ob (ent_st MO247)) rfl rfl (Nat.le_of_ble_eq_true rfl) rfl rfl (by decide) (e_X12_many hp) (fun rv_ M_ hq_ => ?_)
    obtain ⟨rfl, rfl⟩ := hq_
    refine E_iload_n (pc := 116) rfl dX12_thing_116 ?_
    refine T_icmp_ne (pc := 117) 127 dX12_thing_117 (by decide) h (fun h => ?_) (fun h => ?_)
    · refine E_iconst (pc := 127) 0 rfl dX12_thing_127 ?_
      refine E_istore (pc := 128) (L2 := [_, _, _, _, _]) rfl rfl dX12_thing_128 ?_
      refine E_kp [true, true, true, false, true] (L2 := [_, _, _, D0, _]) rfl rfl ?_
      refine e_X12_thing_130 ?_ FU h
      · intro x1_11 s12 h
        refine E_aload_n (pc := 167) rfl dX12_thing_167 ?_
        refine R_getR (pc := 168) (b := 248) f12_7 dX12_thing_168 (ent_st MO247) (by decide) rfl rfl ?_
        refine E_aload_n (pc := 171) rfl dX12_thing_171 ?_
        refine R_getI (pc := 172) f12_159 dX12_thing_172 (ent_st MO247) (by decide) rfl ?_
        refine E_iload_n (pc := 175) rfl dX12_thing_175 ?_
        refine T_iast (pc := 176) dX12_thing_176 (ent_st MA248) (by decide) h (fun s13 h => ?_)
        refine E_aload_n (pc := 177) rfl dX12_thing_177 ?_
        refine R_getR (pc := 178) (b := 249) f12_13 dX12_thing_178 (ent_st MO247) (by decide) rfl rfl ?_
        refine E_aload_n (pc := 181) rfl dX12_thing_181 ?_
        refine R_getI (pc := 182) f12_159 dX12_thing_182 (ent_st MO247) (by decide) rfl ?_
        refine E_aload_n (pc := 185) rfl dX12_thing_185 ?_
        refine R_getI (pc := 186) f12_208 dX12_thing_186 (ent_st MO247) (by decide) rfl ?_
        refine T_iast (pc := 189) dX12_thing_189 (ent_st MA249) (by decide) h (fun s14 h => ?_)
        refine E_aload_n (pc := 190) rfl dX12_thing_190 ?_
        refine E_dup (pc := 191) rfl dX12_thing_191 ?_
        refine R_getI (pc := 192) f12_159 dX12_thing_192 (ent_st MO247) (by decide) rfl ?_
        refine E_iconst (pc := 195) 1 rfl dX12_thing_195 ?_
        refine E_iadd (pc := 196) dX12_thing_196 ?_
        refine T_putI (pc := 197) f12_159 dX12_thing_197 (ent_st MO247) (by decide) rfl (by decide +kernel) h (fun s15 h => ?_)
        refine E_aload_n (pc := 200) rfl dX12_thing_200 ?_
        refine R_getI (pc := 201) f12_159 dX12_thing_201 (ent_st MO247) (by decide) rfl ?_
        refine E_iconst (pc := 204) 1 rfl dX12_thing_204 ?_
        refine E_isub (pc := 205) dX12_thing_205 ?_
        exact E_ireturn (pc := 206) rfl rfl dX12_thing_206 (QI_of h)
    · refine E_aload_n (pc := 120) rfl dX12_thing_120 ?_
      refine E_bipush (pc := 121) (-7) (by decide) dX12_thing_121 ?_
      obtain ⟨v17, s16, hp, h⟩ := bd2_some h
      refine E_callV (pc := 123) (As := [_]) (fc := (0, 0)) s12_175_12 oX12_no dX12_thing_123 (mem_ob (ent_st MO247)) rfl rfl (Nat.le_of_ble_eq_true rfl) rfl rfl (by decide) (e_X12_no hp) (fun rv_ M_ hq_ => ?_)
      obtain ⟨rfl, rfl⟩ := hq_
      exact E_ireturn (pc := 126) rfl rfl dX12_thing_126 (QI_of h)
noncomputable def f_X12_thing_74 (x1 : Int32) (x2 : Int32) (sg : ST) : Option (Int32 × ST) :=
    if x1 = 0 then
    (f_X12_thing_101 x1 x2 (nI 2) sg)
    else (if x1 = (nI 1) then
    (f_X12_thing_101 x1 x2 (nI 5) sg)
    else (if x1 = (nI 2) then
    (f_X12_thing_101 x1 x2 (nI 3) sg)
    else (f_X12_thing_101 x1 x2 (nI 1) sg)))
theorem e_X12_thing_74 {G : GP} {x1 : Int32} {x2 : Int32} {sg : ST} {v : Int32} {s : ST}  (h : f_X12_thing_74 x1 x2 sg = some (v, s)) : E G mX12_thing (4, 87) 74 [.ref 247, .int x1, .int x2, D0, D0] [] (mem sg) (QI v s) := by
  unfold f_X12_thing_74 at h
  refine E_iload_n (pc := 74) rfl dX12_thing_74 ?_
  refine T_if_ne (pc := 75) 82 dX12_thing_75 (by decide) h (fun h => ?_) (fun h => ?_)
  · refine E_iload_n (pc := 82) rfl dX12_thing_82 ?_
    refine E_iconst (pc := 83) 1 rfl dX12_thing_83 ?_
    refine T_icmp_ne (pc := 84) 91 dX12_thing_84 (by decide) h (fun h => ?_) (fun h => ?_)
    · refine E_iload_n (pc := 91) rfl dX12_thing_91 ?_
      refine E_iconst (pc := 92) 2 rfl dX12_thing_92 ?_
      refine T_icmp_ne (pc := 93) 100 dX12_thing_93 (by decide) h (fun h => ?_) (fun h => ?_)
      · refine E_iconst (pc := 100) 1 rfl dX12_thing_100 ?_
        refine e_X12_thing_101  h
      · refine E_iconst (pc := 96) 3 rfl dX12_thing_96 ?_
        refine E_goto (pc := 97) 101 (by decide) dX12_thing_97 ?_
        refine e_X12_thing_101  h
    · refine E_iconst (pc := 87) 5 rfl dX12_thing_87 ?_
      refine E_goto (pc := 88) 101 (by decide) dX12_thing_88 ?_
      refine e_X12_thing_101  h
  · refine E_iconst (pc := 78) 2 rfl dX12_thing_78 ?_
    refine E_goto (pc := 79) 101 (by decide) dX12_thing_79 ?_
    refine e_X12_thing_101  h
noncomputable def f_X12_thing (x1 : Int32) (x2 : Int32) (σ : ST) : Option (Int32 × ST) :=
    if x1 < 0 then
    (bd2 (f_X12_no (-1) σ) fun v2 s1 =>
    some (v2, s1))
    else (if (nI 3) < x1 then
    (bd2 (f_X12_no (-1) σ) fun v30 s29 =>
    some (v30, s29))
    else ((pfI σ 247 60 (nI 0)).bind fun s3 =>
    if (nI 1) < x1 then
    (bd2 (f_X12_noRow x2 s3) fun v19 s18 =>
    if v19 < 0 then
    (bd2 (f_X12_no v19 s18) fun v28 s27 =>
    some (v28, s27))
    else (bd2 (f_X12_conditionFault x2 s18) fun v21 s20 =>
    (pfI s20 247 21 v21).bind fun s22 =>
    if (s22.1 247 21) < 0 then
    ((rdI s22 264 8 x2).bind fun v23 =>
    (pfI s22 247 60 v23).bind fun s24 =>
    f_X12_thing_74 x1 x2 s24)
    else (bd2 (f_X12_no (-6) s22) fun v26 s25 =>
    some (v26, s25))))
    else (f_X12_thing_74 x1 x2 s3)))
theorem e_X12_thing {G : GP} {x1 : Int32} {x2 : Int32} {σ : ST} {v : Int32} {s : ST}  (h : f_X12_thing x1 x2 σ = some (v, s)) : E G mX12_thing (4, 87) 0 [.ref 247, .int x1, .int x2, D0, D0] [] (mem σ) (QI v s) := by
  unfold f_X12_thing at h
  refine E_iload_n (pc := 0) rfl dX12_thing_0 ?_
  refine T_if_lt (pc := 1) 9 dX12_thing_1 (by decide) h (fun h => ?_) (fun h => ?_)
  · refine E_aload_n (pc := 9) rfl dX12_thing_9 ?_
    refine E_im1 (pc := 10) dX12_thing_10 ?_
    obtain ⟨v2, s1, hp, h⟩ := bd2_some h
    refine E_callV (pc := 11) (As := [_]) (fc := (0, 0)) s12_175_12 oX12_no dX12_thing_11 (mem_ob (ent_st MO247)) rfl rfl (Nat.le_of_ble_eq_true rfl) rfl rfl (by decide) (e_X12_no hp) (fun rv_ M_ hq_ => ?_)
    obtain ⟨rfl, rfl⟩ := hq_
    exact E_ireturn (pc := 14) rfl rfl dX12_thing_14 (QI_of h)
  · refine E_iload_n (pc := 4) rfl dX12_thing_4 ?_
    refine E_iconst (pc := 5) 3 rfl dX12_thing_5 ?_
    refine T_icmp_le (pc := 6) 15 dX12_thing_6 (by decide) h (fun h => ?_) (fun h => ?_)
    · refine E_aload_n (pc := 15) rfl dX12_thing_15 ?_
      refine E_iconst (pc := 16) 0 rfl dX12_thing_16 ?_
      refine T_putI (pc := 17) f12_208 dX12_thing_17 (ent_st MO247) (by decide) rfl (by decide +kernel) h (fun s3 h => ?_)
      refine E_iload_n (pc := 20) rfl dX12_thing_20 ?_
      refine E_iconst (pc := 21) 1 rfl dX12_thing_21 ?_
      refine T_icmp_le (pc := 22) 74 dX12_thing_22 (by decide) h (fun h => ?_) (fun h => ?_)
      · refine e_X12_thing_74  h
      · refine E_aload_n (pc := 25) rfl dX12_thing_25 ?_
        refine E_iload_n (pc := 26) rfl dX12_thing_26 ?_
        obtain ⟨v19, s18, hp, h⟩ := bd2_some h
        refine E_callV (pc := 27) (As := [_]) (fc := (1, 21)) s12_182_12 oX12_noRow dX12_thing_27 (mem_ob (ent_st MO247)) rfl rfl (Nat.le_of_ble_eq_true rfl) rfl rfl (by decide) (e_X12_noRow hp) (fun rv_ M_ hq_ => ?_)
        obtain ⟨rfl, rfl⟩ := hq_
        refine E_istore_n (pc := 30) (L2 := [_, _, _, _, _]) rfl rfl dX12_thing_30 ?_
        refine E_iload_n (pc := 31) rfl dX12_thing_31 ?_
        refine T_if_ge (pc := 32) 41 dX12_thing_32 (by decide) h (fun h => ?_) (fun h => ?_)
        · refine E_aload_n (pc := 41) rfl dX12_thing_41 ?_
          refine E_aload_n (pc := 42) rfl dX12_thing_42 ?_
          refine E_iload_n (pc := 43) rfl dX12_thing_43 ?_
          obtain ⟨v21, s20, hp, h⟩ := bd2_some h
          refine E_callV (pc := 44) (As := [_]) (fc := (3, 66)) s12_211_12 oX12_conditionFault dX12_thing_44 (mem_ob (ent_st MO247)) rfl rfl (Nat.le_of_ble_eq_true rfl) rfl rfl (by decide) (e_X12_conditionFault hp) (fun rv_ M_ hq_ => ?_)
          obtain ⟨rfl, rfl⟩ := hq_
          refine T_putI (pc := 47) f12_65 dX12_thing_47 (ent_st MO247) (by decide) rfl (by decide +kernel) h (fun s22 h => ?_)
          refine E_aload_n (pc := 50) rfl dX12_thing_50 ?_
          refine R_getI (pc := 51) f12_65 dX12_thing_51 (ent_st MO247) (by decide) rfl ?_
          refine T_if_lt (pc := 54) 64 dX12_thing_54 (by decide) h (fun h => ?_) (fun h => ?_)
          · refine E_aload_n (pc := 64) rfl dX12_thing_64 ?_
            refine E_aload_n (pc := 65) rfl dX12_thing_65 ?_
            refine R_getR (pc := 66) (b := 264) f12_58 dX12_thing_66 (ent_st MO247) (by decide) rfl rfl ?_
            refine E_iload_n (pc := 69) rfl dX12_thing_69 ?_
            refine T_iald (pc := 70) dX12_thing_70 (ent_st MA264) (by decide) h (fun v23 h => ?_)
            refine T_putI (pc := 71) f12_208 dX12_thing_71 (ent_st MO247) (by decide) rfl (by decide +kernel) h (fun s24 h => ?_)
            refine E_kp [true, true, true, false, false] (L2 := [_, _, _, D0, D0]) rfl rfl ?_
            refine e_X12_thing_74  h
          · refine E_aload_n (pc := 57) rfl dX12_thing_57 ?_
            refine E_bipush (pc := 58) (-6) (by decide) dX12_thing_58 ?_
            obtain ⟨v26, s25, hp, h⟩ := bd2_some h
            refine E_callV (pc := 60) (As := [_]) (fc := (0, 0)) s12_175_12 oX12_no dX12_thing_60 (mem_ob (ent_st MO247)) rfl rfl (Nat.le_of_ble_eq_true rfl) rfl rfl (by decide) (e_X12_no hp) (fun rv_ M_ hq_ => ?_)
            obtain ⟨rfl, rfl⟩ := hq_
            exact E_ireturn (pc := 63) rfl rfl dX12_thing_63 (QI_of h)
        · refine E_aload_n (pc := 35) rfl dX12_thing_35 ?_
          refine E_iload_n (pc := 36) rfl dX12_thing_36 ?_
          obtain ⟨v28, s27, hp, h⟩ := bd2_some h
          refine E_callV (pc := 37) (As := [_]) (fc := (0, 0)) s12_175_12 oX12_no dX12_thing_37 (mem_ob (ent_st MO247)) rfl rfl (Nat.le_of_ble_eq_true rfl) rfl rfl (by decide) (e_X12_no hp) (fun rv_ M_ hq_ => ?_)
          obtain ⟨rfl, rfl⟩ := hq_
          exact E_ireturn (pc := 40) rfl rfl dX12_thing_40 (QI_of h)
    · refine E_aload_n (pc := 9) rfl dX12_thing_9 ?_
      refine E_im1 (pc := 10) dX12_thing_10 ?_
      obtain ⟨v30, s29, hp, h⟩ := bd2_some h
      refine E_callV (pc := 11) (As := [_]) (fc := (0, 0)) s12_175_12 oX12_no dX12_thing_11 (mem_ob (ent_st MO247)) rfl rfl (Nat.le_of_ble_eq_true rfl) rfl rfl (by decide) (e_X12_no hp) (fun rv_ M_ hq_ => ?_)
      obtain ⟨rfl, rfl⟩ := hq_
      exact E_ireturn (pc := 14) rfl rfl dX12_thing_14 (QI_of h)
noncomputable def f_X12_happening_78 (k117 : Int32 → Int32 → Int32 → ST → Option (Int32 × ST)) : Nat → Int32 → Int32 → Int32 → Int32 → ST → Option (Int32 × ST)
  | 0, _, _, _, _, _ => none
  | n + 1, x1, x2, x3, x5, sg =>
    (rdI sg 264 8 x1).bind fun v8 =>
    if x5 < v8 then
    (bd2 (f_X12_letter x1 x5 sg) fun v10 s9 =>
    (wrI s9 252 360 (((nI 60) * (sg.1 247 4)) + x5) v10).bind fun s11 =>
    (f_X12_happening_78 k117 n) x1 x2 x3 (x5 + nI 1) s11)
    else (k117 x1 x2 x3 sg)
theorem e_X12_happening_78 {G : GP} {k117 : Int32 → Int32 → Int32 → ST → Option (Int32 × ST)} {v : Int32} {s : ST} (hk117 : ∀ {x1 : Int32} {x2 : Int32} {x3 : Int32} {sg : ST}, k117 x1 x2 x3 sg = some (v, s) → E G mX12_happening (4, 89) 117 [.ref 247, .int x1, .int x2, .int x3, D0, D0] [] (mem sg) (QI v s)) : ∀ (n : Nat) {x1 : Int32} {x2 : Int32} {x3 : Int32} {x5 : Int32} {sg : ST}, f_X12_happening_78 k117 n x1 x2 x3 x5 sg = some (v, s) → E G mX12_happening (4, 89) 78 [.ref 247, .int x1, .int x2, .int x3, D0, .int x5] [] (mem sg) (QI v s) := by
  intro n
  induction n with
  | zero => intro _ _ _ _ _ h; rw [f_X12_happening_78] at h; cases h
  | succ n ih =>
    intro x1 x2 x3 x5 sg h
    rw [f_X12_happening_78] at h
    refine E_iload (pc := 78) rfl dX12_happening_78 ?_
    refine E_aload_n (pc := 80) rfl dX12_happening_80 ?_
    refine R_getR (pc := 81) (b := 264) f12_58 dX12_happening_81 (ent_st MO247) (by decide) rfl rfl ?_
    refine E_iload_n (pc := 84) rfl dX12_happening_84 ?_
    refine T_iald (pc := 85) dX12_happening_85 (ent_st MA264) (by decide) h (fun v8 h => ?_)
    refine T_icmp_ge (pc := 86) 117 dX12_happening_86 (by decide) h (fun h => ?_) (fun h => ?_)
    · refine E_kp [true, true, true, true, false, false] (L2 := [_, _, _, _, D0, D0]) rfl rfl ?_
      exact hk117 h
    · refine E_aload_n (pc := 89) rfl dX12_happening_89 ?_
      refine R_getR (pc := 90) (b := 252) f12_22 dX12_happening_90 (ent_st MO247) (by decide) rfl rfl ?_
      refine E_bipush (pc := 93) (nI 60) (by decide) dX12_happening_93 ?_
      refine E_aload_n (pc := 95) rfl dX12_happening_95 ?_
      refine R_getI (pc := 96) f12_162 dX12_happening_96 (ent_st MO247) (by decide) rfl ?_
      refine E_imul (pc := 99) dX12_happening_99 ?_
      refine E_iload (pc := 100) rfl dX12_happening_100 ?_
      refine E_iadd (pc := 102) dX12_happening_102 ?_
      refine E_aload_n (pc := 103) rfl dX12_happening_103 ?_
      refine E_iload_n (pc := 104) rfl dX12_happening_104 ?_
      refine E_iload (pc := 105) rfl dX12_happening_105 ?_
      obtain ⟨v10, s9, hp, h⟩ := bd2_some h
      refine E_callV (pc := 107) (As := [_, _]) (fc := (0, 0)) s12_197_12 oX12_letter dX12_happening_107 (mem_ob (ent_st MO247)) rfl rfl (Nat.le_of_ble_eq_true rfl) rfl rfl (by decide) (e_X12_letter hp) (fun rv_ M_ hq_ => ?_)
      obtain ⟨rfl, rfl⟩ := hq_
      refine T_iast (pc := 110) dX12_happening_110 (ent_st MA252) (by decide) h (fun s11 h => ?_)
      refine T_iinc (pc := 111) (m := 1) (L2 := [_, _, _, _, _, _]) rfl rfl rfl rfl dX12_happening_111 ?_
      refine E_goto (pc := 114) 78 (by decide) dX12_happening_114 ?_
      exact ih h
noncomputable def f_X12_happening_159 (z1 : Int32) (z2 : Int32) (sg : ST) : Option (Int32 × ST) :=
    (wrI sg 254 6 z1 z2).bind fun s19 =>
    (pfI s19 247 4 ((s19.1 247 4) + (nI 1))).bind fun s20 =>
    some (((s20.1 247 4) - (nI 1)), s20)
theorem e_X12_happening_159 {G : GP} {z1 : Int32} {z2 : Int32} {sg : ST} {v : Int32} {s : ST}  (h : f_X12_happening_159 z1 z2 sg = some (v, s)) : E G mX12_happening (4, 89) 159 [.ref 247, D0, D0, D0, D0, D0] [.int z2, .int z1, .ref 254] (mem sg) (QI v s) := by
  unfold f_X12_happening_159 at h
  refine T_iast (pc := 159) dX12_happening_159 (ent_st MA254) (by decide) h (fun s19 h => ?_)
  refine E_aload_n (pc := 160) rfl dX12_happening_160 ?_
  refine E_dup (pc := 161) rfl dX12_happening_161 ?_
  refine R_getI (pc := 162) f12_162 dX12_happening_162 (ent_st MO247) (by decide) rfl ?_
  refine E_iconst (pc := 165) 1 rfl dX12_happening_165 ?_
  refine E_iadd (pc := 166) dX12_happening_166 ?_
  refine T_putI (pc := 167) f12_162 dX12_happening_167 (ent_st MO247) (by decide) rfl (by decide +kernel) h (fun s20 h => ?_)
  refine E_aload_n (pc := 170) rfl dX12_happening_170 ?_
  refine R_getI (pc := 171) f12_162 dX12_happening_171 (ent_st MO247) (by decide) rfl ?_
  refine E_iconst (pc := 174) 1 rfl dX12_happening_174 ?_
  refine E_isub (pc := 175) dX12_happening_175 ?_
  exact E_ireturn (pc := 176) rfl rfl dX12_happening_176 (QI_of h)
noncomputable def f_X12_happening (x1 : Int32) (x2 : Int32) (x3 : Int32) (σ : ST) : Option (Int32 × ST) :=
    bd2 (f_X12_noRow x1 σ) fun v2 s1 =>
    if v2 < 0 then
    (bd2 (f_X12_no v2 s1) fun v28 s27 =>
    some (v28, s27))
    else (if x2 < 0 then
    (bd2 (f_X12_no (-6) s1) fun v4 s3 =>
    some (v4, s3))
    else (if (nI 99) < x2 then
    (bd2 (f_X12_no (-6) s1) fun v26 s25 =>
    some (v26, s25))
    else (bd2 (f_X12_lawFault x1 s1) fun v6 s5 =>
    (pfI s5 247 21 v6).bind fun s7 =>
    if (s7.1 247 21) < 0 then
    (if (s7.1 247 4) = (nI 6) then
    (bd2 (f_X12_no (-7) s7) fun v22 s21 =>
    some (v22, s21))
    else (f_X12_happening_78 (fun x1_12 x2_13 x3_14 s15 =>
    (rdI s15 264 8 x1_12).bind fun v16 =>
    (wrI s15 251 6 (s15.1 247 4) v16).bind fun s17 =>
    (wrI s17 253 6 (s17.1 247 4) x2_13).bind fun s18 =>
    if x3_14 = 0 then
    (f_X12_happening_159 (s18.1 247 4) (nI 0) s18)
    else (f_X12_happening_159 (s18.1 247 4) (nI 1) s18)) FU x1 x2 x3 (nI 0) s7))
    else (bd2 (f_X12_no (-6) s7) fun v24 s23 =>
    some (v24, s23)))))
theorem e_X12_happening {G : GP} {x1 : Int32} {x2 : Int32} {x3 : Int32} {σ : ST} {v : Int32} {s : ST}  (h : f_X12_happening x1 x2 x3 σ = some (v, s)) : E G mX12_happening (4, 89) 0 [.ref 247, .int x1, .int x2, .int x3, D0, D0] [] (mem σ) (QI v s) := by
  unfold f_X12_happening at h
  refine E_aload_n (pc := 0) rfl dX12_happening_0 ?_
  refine E_iload_n (pc := 1) rfl dX12_happening_1 ?_
  obtain ⟨v2, s1, hp, h⟩ := bd2_some h
  refine E_callV (pc := 2) (As := [_]) (fc := (1, 21)) s12_182_12 oX12_noRow dX12_happening_2 (mem_ob (ent_st MO247)) rfl rfl (Nat.le_of_ble_eq_true rfl) rfl rfl (by decide) (e_X12_noRow hp) (fun rv_ M_ hq_ => ?_)
  obtain ⟨rfl, rfl⟩ := hq_
  refine E_istore (pc := 5) (L2 := [_, _, _, _, _, _]) rfl rfl dX12_happening_5 ?_
  refine E_iload (pc := 7) rfl dX12_happening_7 ?_
  refine T_if_ge (pc := 9) 19 dX12_happening_9 (by decide) h (fun h => ?_) (fun h => ?_)
  · refine E_iload_n (pc := 19) rfl dX12_happening_19 ?_
    refine T_if_lt (pc := 20) 29 dX12_happening_20 (by decide) h (fun h => ?_) (fun h => ?_)
    · refine E_aload_n (pc := 29) rfl dX12_happening_29 ?_
      refine E_bipush (pc := 30) (-6) (by decide) dX12_happening_30 ?_
      obtain ⟨v4, s3, hp, h⟩ := bd2_some h
      refine E_callV (pc := 32) (As := [_]) (fc := (0, 0)) s12_175_12 oX12_no dX12_happening_32 (mem_ob (ent_st MO247)) rfl rfl (Nat.le_of_ble_eq_true rfl) rfl rfl (by decide) (e_X12_no hp) (fun rv_ M_ hq_ => ?_)
      obtain ⟨rfl, rfl⟩ := hq_
      exact E_ireturn (pc := 35) rfl rfl dX12_happening_35 (QI_of h)
    · refine E_iload_n (pc := 23) rfl dX12_happening_23 ?_
      refine E_bipush (pc := 24) (nI 99) (by decide) dX12_happening_24 ?_
      refine T_icmp_le (pc := 26) 36 dX12_happening_26 (by decide) h (fun h => ?_) (fun h => ?_)
      · refine E_aload_n (pc := 36) rfl dX12_happening_36 ?_
        refine E_aload_n (pc := 37) rfl dX12_happening_37 ?_
        refine E_iload_n (pc := 38) rfl dX12_happening_38 ?_
        obtain ⟨v6, s5, hp, h⟩ := bd2_some h
        refine E_callV (pc := 39) (As := [_]) (fc := (3, 66)) s12_217_12 oX12_lawFault dX12_happening_39 (mem_ob (ent_st MO247)) rfl rfl (Nat.le_of_ble_eq_true rfl) rfl rfl (by decide) (e_X12_lawFault hp) (fun rv_ M_ hq_ => ?_)
        obtain ⟨rfl, rfl⟩ := hq_
        refine T_putI (pc := 42) f12_65 dX12_happening_42 (ent_st MO247) (by decide) rfl (by decide +kernel) h (fun s7 h => ?_)
        refine E_aload_n (pc := 45) rfl dX12_happening_45 ?_
        refine R_getI (pc := 46) f12_65 dX12_happening_46 (ent_st MO247) (by decide) rfl ?_
        refine T_if_lt (pc := 49) 59 dX12_happening_49 (by decide) h (fun h => ?_) (fun h => ?_)
        · refine E_aload_n (pc := 59) rfl dX12_happening_59 ?_
          refine R_getI (pc := 60) f12_162 dX12_happening_60 (ent_st MO247) (by decide) rfl ?_
          refine E_bipush (pc := 63) (nI 6) (by decide) dX12_happening_63 ?_
          refine T_icmp_ne (pc := 65) 75 dX12_happening_65 (by decide) h (fun h => ?_) (fun h => ?_)
          · refine E_iconst (pc := 75) 0 rfl dX12_happening_75 ?_
            refine E_istore (pc := 76) (L2 := [_, _, _, _, _, _]) rfl rfl dX12_happening_76 ?_
            refine E_kp [true, true, true, true, false, true] (L2 := [_, _, _, _, D0, _]) rfl rfl ?_
            refine e_X12_happening_78 ?_ FU h
            · intro x1_12 x2_13 x3_14 s15 h
              refine E_aload_n (pc := 117) rfl dX12_happening_117 ?_
              refine R_getR (pc := 118) (b := 251) f12_19 dX12_happening_118 (ent_st MO247) (by decide) rfl rfl ?_
              refine E_aload_n (pc := 121) rfl dX12_happening_121 ?_
              refine R_getI (pc := 122) f12_162 dX12_happening_122 (ent_st MO247) (by decide) rfl ?_
              refine E_aload_n (pc := 125) rfl dX12_happening_125 ?_
              refine R_getR (pc := 126) (b := 264) f12_58 dX12_happening_126 (ent_st MO247) (by decide) rfl rfl ?_
              refine E_iload_n (pc := 129) rfl dX12_happening_129 ?_
              refine T_iald (pc := 130) dX12_happening_130 (ent_st MA264) (by decide) h (fun v16 h => ?_)
              refine T_iast (pc := 131) dX12_happening_131 (ent_st MA251) (by decide) h (fun s17 h => ?_)
              refine E_aload_n (pc := 132) rfl dX12_happening_132 ?_
              refine R_getR (pc := 133) (b := 253) f12_25 dX12_happening_133 (ent_st MO247) (by decide) rfl rfl ?_
              refine E_aload_n (pc := 136) rfl dX12_happening_136 ?_
              refine R_getI (pc := 137) f12_162 dX12_happening_137 (ent_st MO247) (by decide) rfl ?_
              refine E_iload_n (pc := 140) rfl dX12_happening_140 ?_
              refine T_iast (pc := 141) dX12_happening_141 (ent_st MA253) (by decide) h (fun s18 h => ?_)
              refine E_aload_n (pc := 142) rfl dX12_happening_142 ?_
              refine R_getR (pc := 143) (b := 254) f12_28 dX12_happening_143 (ent_st MO247) (by decide) rfl rfl ?_
              refine E_aload_n (pc := 146) rfl dX12_happening_146 ?_
              refine R_getI (pc := 147) f12_162 dX12_happening_147 (ent_st MO247) (by decide) rfl ?_
              refine E_iload_n (pc := 150) rfl dX12_happening_150 ?_
              refine T_if_eq (pc := 151) 158 dX12_happening_151 (by decide) h (fun h => ?_) (fun h => ?_)
              · refine E_iconst (pc := 158) 0 rfl dX12_happening_158 ?_
                refine E_kp [true, false, false, false, false, false] (L2 := [_, D0, D0, D0, D0, D0]) rfl rfl ?_
                refine e_X12_happening_159  h
              · refine E_iconst (pc := 154) 1 rfl dX12_happening_154 ?_
                refine E_goto (pc := 155) 159 (by decide) dX12_happening_155 ?_
                refine E_kp [true, false, false, false, false, false] (L2 := [_, D0, D0, D0, D0, D0]) rfl rfl ?_
                refine e_X12_happening_159  h
          · refine E_aload_n (pc := 68) rfl dX12_happening_68 ?_
            refine E_bipush (pc := 69) (-7) (by decide) dX12_happening_69 ?_
            obtain ⟨v22, s21, hp, h⟩ := bd2_some h
            refine E_callV (pc := 71) (As := [_]) (fc := (0, 0)) s12_175_12 oX12_no dX12_happening_71 (mem_ob (ent_st MO247)) rfl rfl (Nat.le_of_ble_eq_true rfl) rfl rfl (by decide) (e_X12_no hp) (fun rv_ M_ hq_ => ?_)
            obtain ⟨rfl, rfl⟩ := hq_
            exact E_ireturn (pc := 74) rfl rfl dX12_happening_74 (QI_of h)
        · refine E_aload_n (pc := 52) rfl dX12_happening_52 ?_
          refine E_bipush (pc := 53) (-6) (by decide) dX12_happening_53 ?_
          obtain ⟨v24, s23, hp, h⟩ := bd2_some h
          refine E_callV (pc := 55) (As := [_]) (fc := (0, 0)) s12_175_12 oX12_no dX12_happening_55 (mem_ob (ent_st MO247)) rfl rfl (Nat.le_of_ble_eq_true rfl) rfl rfl (by decide) (e_X12_no hp) (fun rv_ M_ hq_ => ?_)
          obtain ⟨rfl, rfl⟩ := hq_
          exact E_ireturn (pc := 58) rfl rfl dX12_happening_58 (QI_of h)
      · refine E_aload_n (pc := 29) rfl dX12_happening_29 ?_
        refine E_bipush (pc := 30) (-6) (by decide) dX12_happening_30 ?_
        obtain ⟨v26, s25, hp, h⟩ := bd2_some h
        refine E_callV (pc := 32) (As := [_]) (fc := (0, 0)) s12_175_12 oX12_no dX12_happening_32 (mem_ob (ent_st MO247)) rfl rfl (Nat.le_of_ble_eq_true rfl) rfl rfl (by decide) (e_X12_no hp) (fun rv_ M_ hq_ => ?_)
        obtain ⟨rfl, rfl⟩ := hq_
        exact E_ireturn (pc := 35) rfl rfl dX12_happening_35 (QI_of h)
  · refine E_aload_n (pc := 12) rfl dX12_happening_12 ?_
    refine E_iload (pc := 13) rfl dX12_happening_13 ?_
    obtain ⟨v28, s27, hp, h⟩ := bd2_some h
    refine E_callV (pc := 15) (As := [_]) (fc := (0, 0)) s12_175_12 oX12_no dX12_happening_15 (mem_ob (ent_st MO247)) rfl rfl (Nat.le_of_ble_eq_true rfl) rfl rfl (by decide) (e_X12_no hp) (fun rv_ M_ hq_ => ?_)
    obtain ⟨rfl, rfl⟩ := hq_
    exact E_ireturn (pc := 18) rfl rfl dX12_happening_18 (QI_of h)
noncomputable def f_X12_fault (σ : ST) : Option (Int32 × ST) :=
    some ((σ.1 247 21), σ)
theorem e_X12_fault {G : GP} {σ : ST} {v : Int32} {s : ST}  (h : f_X12_fault σ = some (v, s)) : E G mX12_fault (0, 0) 0 [.ref 247] [] (mem σ) (QI v s) := by
  unfold f_X12_fault at h
  refine E_aload_n (pc := 0) rfl dX12_fault_0 ?_
  refine R_getI (pc := 1) f12_65 dX12_fault_1 (ent_st MO247) (by decide) rfl ?_
  exact E_ireturn (pc := 4) rfl rfl dX12_fault_4 (QI_of h)
noncomputable def f_X12_price (x1 : Int32) (x2 : Int32) (σ : ST) : Option (Int32 × ST) :=
    bd2 (f_X12_isHappening x1 σ) fun v2 s1 =>
    if v2 = 0 then
    (bd2 (f_X12_no (-1) s1) fun v10 s9 =>
    some (v10, s9))
    else (if x2 < 0 then
    (bd2 (f_X12_no (-6) s1) fun v4 s3 =>
    some (v4, s3))
    else (if (nI 99) < x2 then
    (bd2 (f_X12_no (-6) s1) fun v8 s7 =>
    some (v8, s7))
    else ((rdI s1 253 6 x1).bind fun v5 =>
    (wrI s1 253 6 x1 x2).bind fun s6 =>
    some (v5, s6))))
theorem e_X12_price {G : GP} {x1 : Int32} {x2 : Int32} {σ : ST} {v : Int32} {s : ST}  (h : f_X12_price x1 x2 σ = some (v, s)) : E G mX12_price (1, 21) 0 [.ref 247, .int x1, .int x2, D0] [] (mem σ) (QI v s) := by
  unfold f_X12_price at h
  refine E_aload_n (pc := 0) rfl dX12_price_0 ?_
  refine E_iload_n (pc := 1) rfl dX12_price_1 ?_
  obtain ⟨v2, s1, hp, h⟩ := bd2_some h
  refine E_callV (pc := 2) (As := [_]) (fc := (0, 0)) s12_220_12 oX12_isHappening dX12_price_2 (mem_ob (ent_st MO247)) rfl rfl (Nat.le_of_ble_eq_true rfl) rfl rfl (by decide) (e_X12_isHappening hp) (fun rv_ M_ hq_ => ?_)
  obtain ⟨rfl, rfl⟩ := hq_
  refine T_if_ne (pc := 5) 14 dX12_price_5 (by decide) h (fun h => ?_) (fun h => ?_)
  · refine E_iload_n (pc := 14) rfl dX12_price_14 ?_
    refine T_if_lt (pc := 15) 24 dX12_price_15 (by decide) h (fun h => ?_) (fun h => ?_)
    · refine E_aload_n (pc := 24) rfl dX12_price_24 ?_
      refine E_bipush (pc := 25) (-6) (by decide) dX12_price_25 ?_
      obtain ⟨v4, s3, hp, h⟩ := bd2_some h
      refine E_callV (pc := 27) (As := [_]) (fc := (0, 0)) s12_175_12 oX12_no dX12_price_27 (mem_ob (ent_st MO247)) rfl rfl (Nat.le_of_ble_eq_true rfl) rfl rfl (by decide) (e_X12_no hp) (fun rv_ M_ hq_ => ?_)
      obtain ⟨rfl, rfl⟩ := hq_
      exact E_ireturn (pc := 30) rfl rfl dX12_price_30 (QI_of h)
    · refine E_iload_n (pc := 18) rfl dX12_price_18 ?_
      refine E_bipush (pc := 19) (nI 99) (by decide) dX12_price_19 ?_
      refine T_icmp_le (pc := 21) 31 dX12_price_21 (by decide) h (fun h => ?_) (fun h => ?_)
      · refine E_aload_n (pc := 31) rfl dX12_price_31 ?_
        refine R_getR (pc := 32) (b := 253) f12_25 dX12_price_32 (ent_st MO247) (by decide) rfl rfl ?_
        refine E_iload_n (pc := 35) rfl dX12_price_35 ?_
        refine T_iald (pc := 36) dX12_price_36 (ent_st MA253) (by decide) h (fun v5 h => ?_)
        refine E_istore_n (pc := 37) (L2 := [_, _, _, _]) rfl rfl dX12_price_37 ?_
        refine E_aload_n (pc := 38) rfl dX12_price_38 ?_
        refine R_getR (pc := 39) (b := 253) f12_25 dX12_price_39 (ent_st MO247) (by decide) rfl rfl ?_
        refine E_iload_n (pc := 42) rfl dX12_price_42 ?_
        refine E_iload_n (pc := 43) rfl dX12_price_43 ?_
        refine T_iast (pc := 44) dX12_price_44 (ent_st MA253) (by decide) h (fun s6 h => ?_)
        refine E_iload_n (pc := 45) rfl dX12_price_45 ?_
        exact E_ireturn (pc := 46) rfl rfl dX12_price_46 (QI_of h)
      · refine E_aload_n (pc := 24) rfl dX12_price_24 ?_
        refine E_bipush (pc := 25) (-6) (by decide) dX12_price_25 ?_
        obtain ⟨v8, s7, hp, h⟩ := bd2_some h
        refine E_callV (pc := 27) (As := [_]) (fc := (0, 0)) s12_175_12 oX12_no dX12_price_27 (mem_ob (ent_st MO247)) rfl rfl (Nat.le_of_ble_eq_true rfl) rfl rfl (by decide) (e_X12_no hp) (fun rv_ M_ hq_ => ?_)
        obtain ⟨rfl, rfl⟩ := hq_
        exact E_ireturn (pc := 30) rfl rfl dX12_price_30 (QI_of h)
  · refine E_aload_n (pc := 8) rfl dX12_price_8 ?_
    refine E_im1 (pc := 9) dX12_price_9 ?_
    obtain ⟨v10, s9, hp, h⟩ := bd2_some h
    refine E_callV (pc := 10) (As := [_]) (fc := (0, 0)) s12_175_12 oX12_no dX12_price_10 (mem_ob (ent_st MO247)) rfl rfl (Nat.le_of_ble_eq_true rfl) rfl rfl (by decide) (e_X12_no hp) (fun rv_ M_ hq_ => ?_)
    obtain ⟨rfl, rfl⟩ := hq_
    exact E_ireturn (pc := 13) rfl rfl dX12_price_13 (QI_of h)
noncomputable def f_X12_weigh (x1 : Int32) (x2 : Int32) (σ : ST) : Option (Int32 × ST) :=
    bd2 (f_X12_isMouth x1 σ) fun v2 s1 =>
    if v2 = 0 then
    (bd2 (f_X12_no (-1) s1) fun v10 s9 =>
    some (v10, s9))
    else (if x2 < 0 then
    (bd2 (f_X12_no (-6) s1) fun v4 s3 =>
    some (v4, s3))
    else (if (nI 99) < x2 then
    (bd2 (f_X12_no (-6) s1) fun v8 s7 =>
    some (v8, s7))
    else ((rdI s1 262 6 x1).bind fun v5 =>
    (wrI s1 262 6 x1 x2).bind fun s6 =>
    some (v5, s6))))
theorem e_X12_weigh {G : GP} {x1 : Int32} {x2 : Int32} {σ : ST} {v : Int32} {s : ST}  (h : f_X12_weigh x1 x2 σ = some (v, s)) : E G mX12_weigh (1, 21) 0 [.ref 247, .int x1, .int x2, D0] [] (mem σ) (QI v s) := by
  unfold f_X12_weigh at h
  refine E_aload_n (pc := 0) rfl dX12_weigh_0 ?_
  refine E_iload_n (pc := 1) rfl dX12_weigh_1 ?_
  obtain ⟨v2, s1, hp, h⟩ := bd2_some h
  refine E_callV (pc := 2) (As := [_]) (fc := (0, 0)) s12_223_12 oX12_isMouth dX12_weigh_2 (mem_ob (ent_st MO247)) rfl rfl (Nat.le_of_ble_eq_true rfl) rfl rfl (by decide) (e_X12_isMouth hp) (fun rv_ M_ hq_ => ?_)
  obtain ⟨rfl, rfl⟩ := hq_
  refine T_if_ne (pc := 5) 14 dX12_weigh_5 (by decide) h (fun h => ?_) (fun h => ?_)
  · refine E_iload_n (pc := 14) rfl dX12_weigh_14 ?_
    refine T_if_lt (pc := 15) 24 dX12_weigh_15 (by decide) h (fun h => ?_) (fun h => ?_)
    · refine E_aload_n (pc := 24) rfl dX12_weigh_24 ?_
      refine E_bipush (pc := 25) (-6) (by decide) dX12_weigh_25 ?_
      obtain ⟨v4, s3, hp, h⟩ := bd2_some h
      refine E_callV (pc := 27) (As := [_]) (fc := (0, 0)) s12_175_12 oX12_no dX12_weigh_27 (mem_ob (ent_st MO247)) rfl rfl (Nat.le_of_ble_eq_true rfl) rfl rfl (by decide) (e_X12_no hp) (fun rv_ M_ hq_ => ?_)
      obtain ⟨rfl, rfl⟩ := hq_
      exact E_ireturn (pc := 30) rfl rfl dX12_weigh_30 (QI_of h)
    · refine E_iload_n (pc := 18) rfl dX12_weigh_18 ?_
      refine E_bipush (pc := 19) (nI 99) (by decide) dX12_weigh_19 ?_
      refine T_icmp_le (pc := 21) 31 dX12_weigh_21 (by decide) h (fun h => ?_) (fun h => ?_)
      · refine E_aload_n (pc := 31) rfl dX12_weigh_31 ?_
        refine R_getR (pc := 32) (b := 262) f12_52 dX12_weigh_32 (ent_st MO247) (by decide) rfl rfl ?_
        refine E_iload_n (pc := 35) rfl dX12_weigh_35 ?_
        refine T_iald (pc := 36) dX12_weigh_36 (ent_st MA262) (by decide) h (fun v5 h => ?_)
        refine E_istore_n (pc := 37) (L2 := [_, _, _, _]) rfl rfl dX12_weigh_37 ?_
        refine E_aload_n (pc := 38) rfl dX12_weigh_38 ?_
        refine R_getR (pc := 39) (b := 262) f12_52 dX12_weigh_39 (ent_st MO247) (by decide) rfl rfl ?_
        refine E_iload_n (pc := 42) rfl dX12_weigh_42 ?_
        refine E_iload_n (pc := 43) rfl dX12_weigh_43 ?_
        refine T_iast (pc := 44) dX12_weigh_44 (ent_st MA262) (by decide) h (fun s6 h => ?_)
        refine E_iload_n (pc := 45) rfl dX12_weigh_45 ?_
        exact E_ireturn (pc := 46) rfl rfl dX12_weigh_46 (QI_of h)
      · refine E_aload_n (pc := 24) rfl dX12_weigh_24 ?_
        refine E_bipush (pc := 25) (-6) (by decide) dX12_weigh_25 ?_
        obtain ⟨v8, s7, hp, h⟩ := bd2_some h
        refine E_callV (pc := 27) (As := [_]) (fc := (0, 0)) s12_175_12 oX12_no dX12_weigh_27 (mem_ob (ent_st MO247)) rfl rfl (Nat.le_of_ble_eq_true rfl) rfl rfl (by decide) (e_X12_no hp) (fun rv_ M_ hq_ => ?_)
        obtain ⟨rfl, rfl⟩ := hq_
        exact E_ireturn (pc := 30) rfl rfl dX12_weigh_30 (QI_of h)
  · refine E_aload_n (pc := 8) rfl dX12_weigh_8 ?_
    refine E_im1 (pc := 9) dX12_weigh_9 ?_
    obtain ⟨v10, s9, hp, h⟩ := bd2_some h
    refine E_callV (pc := 10) (As := [_]) (fc := (0, 0)) s12_175_12 oX12_no dX12_weigh_10 (mem_ob (ent_st MO247)) rfl rfl (Nat.le_of_ble_eq_true rfl) rfl rfl (by decide) (e_X12_no hp) (fun rv_ M_ hq_ => ?_)
    obtain ⟨rfl, rfl⟩ := hq_
    exact E_ireturn (pc := 13) rfl rfl dX12_weigh_13 (QI_of h)
noncomputable def f_X12_piece (x1 : Int32) (x2 : Int32) (x3 : Int32) (x4 : Int32) (x5 : Int32) (x6 : Int32) (σ : ST) : Option (Int32 × ST) :=
    (wrI σ 255 16 (σ.1 247 9) x1).bind fun s1 =>
    (wrI s1 256 16 (s1.1 247 9) x2).bind fun s2 =>
    (wrI s2 257 16 (s2.1 247 9) x3).bind fun s3 =>
    (wrI s3 258 16 (s3.1 247 9) x4).bind fun s4 =>
    (wrI s4 259 16 (s4.1 247 9) x5).bind fun s5 =>
    (wrI s5 260 16 (s5.1 247 9) x6).bind fun s6 =>
    (wrI s6 261 16 (s6.1 247 9) (nI 0)).bind fun s7 =>
    (pfI s7 247 9 ((s7.1 247 9) + (nI 1))).bind fun s8 =>
    some (((s8.1 247 9) - (nI 1)), s8)
theorem e_X12_piece {G : GP} {x1 : Int32} {x2 : Int32} {x3 : Int32} {x4 : Int32} {x5 : Int32} {x6 : Int32} {σ : ST} {v : Int32} {s : ST}  (h : f_X12_piece x1 x2 x3 x4 x5 x6 σ = some (v, s)) : E G mX12_piece (0, 0) 0 [.ref 247, .int x1, .int x2, .int x3, .int x4, .int x5, .int x6] [] (mem σ) (QI v s) := by
  unfold f_X12_piece at h
  refine E_aload_n (pc := 0) rfl dX12_piece_0 ?_
  refine R_getR (pc := 1) (b := 255) f12_31 dX12_piece_1 (ent_st MO247) (by decide) rfl rfl ?_
  refine E_aload_n (pc := 4) rfl dX12_piece_4 ?_
  refine R_getI (pc := 5) f12_165 dX12_piece_5 (ent_st MO247) (by decide) rfl ?_
  refine E_iload_n (pc := 8) rfl dX12_piece_8 ?_
  refine T_iast (pc := 9) dX12_piece_9 (ent_st MA255) (by decide) h (fun s1 h => ?_)
  refine E_aload_n (pc := 10) rfl dX12_piece_10 ?_
  refine R_getR (pc := 11) (b := 256) f12_34 dX12_piece_11 (ent_st MO247) (by decide) rfl rfl ?_
  refine E_aload_n (pc := 14) rfl dX12_piece_14 ?_
  refine R_getI (pc := 15) f12_165 dX12_piece_15 (ent_st MO247) (by decide) rfl ?_
  refine E_iload_n (pc := 18) rfl dX12_piece_18 ?_
  refine T_iast (pc := 19) dX12_piece_19 (ent_st MA256) (by decide) h (fun s2 h => ?_)
  refine E_aload_n (pc := 20) rfl dX12_piece_20 ?_
  refine R_getR (pc := 21) (b := 257) f12_37 dX12_piece_21 (ent_st MO247) (by decide) rfl rfl ?_
  refine E_aload_n (pc := 24) rfl dX12_piece_24 ?_
  refine R_getI (pc := 25) f12_165 dX12_piece_25 (ent_st MO247) (by decide) rfl ?_
  refine E_iload_n (pc := 28) rfl dX12_piece_28 ?_
  refine T_iast (pc := 29) dX12_piece_29 (ent_st MA257) (by decide) h (fun s3 h => ?_)
  refine E_aload_n (pc := 30) rfl dX12_piece_30 ?_
  refine R_getR (pc := 31) (b := 258) f12_40 dX12_piece_31 (ent_st MO247) (by decide) rfl rfl ?_
  refine E_aload_n (pc := 34) rfl dX12_piece_34 ?_
  refine R_getI (pc := 35) f12_165 dX12_piece_35 (ent_st MO247) (by decide) rfl ?_
  refine E_iload (pc := 38) rfl dX12_piece_38 ?_
  refine T_iast (pc := 40) dX12_piece_40 (ent_st MA258) (by decide) h (fun s4 h => ?_)
  refine E_aload_n (pc := 41) rfl dX12_piece_41 ?_
  refine R_getR (pc := 42) (b := 259) f12_43 dX12_piece_42 (ent_st MO247) (by decide) rfl rfl ?_
  refine E_aload_n (pc := 45) rfl dX12_piece_45 ?_
  refine R_getI (pc := 46) f12_165 dX12_piece_46 (ent_st MO247) (by decide) rfl ?_
  refine E_iload (pc := 49) rfl dX12_piece_49 ?_
  refine T_iast (pc := 51) dX12_piece_51 (ent_st MA259) (by decide) h (fun s5 h => ?_)
  refine E_aload_n (pc := 52) rfl dX12_piece_52 ?_
  refine R_getR (pc := 53) (b := 260) f12_46 dX12_piece_53 (ent_st MO247) (by decide) rfl rfl ?_
  refine E_aload_n (pc := 56) rfl dX12_piece_56 ?_
  refine R_getI (pc := 57) f12_165 dX12_piece_57 (ent_st MO247) (by decide) rfl ?_
  refine E_iload (pc := 60) rfl dX12_piece_60 ?_
  refine T_iast (pc := 62) dX12_piece_62 (ent_st MA260) (by decide) h (fun s6 h => ?_)
  refine E_aload_n (pc := 63) rfl dX12_piece_63 ?_
  refine R_getR (pc := 64) (b := 261) f12_49 dX12_piece_64 (ent_st MO247) (by decide) rfl rfl ?_
  refine E_aload_n (pc := 67) rfl dX12_piece_67 ?_
  refine R_getI (pc := 68) f12_165 dX12_piece_68 (ent_st MO247) (by decide) rfl ?_
  refine E_iconst (pc := 71) 0 rfl dX12_piece_71 ?_
  refine T_iast (pc := 72) dX12_piece_72 (ent_st MA261) (by decide) h (fun s7 h => ?_)
  refine E_aload_n (pc := 73) rfl dX12_piece_73 ?_
  refine E_dup (pc := 74) rfl dX12_piece_74 ?_
  refine R_getI (pc := 75) f12_165 dX12_piece_75 (ent_st MO247) (by decide) rfl ?_
  refine E_iconst (pc := 78) 1 rfl dX12_piece_78 ?_
  refine E_iadd (pc := 79) dX12_piece_79 ?_
  refine T_putI (pc := 80) f12_165 dX12_piece_80 (ent_st MO247) (by decide) rfl (by decide +kernel) h (fun s8 h => ?_)
  refine E_aload_n (pc := 83) rfl dX12_piece_83 ?_
  refine R_getI (pc := 84) f12_165 dX12_piece_84 (ent_st MO247) (by decide) rfl ?_
  refine E_iconst (pc := 87) 1 rfl dX12_piece_87 ?_
  refine E_isub (pc := 88) dX12_piece_88 ?_
  exact E_ireturn (pc := 89) rfl rfl dX12_piece_89 (QI_of h)
noncomputable def f_X12_spanPieces_4 : Nat → Int32 → Int32 → ST → Option (Int32 × ST)
  | 0, _, _, _ => none
  | n + 1, x1, x2, sg =>
    if x2 < (sg.1 247 9) then
    ((rdI sg 255 16 x2).bind fun v1 =>
    if v1 = (nI 1) then
    ((f_X12_spanPieces_4 n) (x1 + nI 1) (x2 + nI 1) sg)
    else ((f_X12_spanPieces_4 n) x1 (x2 + nI 1) sg))
    else (some (x1, sg))
theorem e_X12_spanPieces_4 {G : GP} {v : Int32} {s : ST}  : ∀ (n : Nat) {x1 : Int32} {x2 : Int32} {sg : ST}, f_X12_spanPieces_4 n x1 x2 sg = some (v, s) → E G mX12_spanPieces (0, 0) 4 [.ref 247, .int x1, .int x2] [] (mem sg) (QI v s) := by
  intro n
  induction n with
  | zero => intro _ _ _ h; rw [f_X12_spanPieces_4] at h; cases h
  | succ n ih =>
    intro x1 x2 sg h
    rw [f_X12_spanPieces_4] at h
    refine E_iload_n (pc := 4) rfl dX12_spanPieces_4 ?_
    refine E_aload_n (pc := 5) rfl dX12_spanPieces_5 ?_
    refine R_getI (pc := 6) f12_165 dX12_spanPieces_6 (ent_st MO247) (by decide) rfl ?_
    refine T_icmp_ge (pc := 9) 31 dX12_spanPieces_9 (by decide) h (fun h => ?_) (fun h => ?_)
    · refine E_iload_n (pc := 31) rfl dX12_spanPieces_31 ?_
      exact E_ireturn (pc := 32) rfl rfl dX12_spanPieces_32 (QI_of h)
    · refine E_aload_n (pc := 12) rfl dX12_spanPieces_12 ?_
      refine R_getR (pc := 13) (b := 255) f12_31 dX12_spanPieces_13 (ent_st MO247) (by decide) rfl rfl ?_
      refine E_iload_n (pc := 16) rfl dX12_spanPieces_16 ?_
      refine T_iald (pc := 17) dX12_spanPieces_17 (ent_st MA255) (by decide) h (fun v1 h => ?_)
      refine E_iconst (pc := 18) 1 rfl dX12_spanPieces_18 ?_
      refine T_icmp_ne (pc := 19) 25 dX12_spanPieces_19 (by decide) h (fun h => ?_) (fun h => ?_)
      · refine T_iinc (pc := 25) (m := 1) (L2 := [_, _, _]) rfl rfl rfl rfl dX12_spanPieces_25 ?_
        refine E_goto (pc := 28) 4 (by decide) dX12_spanPieces_28 ?_
        exact ih h
      · refine T_iinc (pc := 22) (m := 1) (L2 := [_, _, _]) rfl rfl rfl rfl dX12_spanPieces_22 ?_
        refine T_iinc (pc := 25) (m := 1) (L2 := [_, _, _]) rfl rfl rfl rfl dX12_spanPieces_25 ?_
        refine E_goto (pc := 28) 4 (by decide) dX12_spanPieces_28 ?_
        exact ih h
noncomputable def f_X12_spanPieces (σ : ST) : Option (Int32 × ST) :=
    f_X12_spanPieces_4 FU (nI 0) (nI 0) σ
theorem e_X12_spanPieces {G : GP} {σ : ST} {v : Int32} {s : ST}  (h : f_X12_spanPieces σ = some (v, s)) : E G mX12_spanPieces (0, 0) 0 [.ref 247, D0, D0] [] (mem σ) (QI v s) := by
  unfold f_X12_spanPieces at h
  refine E_iconst (pc := 0) 0 rfl dX12_spanPieces_0 ?_
  refine E_istore_n (pc := 1) (L2 := [_, _, _]) rfl rfl dX12_spanPieces_1 ?_
  refine E_iconst (pc := 2) 0 rfl dX12_spanPieces_2 ?_
  refine E_istore_n (pc := 3) (L2 := [_, _, _]) rfl rfl dX12_spanPieces_3 ?_
  refine e_X12_spanPieces_4  FU h
noncomputable def f_X12_seen (x1 : Int32) (x2 : Int32) (x3 : Int32) (σ : ST) : Option (Int32 × ST) :=
    bd2 (f_X12_isHappening x1 σ) fun v2 s1 =>
    if v2 = 0 then
    (bd2 (f_X12_no (-1) s1) fun v4 s3 =>
    some (v4, s3))
    else (bd2 (f_X12_isMouth x3 s1) fun v6 s5 =>
    if v6 = 0 then
    (bd2 (f_X12_no (-1) s5) fun v16 s15 =>
    some (v16, s15))
    else (bd2 (f_X12_isHour x2 s5) fun v8 s7 =>
    if v8 = 0 then
    (bd2 (f_X12_no (-6) s7) fun v14 s13 =>
    some (v14, s13))
    else (if (s7.1 247 9) = (nI 16) then
    (bd2 (f_X12_no (-7) s7) fun v12 s11 =>
    some (v12, s11))
    else (bd2 (f_X12_piece (nI 0) x1 x2 x2 (nI 0) x3 s7) fun v10 s9 =>
    some (v10, s9)))))
theorem e_X12_seen {G : GP} {x1 : Int32} {x2 : Int32} {x3 : Int32} {σ : ST} {v : Int32} {s : ST}  (h : f_X12_seen x1 x2 x3 σ = some (v, s)) : E G mX12_seen (1, 26) 0 [.ref 247, .int x1, .int x2, .int x3] [] (mem σ) (QI v s) := by
  unfold f_X12_seen at h
  refine E_aload_n (pc := 0) rfl dX12_seen_0 ?_
  refine E_iload_n (pc := 1) rfl dX12_seen_1 ?_
  obtain ⟨v2, s1, hp, h⟩ := bd2_some h
  refine E_callV (pc := 2) (As := [_]) (fc := (0, 0)) s12_220_12 oX12_isHappening dX12_seen_2 (mem_ob (ent_st MO247)) rfl rfl (Nat.le_of_ble_eq_true rfl) rfl rfl (by decide) (e_X12_isHappening hp) (fun rv_ M_ hq_ => ?_)
  obtain ⟨rfl, rfl⟩ := hq_
  refine T_if_eq (pc := 5) 16 dX12_seen_5 (by decide) h (fun h => ?_) (fun h => ?_)
  · refine E_aload_n (pc := 16) rfl dX12_seen_16 ?_
    refine E_im1 (pc := 17) dX12_seen_17 ?_
    obtain ⟨v4, s3, hp, h⟩ := bd2_some h
    refine E_callV (pc := 18) (As := [_]) (fc := (0, 0)) s12_175_12 oX12_no dX12_seen_18 (mem_ob (ent_st MO247)) rfl rfl (Nat.le_of_ble_eq_true rfl) rfl rfl (by decide) (e_X12_no hp) (fun rv_ M_ hq_ => ?_)
    obtain ⟨rfl, rfl⟩ := hq_
    exact E_ireturn (pc := 21) rfl rfl dX12_seen_21 (QI_of h)
  · refine E_aload_n (pc := 8) rfl dX12_seen_8 ?_
    refine E_iload_n (pc := 9) rfl dX12_seen_9 ?_
    obtain ⟨v6, s5, hp, h⟩ := bd2_some h
    refine E_callV (pc := 10) (As := [_]) (fc := (0, 0)) s12_223_12 oX12_isMouth dX12_seen_10 (mem_ob (ent_st MO247)) rfl rfl (Nat.le_of_ble_eq_true rfl) rfl rfl (by decide) (e_X12_isMouth hp) (fun rv_ M_ hq_ => ?_)
    obtain ⟨rfl, rfl⟩ := hq_
    refine T_if_ne (pc := 13) 22 dX12_seen_13 (by decide) h (fun h => ?_) (fun h => ?_)
    · refine E_aload_n (pc := 22) rfl dX12_seen_22 ?_
      refine E_iload_n (pc := 23) rfl dX12_seen_23 ?_
      obtain ⟨v8, s7, hp, h⟩ := bd2_some h
      refine E_callV (pc := 24) (As := [_]) (fc := (0, 0)) s12_168_12 oX12_isHour dX12_seen_24 (mem_ob (ent_st MO247)) rfl rfl (Nat.le_of_ble_eq_true rfl) rfl rfl (by decide) (e_X12_isHour hp) (fun rv_ M_ hq_ => ?_)
      obtain ⟨rfl, rfl⟩ := hq_
      refine T_if_ne (pc := 27) 37 dX12_seen_27 (by decide) h (fun h => ?_) (fun h => ?_)
      · refine E_aload_n (pc := 37) rfl dX12_seen_37 ?_
        refine R_getI (pc := 38) f12_165 dX12_seen_38 (ent_st MO247) (by decide) rfl ?_
        refine E_bipush (pc := 41) (nI 16) (by decide) dX12_seen_41 ?_
        refine T_icmp_ne (pc := 43) 53 dX12_seen_43 (by decide) h (fun h => ?_) (fun h => ?_)
        · refine E_aload_n (pc := 53) rfl dX12_seen_53 ?_
          refine E_iconst (pc := 54) 0 rfl dX12_seen_54 ?_
          refine E_iload_n (pc := 55) rfl dX12_seen_55 ?_
          refine E_iload_n (pc := 56) rfl dX12_seen_56 ?_
          refine E_iload_n (pc := 57) rfl dX12_seen_57 ?_
          refine E_iconst (pc := 58) 0 rfl dX12_seen_58 ?_
          refine E_iload_n (pc := 59) rfl dX12_seen_59 ?_
          obtain ⟨v10, s9, hp, h⟩ := bd2_some h
          refine E_callV (pc := 60) (As := [_, _, _, _, _, _]) (fc := (0, 0)) s12_226_12 oX12_piece dX12_seen_60 (mem_ob (ent_st MO247)) rfl rfl (Nat.le_of_ble_eq_true rfl) rfl rfl (by decide) (e_X12_piece hp) (fun rv_ M_ hq_ => ?_)
          obtain ⟨rfl, rfl⟩ := hq_
          exact E_ireturn (pc := 63) rfl rfl dX12_seen_63 (QI_of h)
        · refine E_aload_n (pc := 46) rfl dX12_seen_46 ?_
          refine E_bipush (pc := 47) (-7) (by decide) dX12_seen_47 ?_
          obtain ⟨v12, s11, hp, h⟩ := bd2_some h
          refine E_callV (pc := 49) (As := [_]) (fc := (0, 0)) s12_175_12 oX12_no dX12_seen_49 (mem_ob (ent_st MO247)) rfl rfl (Nat.le_of_ble_eq_true rfl) rfl rfl (by decide) (e_X12_no hp) (fun rv_ M_ hq_ => ?_)
          obtain ⟨rfl, rfl⟩ := hq_
          exact E_ireturn (pc := 52) rfl rfl dX12_seen_52 (QI_of h)
      · refine E_aload_n (pc := 30) rfl dX12_seen_30 ?_
        refine E_bipush (pc := 31) (-6) (by decide) dX12_seen_31 ?_
        obtain ⟨v14, s13, hp, h⟩ := bd2_some h
        refine E_callV (pc := 33) (As := [_]) (fc := (0, 0)) s12_175_12 oX12_no dX12_seen_33 (mem_ob (ent_st MO247)) rfl rfl (Nat.le_of_ble_eq_true rfl) rfl rfl (by decide) (e_X12_no hp) (fun rv_ M_ hq_ => ?_)
        obtain ⟨rfl, rfl⟩ := hq_
        exact E_ireturn (pc := 36) rfl rfl dX12_seen_36 (QI_of h)
    · refine E_aload_n (pc := 16) rfl dX12_seen_16 ?_
      refine E_im1 (pc := 17) dX12_seen_17 ?_
      obtain ⟨v16, s15, hp, h⟩ := bd2_some h
      refine E_callV (pc := 18) (As := [_]) (fc := (0, 0)) s12_175_12 oX12_no dX12_seen_18 (mem_ob (ent_st MO247)) rfl rfl (Nat.le_of_ble_eq_true rfl) rfl rfl (by decide) (e_X12_no hp) (fun rv_ M_ hq_ => ?_)
      obtain ⟨rfl, rfl⟩ := hq_
      exact E_ireturn (pc := 21) rfl rfl dX12_seen_21 (QI_of h)
noncomputable def f_X12_span_68 (x1 : Int32) (x2 : Int32) (x3 : Int32) (x4 : Int32) (x5 : Int32) (sg : ST) : Option (Int32 × ST) :=
    if x4 = 0 then
    (bd2 (f_X12_piece (nI 1) x1 x2 x3 (nI 0) x5 sg) fun v12 s11 =>
    some (v12, s11))
    else (bd2 (f_X12_piece (nI 3) x1 x2 x3 (nI 0) x5 sg) fun v14 s13 =>
    some (v14, s13))
theorem e_X12_span_68 {G : GP} {x1 : Int32} {x2 : Int32} {x3 : Int32} {x4 : Int32} {x5 : Int32} {sg : ST} {v : Int32} {s : ST}  (h : f_X12_span_68 x1 x2 x3 x4 x5 sg = some (v, s)) : E G mX12_span (2, 43) 68 [.ref 247, .int x1, .int x2, .int x3, .int x4, .int x5] [] (mem sg) (QI v s) := by
  unfold f_X12_span_68 at h
  refine E_aload_n (pc := 68) rfl dX12_span_68 ?_
  refine E_iload (pc := 69) rfl dX12_span_69 ?_
  refine T_if_eq (pc := 71) 78 dX12_span_71 (by decide) h (fun h => ?_) (fun h => ?_)
  · refine E_iconst (pc := 78) 1 rfl dX12_span_78 ?_
    refine E_iload_n (pc := 79) rfl dX12_span_79 ?_
    refine E_iload_n (pc := 80) rfl dX12_span_80 ?_
    refine E_iload_n (pc := 81) rfl dX12_span_81 ?_
    refine E_iconst (pc := 82) 0 rfl dX12_span_82 ?_
    refine E_iload (pc := 83) rfl dX12_span_83 ?_
    obtain ⟨v12, s11, hp, h⟩ := bd2_some h
    refine E_callV (pc := 85) (As := [_, _, _, _, _, _]) (fc := (0, 0)) s12_226_12 oX12_piece dX12_span_85 (mem_ob (ent_st MO247)) rfl rfl (Nat.le_of_ble_eq_true rfl) rfl rfl (by decide) (e_X12_piece hp) (fun rv_ M_ hq_ => ?_)
    obtain ⟨rfl, rfl⟩ := hq_
    exact E_ireturn (pc := 88) rfl rfl dX12_span_88 (QI_of h)
  · refine E_iconst (pc := 74) 3 rfl dX12_span_74 ?_
    refine E_goto (pc := 75) 79 (by decide) dX12_span_75 ?_
    refine E_iload_n (pc := 79) rfl dX12_span_79 ?_
    refine E_iload_n (pc := 80) rfl dX12_span_80 ?_
    refine E_iload_n (pc := 81) rfl dX12_span_81 ?_
    refine E_iconst (pc := 82) 0 rfl dX12_span_82 ?_
    refine E_iload (pc := 83) rfl dX12_span_83 ?_
    obtain ⟨v14, s13, hp, h⟩ := bd2_some h
    refine E_callV (pc := 85) (As := [_, _, _, _, _, _]) (fc := (0, 0)) s12_226_12 oX12_piece dX12_span_85 (mem_ob (ent_st MO247)) rfl rfl (Nat.le_of_ble_eq_true rfl) rfl rfl (by decide) (e_X12_piece hp) (fun rv_ M_ hq_ => ?_)
    obtain ⟨rfl, rfl⟩ := hq_
    exact E_ireturn (pc := 88) rfl rfl dX12_span_88 (QI_of h)
noncomputable def f_X12_span (x1 : Int32) (x2 : Int32) (x3 : Int32) (x4 : Int32) (x5 : Int32) (σ : ST) : Option (Int32 × ST) :=
    bd2 (f_X12_isHappening x1 σ) fun v2 s1 =>
    if v2 = 0 then
    (bd2 (f_X12_no (-1) s1) fun v4 s3 =>
    some (v4, s3))
    else (bd2 (f_X12_isMouth x5 s1) fun v6 s5 =>
    if v6 = 0 then
    (bd2 (f_X12_no (-1) s5) fun v22 s21 =>
    some (v22, s21))
    else (bd2 (f_X12_areHours x2 x3 s5) fun v8 s7 =>
    if v8 = 0 then
    (bd2 (f_X12_no (-6) s7) fun v20 s19 =>
    some (v20, s19))
    else (if (s7.1 247 9) = (nI 16) then
    (bd2 (f_X12_no (-7) s7) fun v10 s9 =>
    some (v10, s9))
    else (if x4 = 0 then
    (bd2 (f_X12_spanPieces s7) fun v16 s15 =>
    if v16 = (nI 2) then
    (bd2 (f_X12_no (-7) s15) fun v18 s17 =>
    some (v18, s17))
    else (f_X12_span_68 x1 x2 x3 x4 x5 s15))
    else (f_X12_span_68 x1 x2 x3 x4 x5 s7)))))
theorem e_X12_span {G : GP} {x1 : Int32} {x2 : Int32} {x3 : Int32} {x4 : Int32} {x5 : Int32} {σ : ST} {v : Int32} {s : ST}  (h : f_X12_span x1 x2 x3 x4 x5 σ = some (v, s)) : E G mX12_span (2, 43) 0 [.ref 247, .int x1, .int x2, .int x3, .int x4, .int x5] [] (mem σ) (QI v s) := by
  unfold f_X12_span at h
  refine E_aload_n (pc := 0) rfl dX12_span_0 ?_
  refine E_iload_n (pc := 1) rfl dX12_span_1 ?_
  obtain ⟨v2, s1, hp, h⟩ := bd2_some h
  refine E_callV (pc := 2) (As := [_]) (fc := (0, 0)) s12_220_12 oX12_isHappening dX12_span_2 (mem_ob (ent_st MO247)) rfl rfl (Nat.le_of_ble_eq_true rfl) rfl rfl (by decide) (e_X12_isHappening hp) (fun rv_ M_ hq_ => ?_)
  obtain ⟨rfl, rfl⟩ := hq_
  refine T_if_eq (pc := 5) 17 dX12_span_5 (by decide) h (fun h => ?_) (fun h => ?_)
  · refine E_aload_n (pc := 17) rfl dX12_span_17 ?_
    refine E_im1 (pc := 18) dX12_span_18 ?_
    obtain ⟨v4, s3, hp, h⟩ := bd2_some h
    refine E_callV (pc := 19) (As := [_]) (fc := (0, 0)) s12_175_12 oX12_no dX12_span_19 (mem_ob (ent_st MO247)) rfl rfl (Nat.le_of_ble_eq_true rfl) rfl rfl (by decide) (e_X12_no hp) (fun rv_ M_ hq_ => ?_)
    obtain ⟨rfl, rfl⟩ := hq_
    exact E_ireturn (pc := 22) rfl rfl dX12_span_22 (QI_of h)
  · refine E_aload_n (pc := 8) rfl dX12_span_8 ?_
    refine E_iload (pc := 9) rfl dX12_span_9 ?_
    obtain ⟨v6, s5, hp, h⟩ := bd2_some h
    refine E_callV (pc := 11) (As := [_]) (fc := (0, 0)) s12_223_12 oX12_isMouth dX12_span_11 (mem_ob (ent_st MO247)) rfl rfl (Nat.le_of_ble_eq_true rfl) rfl rfl (by decide) (e_X12_isMouth hp) (fun rv_ M_ hq_ => ?_)
    obtain ⟨rfl, rfl⟩ := hq_
    refine T_if_ne (pc := 14) 23 dX12_span_14 (by decide) h (fun h => ?_) (fun h => ?_)
    · refine E_aload_n (pc := 23) rfl dX12_span_23 ?_
      refine E_iload_n (pc := 24) rfl dX12_span_24 ?_
      refine E_iload_n (pc := 25) rfl dX12_span_25 ?_
      obtain ⟨v8, s7, hp, h⟩ := bd2_some h
      refine E_callV (pc := 26) (As := [_, _]) (fc := (1, 21)) s12_230_12 oX12_areHours dX12_span_26 (mem_ob (ent_st MO247)) rfl rfl (Nat.le_of_ble_eq_true rfl) rfl rfl (by decide) (e_X12_areHours hp) (fun rv_ M_ hq_ => ?_)
      obtain ⟨rfl, rfl⟩ := hq_
      refine T_if_ne (pc := 29) 39 dX12_span_29 (by decide) h (fun h => ?_) (fun h => ?_)
      · refine E_aload_n (pc := 39) rfl dX12_span_39 ?_
        refine R_getI (pc := 40) f12_165 dX12_span_40 (ent_st MO247) (by decide) rfl ?_
        refine E_bipush (pc := 43) (nI 16) (by decide) dX12_span_43 ?_
        refine T_icmp_eq (pc := 45) 61 dX12_span_45 (by decide) h (fun h => ?_) (fun h => ?_)
        · refine E_aload_n (pc := 61) rfl dX12_span_61 ?_
          refine E_bipush (pc := 62) (-7) (by decide) dX12_span_62 ?_
          obtain ⟨v10, s9, hp, h⟩ := bd2_some h
          refine E_callV (pc := 64) (As := [_]) (fc := (0, 0)) s12_175_12 oX12_no dX12_span_64 (mem_ob (ent_st MO247)) rfl rfl (Nat.le_of_ble_eq_true rfl) rfl rfl (by decide) (e_X12_no hp) (fun rv_ M_ hq_ => ?_)
          obtain ⟨rfl, rfl⟩ := hq_
          exact E_ireturn (pc := 67) rfl rfl dX12_span_67 (QI_of h)
        · refine E_iload (pc := 48) rfl dX12_span_48 ?_
          refine T_if_ne (pc := 50) 68 dX12_span_50 (by decide) h (fun h => ?_) (fun h => ?_)
          · refine e_X12_span_68  h
          · refine E_aload_n (pc := 53) rfl dX12_span_53 ?_
            obtain ⟨v16, s15, hp, h⟩ := bd2_some h
            refine E_callV (pc := 54) (As := []) (fc := (0, 0)) s12_233_12 oX12_spanPieces dX12_span_54 (mem_ob (ent_st MO247)) rfl rfl (Nat.le_of_ble_eq_true rfl) rfl rfl (by decide) (e_X12_spanPieces hp) (fun rv_ M_ hq_ => ?_)
            obtain ⟨rfl, rfl⟩ := hq_
            refine E_iconst (pc := 57) 2 rfl dX12_span_57 ?_
            refine T_icmp_ne (pc := 58) 68 dX12_span_58 (by decide) h (fun h => ?_) (fun h => ?_)
            · refine e_X12_span_68  h
            · refine E_aload_n (pc := 61) rfl dX12_span_61 ?_
              refine E_bipush (pc := 62) (-7) (by decide) dX12_span_62 ?_
              obtain ⟨v18, s17, hp, h⟩ := bd2_some h
              refine E_callV (pc := 64) (As := [_]) (fc := (0, 0)) s12_175_12 oX12_no dX12_span_64 (mem_ob (ent_st MO247)) rfl rfl (Nat.le_of_ble_eq_true rfl) rfl rfl (by decide) (e_X12_no hp) (fun rv_ M_ hq_ => ?_)
              obtain ⟨rfl, rfl⟩ := hq_
              exact E_ireturn (pc := 67) rfl rfl dX12_span_67 (QI_of h)
      · refine E_aload_n (pc := 32) rfl dX12_span_32 ?_
        refine E_bipush (pc := 33) (-6) (by decide) dX12_span_33 ?_
        obtain ⟨v20, s19, hp, h⟩ := bd2_some h
        refine E_callV (pc := 35) (As := [_]) (fc := (0, 0)) s12_175_12 oX12_no dX12_span_35 (mem_ob (ent_st MO247)) rfl rfl (Nat.le_of_ble_eq_true rfl) rfl rfl (by decide) (e_X12_no hp) (fun rv_ M_ hq_ => ?_)
        obtain ⟨rfl, rfl⟩ := hq_
        exact E_ireturn (pc := 38) rfl rfl dX12_span_38 (QI_of h)
    · refine E_aload_n (pc := 17) rfl dX12_span_17 ?_
      refine E_im1 (pc := 18) dX12_span_18 ?_
      obtain ⟨v22, s21, hp, h⟩ := bd2_some h
      refine E_callV (pc := 19) (As := [_]) (fc := (0, 0)) s12_175_12 oX12_no dX12_span_19 (mem_ob (ent_st MO247)) rfl rfl (Nat.le_of_ble_eq_true rfl) rfl rfl (by decide) (e_X12_no hp) (fun rv_ M_ hq_ => ?_)
      obtain ⟨rfl, rfl⟩ := hq_
      exact E_ireturn (pc := 22) rfl rfl dX12_span_22 (QI_of h)
noncomputable def f_X12_isValue_21 (z0 : Int32) (z1 : Int32) (sg : ST) : Option (Int32 × ST) :=
    if z1 < z0 then
    (some ((nI 0), sg))
    else (some ((nI 1), sg))
theorem e_X12_isValue_21 {G : GP} {z0 : Int32} {z1 : Int32} {sg : ST} {v : Int32} {s : ST}  (h : f_X12_isValue_21 z0 z1 sg = some (v, s)) : E G mX12_isValue (0, 0) 21 [D0, D0, D0] [.int z1, .int z0] (mem sg) (QI v s) := by
  unfold f_X12_isValue_21 at h
  refine T_icmp_gt (pc := 21) 28 dX12_isValue_21 (by decide) h (fun h => ?_) (fun h => ?_)
  · refine E_iconst (pc := 28) 0 rfl dX12_isValue_28 ?_
    exact E_ireturn (pc := 29) rfl (by decide) dX12_isValue_29 (QI_of h)
  · refine E_iconst (pc := 24) 1 rfl dX12_isValue_24 ?_
    refine E_goto (pc := 25) 29 (by decide) dX12_isValue_25 ?_
    exact E_ireturn (pc := 29) rfl (by decide) dX12_isValue_29 (QI_of h)
noncomputable def f_X12_isValue (x1 : Int32) (x2 : Int32) (σ : ST) : Option (Int32 × ST) :=
    if x2 < 0 then
    (some ((nI 0), σ))
    else ((rdI σ 248 10 x1).bind fun v1 =>
    if v1 = (nI 3) then
    (f_X12_isValue_21 x2 (nI 7) σ)
    else (f_X12_isValue_21 x2 (nI 1) σ))
theorem e_X12_isValue {G : GP} {x1 : Int32} {x2 : Int32} {σ : ST} {v : Int32} {s : ST}  (h : f_X12_isValue x1 x2 σ = some (v, s)) : E G mX12_isValue (0, 0) 0 [.ref 247, .int x1, .int x2] [] (mem σ) (QI v s) := by
  unfold f_X12_isValue at h
  refine E_iload_n (pc := 0) rfl dX12_isValue_0 ?_
  refine T_if_lt (pc := 1) 28 dX12_isValue_1 (by decide) h (fun h => ?_) (fun h => ?_)
  · refine E_iconst (pc := 28) 0 rfl dX12_isValue_28 ?_
    exact E_ireturn (pc := 29) rfl (by decide) dX12_isValue_29 (QI_of h)
  · refine E_iload_n (pc := 4) rfl dX12_isValue_4 ?_
    refine E_aload_n (pc := 5) rfl dX12_isValue_5 ?_
    refine R_getR (pc := 6) (b := 248) f12_7 dX12_isValue_6 (ent_st MO247) (by decide) rfl rfl ?_
    refine E_iload_n (pc := 9) rfl dX12_isValue_9 ?_
    refine T_iald (pc := 10) dX12_isValue_10 (ent_st MA248) (by decide) h (fun v1 h => ?_)
    refine E_iconst (pc := 11) 3 rfl dX12_isValue_11 ?_
    refine T_icmp_ne (pc := 12) 20 dX12_isValue_12 (by decide) h (fun h => ?_) (fun h => ?_)
    · refine E_iconst (pc := 20) 1 rfl dX12_isValue_20 ?_
      refine E_kp [false, false, false] (L2 := [D0, D0, D0]) rfl rfl ?_
      refine e_X12_isValue_21  h
    · refine E_bipush (pc := 15) (nI 7) (by decide) dX12_isValue_15 ?_
      refine E_goto (pc := 17) 21 (by decide) dX12_isValue_17 ?_
      refine E_kp [false, false, false] (L2 := [D0, D0, D0]) rfl rfl ?_
      refine e_X12_isValue_21  h
noncomputable def f_X12_was (x1 : Int32) (x2 : Int32) (x3 : Int32) (x4 : Int32) (x5 : Int32) (σ : ST) : Option (Int32 × ST) :=
    bd2 (f_X12_isThing x1 σ) fun v2 s1 =>
    if v2 = 0 then
    (bd2 (f_X12_no (-1) s1) fun v4 s3 =>
    some (v4, s3))
    else (bd2 (f_X12_isMouth x5 s1) fun v6 s5 =>
    if v6 = 0 then
    (bd2 (f_X12_no (-1) s5) fun v20 s19 =>
    some (v20, s19))
    else (bd2 (f_X12_areHours x3 x4 s5) fun v8 s7 =>
    if v8 = 0 then
    (bd2 (f_X12_no (-6) s7) fun v10 s9 =>
    some (v10, s9))
    else (bd2 (f_X12_isValue x1 x2 s7) fun v12 s11 =>
    if v12 = 0 then
    (bd2 (f_X12_no (-6) s11) fun v18 s17 =>
    some (v18, s17))
    else (if (s11.1 247 9) = (nI 16) then
    (bd2 (f_X12_no (-7) s11) fun v16 s15 =>
    some (v16, s15))
    else (bd2 (f_X12_piece (nI 2) x1 x3 x4 x2 x5 s11) fun v14 s13 =>
    some (v14, s13))))))
theorem e_X12_was {G : GP} {x1 : Int32} {x2 : Int32} {x3 : Int32} {x4 : Int32} {x5 : Int32} {σ : ST} {v : Int32} {s : ST}  (h : f_X12_was x1 x2 x3 x4 x5 σ = some (v, s)) : E G mX12_was (2, 43) 0 [.ref 247, .int x1, .int x2, .int x3, .int x4, .int x5] [] (mem σ) (QI v s) := by
  unfold f_X12_was at h
  refine E_aload_n (pc := 0) rfl dX12_was_0 ?_
  refine E_iload_n (pc := 1) rfl dX12_was_1 ?_
  obtain ⟨v2, s1, hp, h⟩ := bd2_some h
  refine E_callV (pc := 2) (As := [_]) (fc := (0, 0)) s12_191_12 oX12_isThing dX12_was_2 (mem_ob (ent_st MO247)) rfl rfl (Nat.le_of_ble_eq_true rfl) rfl rfl (by decide) (e_X12_isThing hp) (fun rv_ M_ hq_ => ?_)
  obtain ⟨rfl, rfl⟩ := hq_
  refine T_if_eq (pc := 5) 17 dX12_was_5 (by decide) h (fun h => ?_) (fun h => ?_)
  · refine E_aload_n (pc := 17) rfl dX12_was_17 ?_
    refine E_im1 (pc := 18) dX12_was_18 ?_
    obtain ⟨v4, s3, hp, h⟩ := bd2_some h
    refine E_callV (pc := 19) (As := [_]) (fc := (0, 0)) s12_175_12 oX12_no dX12_was_19 (mem_ob (ent_st MO247)) rfl rfl (Nat.le_of_ble_eq_true rfl) rfl rfl (by decide) (e_X12_no hp) (fun rv_ M_ hq_ => ?_)
    obtain ⟨rfl, rfl⟩ := hq_
    exact E_ireturn (pc := 22) rfl rfl dX12_was_22 (QI_of h)
  · refine E_aload_n (pc := 8) rfl dX12_was_8 ?_
    refine E_iload (pc := 9) rfl dX12_was_9 ?_
    obtain ⟨v6, s5, hp, h⟩ := bd2_some h
    refine E_callV (pc := 11) (As := [_]) (fc := (0, 0)) s12_223_12 oX12_isMouth dX12_was_11 (mem_ob (ent_st MO247)) rfl rfl (Nat.le_of_ble_eq_true rfl) rfl rfl (by decide) (e_X12_isMouth hp) (fun rv_ M_ hq_ => ?_)
    obtain ⟨rfl, rfl⟩ := hq_
    refine T_if_ne (pc := 14) 23 dX12_was_14 (by decide) h (fun h => ?_) (fun h => ?_)
    · refine E_aload_n (pc := 23) rfl dX12_was_23 ?_
      refine E_iload_n (pc := 24) rfl dX12_was_24 ?_
      refine E_iload (pc := 25) rfl dX12_was_25 ?_
      obtain ⟨v8, s7, hp, h⟩ := bd2_some h
      refine E_callV (pc := 27) (As := [_, _]) (fc := (1, 21)) s12_230_12 oX12_areHours dX12_was_27 (mem_ob (ent_st MO247)) rfl rfl (Nat.le_of_ble_eq_true rfl) rfl rfl (by decide) (e_X12_areHours hp) (fun rv_ M_ hq_ => ?_)
      obtain ⟨rfl, rfl⟩ := hq_
      refine T_if_eq (pc := 30) 42 dX12_was_30 (by decide) h (fun h => ?_) (fun h => ?_)
      · refine E_aload_n (pc := 42) rfl dX12_was_42 ?_
        refine E_bipush (pc := 43) (-6) (by decide) dX12_was_43 ?_
        obtain ⟨v10, s9, hp, h⟩ := bd2_some h
        refine E_callV (pc := 45) (As := [_]) (fc := (0, 0)) s12_175_12 oX12_no dX12_was_45 (mem_ob (ent_st MO247)) rfl rfl (Nat.le_of_ble_eq_true rfl) rfl rfl (by decide) (e_X12_no hp) (fun rv_ M_ hq_ => ?_)
        obtain ⟨rfl, rfl⟩ := hq_
        exact E_ireturn (pc := 48) rfl rfl dX12_was_48 (QI_of h)
      · refine E_aload_n (pc := 33) rfl dX12_was_33 ?_
        refine E_iload_n (pc := 34) rfl dX12_was_34 ?_
        refine E_iload_n (pc := 35) rfl dX12_was_35 ?_
        obtain ⟨v12, s11, hp, h⟩ := bd2_some h
        refine E_callV (pc := 36) (As := [_, _]) (fc := (0, 0)) s12_237_12 oX12_isValue dX12_was_36 (mem_ob (ent_st MO247)) rfl rfl (Nat.le_of_ble_eq_true rfl) rfl rfl (by decide) (e_X12_isValue hp) (fun rv_ M_ hq_ => ?_)
        obtain ⟨rfl, rfl⟩ := hq_
        refine T_if_ne (pc := 39) 49 dX12_was_39 (by decide) h (fun h => ?_) (fun h => ?_)
        · refine E_aload_n (pc := 49) rfl dX12_was_49 ?_
          refine R_getI (pc := 50) f12_165 dX12_was_50 (ent_st MO247) (by decide) rfl ?_
          refine E_bipush (pc := 53) (nI 16) (by decide) dX12_was_53 ?_
          refine T_icmp_ne (pc := 55) 65 dX12_was_55 (by decide) h (fun h => ?_) (fun h => ?_)
          · refine E_aload_n (pc := 65) rfl dX12_was_65 ?_
            refine E_iconst (pc := 66) 2 rfl dX12_was_66 ?_
            refine E_iload_n (pc := 67) rfl dX12_was_67 ?_
            refine E_iload_n (pc := 68) rfl dX12_was_68 ?_
            refine E_iload (pc := 69) rfl dX12_was_69 ?_
            refine E_iload_n (pc := 71) rfl dX12_was_71 ?_
            refine E_iload (pc := 72) rfl dX12_was_72 ?_
            obtain ⟨v14, s13, hp, h⟩ := bd2_some h
            refine E_callV (pc := 74) (As := [_, _, _, _, _, _]) (fc := (0, 0)) s12_226_12 oX12_piece dX12_was_74 (mem_ob (ent_st MO247)) rfl rfl (Nat.le_of_ble_eq_true rfl) rfl rfl (by decide) (e_X12_piece hp) (fun rv_ M_ hq_ => ?_)
            obtain ⟨rfl, rfl⟩ := hq_
            exact E_ireturn (pc := 77) rfl rfl dX12_was_77 (QI_of h)
          · refine E_aload_n (pc := 58) rfl dX12_was_58 ?_
            refine E_bipush (pc := 59) (-7) (by decide) dX12_was_59 ?_
            obtain ⟨v16, s15, hp, h⟩ := bd2_some h
            refine E_callV (pc := 61) (As := [_]) (fc := (0, 0)) s12_175_12 oX12_no dX12_was_61 (mem_ob (ent_st MO247)) rfl rfl (Nat.le_of_ble_eq_true rfl) rfl rfl (by decide) (e_X12_no hp) (fun rv_ M_ hq_ => ?_)
            obtain ⟨rfl, rfl⟩ := hq_
            exact E_ireturn (pc := 64) rfl rfl dX12_was_64 (QI_of h)
        · refine E_aload_n (pc := 42) rfl dX12_was_42 ?_
          refine E_bipush (pc := 43) (-6) (by decide) dX12_was_43 ?_
          obtain ⟨v18, s17, hp, h⟩ := bd2_some h
          refine E_callV (pc := 45) (As := [_]) (fc := (0, 0)) s12_175_12 oX12_no dX12_was_45 (mem_ob (ent_st MO247)) rfl rfl (Nat.le_of_ble_eq_true rfl) rfl rfl (by decide) (e_X12_no hp) (fun rv_ M_ hq_ => ?_)
          obtain ⟨rfl, rfl⟩ := hq_
          exact E_ireturn (pc := 48) rfl rfl dX12_was_48 (QI_of h)
    · refine E_aload_n (pc := 17) rfl dX12_was_17 ?_
      refine E_im1 (pc := 18) dX12_was_18 ?_
      obtain ⟨v20, s19, hp, h⟩ := bd2_some h
      refine E_callV (pc := 19) (As := [_]) (fc := (0, 0)) s12_175_12 oX12_no dX12_was_19 (mem_ob (ent_st MO247)) rfl rfl (Nat.le_of_ble_eq_true rfl) rfl rfl (by decide) (e_X12_no hp) (fun rv_ M_ hq_ => ?_)
      obtain ⟨rfl, rfl⟩ := hq_
      exact E_ireturn (pc := 22) rfl rfl dX12_was_22 (QI_of h)
noncomputable def f_X12_sheet_308 (k91 : Int32 → Int32 → Int32 → Int32 → Int32 → Int32 → ST → Option (Int32 × ST)) (x1 : Int32) (x2 : Int32) (x3 : Int32) (x4 : Int32) (x6 : Int32) (x7 : Int32) (x8 : Int32) (x9 : Int32) (x10 : Int32) (x11 : Int32) (x12 : Int32) (x13 : Int32) (sg : ST) : Option (Int32 × ST) :=
    if x13 = 0 then
    (some (x6, sg))
    else (if x8 = (nI 2) then
    (bd2 (f_X12_piece x8 x9 x10 x11 x12 x4 sg) fun v16 s15 =>
    k91 x1 x2 x3 x4 (x6 + nI 1) (x7 + nI 5) s15)
    else (bd2 (f_X12_piece x8 x9 x10 x11 (nI 0) x4 sg) fun v14 s13 =>
    k91 x1 x2 x3 x4 (x6 + nI 1) (x7 + nI 5) s13))
theorem e_X12_sheet_308 {G : GP} {k91 : Int32 → Int32 → Int32 → Int32 → Int32 → Int32 → ST → Option (Int32 × ST)} {x1 : Int32} {x2 : Int32} {x3 : Int32} {x4 : Int32} {x6 : Int32} {x7 : Int32} {x8 : Int32} {x9 : Int32} {x10 : Int32} {x11 : Int32} {x12 : Int32} {x13 : Int32} {sg : ST} {v : Int32} {s : ST} (hk91 : ∀ {x1 : Int32} {x2 : Int32} {x3 : Int32} {x4 : Int32} {x6 : Int32} {x7 : Int32} {sg : ST}, k91 x1 x2 x3 x4 x6 x7 sg = some (v, s) → E G mX12_sheet (2, 43) 91 [.ref 247, .int x1, .int x2, .int x3, .int x4, D0, .int x6, .int x7, D0, D0, D0, D0, D0, D0] [] (mem sg) (QI v s)) (h : f_X12_sheet_308 k91 x1 x2 x3 x4 x6 x7 x8 x9 x10 x11 x12 x13 sg = some (v, s)) : E G mX12_sheet (2, 43) 308 [.ref 247, .int x1, .int x2, .int x3, .int x4, D0, .int x6, .int x7, .int x8, .int x9, .int x10, .int x11, .int x12, .int x13] [] (mem sg) (QI v s) := by
  unfold f_X12_sheet_308 at h
  refine E_iload (pc := 308) rfl dX12_sheet_308 ?_
  refine T_if_ne (pc := 310) 316 dX12_sheet_310 (by decide) h (fun h => ?_) (fun h => ?_)
  · refine E_aload_n (pc := 316) rfl dX12_sheet_316 ?_
    refine E_iload (pc := 317) rfl dX12_sheet_317 ?_
    refine E_iload (pc := 319) rfl dX12_sheet_319 ?_
    refine E_iload (pc := 321) rfl dX12_sheet_321 ?_
    refine E_iload (pc := 323) rfl dX12_sheet_323 ?_
    refine E_iload (pc := 325) rfl dX12_sheet_325 ?_
    refine E_iconst (pc := 327) 2 rfl dX12_sheet_327 ?_
    refine T_icmp_ne (pc := 328) 336 dX12_sheet_328 (by decide) h (fun h => ?_) (fun h => ?_)
    · refine E_iconst (pc := 336) 0 rfl dX12_sheet_336 ?_
      refine E_iload (pc := 337) rfl dX12_sheet_337 ?_
      obtain ⟨v14, s13, hp, h⟩ := bd2_some h
      refine E_callV (pc := 339) (As := [_, _, _, _, _, _]) (fc := (0, 0)) s12_226_12 oX12_piece dX12_sheet_339 (mem_ob (ent_st MO247)) rfl rfl (Nat.le_of_ble_eq_true rfl) rfl rfl (by decide) (e_X12_piece hp) (fun rv_ M_ hq_ => ?_)
      obtain ⟨rfl, rfl⟩ := hq_
      refine E_pop (pc := 342) rfl dX12_sheet_342 ?_
      refine T_iinc (pc := 343) (m := 1) (L2 := [_, _, _, _, _, _, _, _, _, _, _, _, _, _]) rfl rfl rfl rfl dX12_sheet_343 ?_
      refine T_iinc (pc := 346) (m := 5) (L2 := [_, _, _, _, _, _, _, _, _, _, _, _, _, _]) rfl rfl rfl rfl dX12_sheet_346 ?_
      refine E_goto (pc := 349) 91 (by decide) dX12_sheet_349 ?_
      refine E_kp [true, true, true, true, true, false, true, true, false, false, false, false, false, false] (L2 := [_, _, _, _, _, D0, _, _, D0, D0, D0, D0, D0, D0]) rfl rfl ?_
      exact hk91 h
    · refine E_iload (pc := 331) rfl dX12_sheet_331 ?_
      refine E_goto (pc := 333) 337 (by decide) dX12_sheet_333 ?_
      refine E_iload (pc := 337) rfl dX12_sheet_337 ?_
      obtain ⟨v16, s15, hp, h⟩ := bd2_some h
      refine E_callV (pc := 339) (As := [_, _, _, _, _, _]) (fc := (0, 0)) s12_226_12 oX12_piece dX12_sheet_339 (mem_ob (ent_st MO247)) rfl rfl (Nat.le_of_ble_eq_true rfl) rfl rfl (by decide) (e_X12_piece hp) (fun rv_ M_ hq_ => ?_)
      obtain ⟨rfl, rfl⟩ := hq_
      refine E_pop (pc := 342) rfl dX12_sheet_342 ?_
      refine T_iinc (pc := 343) (m := 1) (L2 := [_, _, _, _, _, _, _, _, _, _, _, _, _, _]) rfl rfl rfl rfl dX12_sheet_343 ?_
      refine T_iinc (pc := 346) (m := 5) (L2 := [_, _, _, _, _, _, _, _, _, _, _, _, _, _]) rfl rfl rfl rfl dX12_sheet_346 ?_
      refine E_goto (pc := 349) 91 (by decide) dX12_sheet_349 ?_
      refine E_kp [true, true, true, true, true, false, true, true, false, false, false, false, false, false] (L2 := [_, _, _, _, _, D0, _, _, D0, D0, D0, D0, D0, D0]) rfl rfl ?_
      exact hk91 h
  · refine E_iload (pc := 313) rfl dX12_sheet_313 ?_
    exact E_ireturn (pc := 315) rfl rfl dX12_sheet_315 (QI_of h)
noncomputable def f_X12_sheet_306 (k91 : Int32 → Int32 → Int32 → Int32 → Int32 → Int32 → ST → Option (Int32 × ST)) (x1 : Int32) (x2 : Int32) (x3 : Int32) (x4 : Int32) (x6 : Int32) (x7 : Int32) (x8 : Int32) (x9 : Int32) (x10 : Int32) (x11 : Int32) (x12 : Int32) (z0 : Int32) (sg : ST) : Option (Int32 × ST) :=
    f_X12_sheet_308 k91 x1 x2 x3 x4 x6 x7 x8 x9 x10 x11 x12 z0 sg
theorem e_X12_sheet_306 {G : GP} {k91 : Int32 → Int32 → Int32 → Int32 → Int32 → Int32 → ST → Option (Int32 × ST)} {x1 : Int32} {x2 : Int32} {x3 : Int32} {x4 : Int32} {x6 : Int32} {x7 : Int32} {x8 : Int32} {x9 : Int32} {x10 : Int32} {x11 : Int32} {x12 : Int32} {z0 : Int32} {sg : ST} {v : Int32} {s : ST} (hk91 : ∀ {x1 : Int32} {x2 : Int32} {x3 : Int32} {x4 : Int32} {x6 : Int32} {x7 : Int32} {sg : ST}, k91 x1 x2 x3 x4 x6 x7 sg = some (v, s) → E G mX12_sheet (2, 43) 91 [.ref 247, .int x1, .int x2, .int x3, .int x4, D0, .int x6, .int x7, D0, D0, D0, D0, D0, D0] [] (mem sg) (QI v s)) (h : f_X12_sheet_306 k91 x1 x2 x3 x4 x6 x7 x8 x9 x10 x11 x12 z0 sg = some (v, s)) : E G mX12_sheet (2, 43) 306 [.ref 247, .int x1, .int x2, .int x3, .int x4, D0, .int x6, .int x7, .int x8, .int x9, .int x10, .int x11, .int x12, D0] [.int z0] (mem sg) (QI v s) := by
  unfold f_X12_sheet_306 at h
  refine E_istore (pc := 306) (L2 := [_, _, _, _, _, _, _, _, _, _, _, _, _, _]) rfl rfl dX12_sheet_306 ?_
  refine e_X12_sheet_308 (fun h => hk91 h) h
noncomputable def f_X12_sheet_305 (k91 : Int32 → Int32 → Int32 → Int32 → Int32 → Int32 → ST → Option (Int32 × ST)) (x1 : Int32) (x2 : Int32) (x3 : Int32) (x4 : Int32) (x6 : Int32) (x7 : Int32) (x8 : Int32) (x9 : Int32) (x10 : Int32) (x11 : Int32) (x12 : Int32) (sg : ST) : Option (Int32 × ST) :=
    f_X12_sheet_306 k91 x1 x2 x3 x4 x6 x7 x8 x9 x10 x11 x12 (nI 0) sg
theorem e_X12_sheet_305 {G : GP} {k91 : Int32 → Int32 → Int32 → Int32 → Int32 → Int32 → ST → Option (Int32 × ST)} {x1 : Int32} {x2 : Int32} {x3 : Int32} {x4 : Int32} {x6 : Int32} {x7 : Int32} {x8 : Int32} {x9 : Int32} {x10 : Int32} {x11 : Int32} {x12 : Int32} {sg : ST} {v : Int32} {s : ST} (hk91 : ∀ {x1 : Int32} {x2 : Int32} {x3 : Int32} {x4 : Int32} {x6 : Int32} {x7 : Int32} {sg : ST}, k91 x1 x2 x3 x4 x6 x7 sg = some (v, s) → E G mX12_sheet (2, 43) 91 [.ref 247, .int x1, .int x2, .int x3, .int x4, D0, .int x6, .int x7, D0, D0, D0, D0, D0, D0] [] (mem sg) (QI v s)) (h : f_X12_sheet_305 k91 x1 x2 x3 x4 x6 x7 x8 x9 x10 x11 x12 sg = some (v, s)) : E G mX12_sheet (2, 43) 305 [.ref 247, .int x1, .int x2, .int x3, .int x4, D0, .int x6, .int x7, .int x8, .int x9, .int x10, .int x11, .int x12, D0] [] (mem sg) (QI v s) := by
  unfold f_X12_sheet_305 at h
  refine E_iconst (pc := 305) 0 rfl dX12_sheet_305 ?_
  refine e_X12_sheet_306 (fun h => hk91 h) h
noncomputable def f_X12_sheet_301 (k91 : Int32 → Int32 → Int32 → Int32 → Int32 → Int32 → ST → Option (Int32 × ST)) (x1 : Int32) (x2 : Int32) (x3 : Int32) (x4 : Int32) (x6 : Int32) (x7 : Int32) (x8 : Int32) (x9 : Int32) (x10 : Int32) (x11 : Int32) (x12 : Int32) (sg : ST) : Option (Int32 × ST) :=
    f_X12_sheet_306 k91 x1 x2 x3 x4 x6 x7 x8 x9 x10 x11 x12 (nI 1) sg
theorem e_X12_sheet_301 {G : GP} {k91 : Int32 → Int32 → Int32 → Int32 → Int32 → Int32 → ST → Option (Int32 × ST)} {x1 : Int32} {x2 : Int32} {x3 : Int32} {x4 : Int32} {x6 : Int32} {x7 : Int32} {x8 : Int32} {x9 : Int32} {x10 : Int32} {x11 : Int32} {x12 : Int32} {sg : ST} {v : Int32} {s : ST} (hk91 : ∀ {x1 : Int32} {x2 : Int32} {x3 : Int32} {x4 : Int32} {x6 : Int32} {x7 : Int32} {sg : ST}, k91 x1 x2 x3 x4 x6 x7 sg = some (v, s) → E G mX12_sheet (2, 43) 91 [.ref 247, .int x1, .int x2, .int x3, .int x4, D0, .int x6, .int x7, D0, D0, D0, D0, D0, D0] [] (mem sg) (QI v s)) (h : f_X12_sheet_301 k91 x1 x2 x3 x4 x6 x7 x8 x9 x10 x11 x12 sg = some (v, s)) : E G mX12_sheet (2, 43) 301 [.ref 247, .int x1, .int x2, .int x3, .int x4, D0, .int x6, .int x7, .int x8, .int x9, .int x10, .int x11, .int x12, D0] [] (mem sg) (QI v s) := by
  unfold f_X12_sheet_301 at h
  refine E_iconst (pc := 301) 1 rfl dX12_sheet_301 ?_
  refine E_goto (pc := 302) 306 (by decide) dX12_sheet_302 ?_
  refine e_X12_sheet_306 (fun h => hk91 h) h
noncomputable def f_X12_sheet_287 (k91 : Int32 → Int32 → Int32 → Int32 → Int32 → Int32 → ST → Option (Int32 × ST)) (x1 : Int32) (x2 : Int32) (x3 : Int32) (x4 : Int32) (x6 : Int32) (x7 : Int32) (x8 : Int32) (x9 : Int32) (x10 : Int32) (x11 : Int32) (x12 : Int32) (sg : ST) : Option (Int32 × ST) :=
    if x8 = (nI 1) then
    (bd2 (f_X12_spanPieces sg) fun v20 s19 =>
    if v20 < (nI 2) then
    (f_X12_sheet_301 k91 x1 x2 x3 x4 x6 x7 x8 x9 x10 x11 x12 s19)
    else (f_X12_sheet_305 k91 x1 x2 x3 x4 x6 x7 x8 x9 x10 x11 x12 s19))
    else (f_X12_sheet_301 k91 x1 x2 x3 x4 x6 x7 x8 x9 x10 x11 x12 sg)
theorem e_X12_sheet_287 {G : GP} {k91 : Int32 → Int32 → Int32 → Int32 → Int32 → Int32 → ST → Option (Int32 × ST)} {x1 : Int32} {x2 : Int32} {x3 : Int32} {x4 : Int32} {x6 : Int32} {x7 : Int32} {x8 : Int32} {x9 : Int32} {x10 : Int32} {x11 : Int32} {x12 : Int32} {sg : ST} {v : Int32} {s : ST} (hk91 : ∀ {x1 : Int32} {x2 : Int32} {x3 : Int32} {x4 : Int32} {x6 : Int32} {x7 : Int32} {sg : ST}, k91 x1 x2 x3 x4 x6 x7 sg = some (v, s) → E G mX12_sheet (2, 43) 91 [.ref 247, .int x1, .int x2, .int x3, .int x4, D0, .int x6, .int x7, D0, D0, D0, D0, D0, D0] [] (mem sg) (QI v s)) (h : f_X12_sheet_287 k91 x1 x2 x3 x4 x6 x7 x8 x9 x10 x11 x12 sg = some (v, s)) : E G mX12_sheet (2, 43) 287 [.ref 247, .int x1, .int x2, .int x3, .int x4, D0, .int x6, .int x7, .int x8, .int x9, .int x10, .int x11, .int x12, D0] [] (mem sg) (QI v s) := by
  unfold f_X12_sheet_287 at h
  refine E_iload (pc := 287) rfl dX12_sheet_287 ?_
  refine E_iconst (pc := 289) 1 rfl dX12_sheet_289 ?_
  refine T_icmp_ne (pc := 290) 301 dX12_sheet_290 (by decide) h (fun h => ?_) (fun h => ?_)
  · refine e_X12_sheet_301 (fun h => hk91 h) h
  · refine E_aload_n (pc := 293) rfl dX12_sheet_293 ?_
    obtain ⟨v20, s19, hp, h⟩ := bd2_some h
    refine E_callV (pc := 294) (As := []) (fc := (0, 0)) s12_233_12 oX12_spanPieces dX12_sheet_294 (mem_ob (ent_st MO247)) rfl rfl (Nat.le_of_ble_eq_true rfl) rfl rfl (by decide) (e_X12_spanPieces hp) (fun rv_ M_ hq_ => ?_)
    obtain ⟨rfl, rfl⟩ := hq_
    refine E_iconst (pc := 297) 2 rfl dX12_sheet_297 ?_
    refine T_icmp_ge (pc := 298) 305 dX12_sheet_298 (by decide) h (fun h => ?_) (fun h => ?_)
    · refine e_X12_sheet_305 (fun h => hk91 h) h
    · refine e_X12_sheet_301 (fun h => hk91 h) h
noncomputable def f_X12_sheet_256 (k91 : Int32 → Int32 → Int32 → Int32 → Int32 → Int32 → ST → Option (Int32 × ST)) (x1 : Int32) (x2 : Int32) (x3 : Int32) (x4 : Int32) (x6 : Int32) (x7 : Int32) (x8 : Int32) (x9 : Int32) (x10 : Int32) (x11 : Int32) (x12 : Int32) (z0 : Int32) (sg : ST) : Option (Int32 × ST) :=
    f_X12_sheet_308 k91 x1 x2 x3 x4 x6 x7 x8 x9 x10 x11 x12 z0 sg
theorem e_X12_sheet_256 {G : GP} {k91 : Int32 → Int32 → Int32 → Int32 → Int32 → Int32 → ST → Option (Int32 × ST)} {x1 : Int32} {x2 : Int32} {x3 : Int32} {x4 : Int32} {x6 : Int32} {x7 : Int32} {x8 : Int32} {x9 : Int32} {x10 : Int32} {x11 : Int32} {x12 : Int32} {z0 : Int32} {sg : ST} {v : Int32} {s : ST} (hk91 : ∀ {x1 : Int32} {x2 : Int32} {x3 : Int32} {x4 : Int32} {x6 : Int32} {x7 : Int32} {sg : ST}, k91 x1 x2 x3 x4 x6 x7 sg = some (v, s) → E G mX12_sheet (2, 43) 91 [.ref 247, .int x1, .int x2, .int x3, .int x4, D0, .int x6, .int x7, D0, D0, D0, D0, D0, D0] [] (mem sg) (QI v s)) (h : f_X12_sheet_256 k91 x1 x2 x3 x4 x6 x7 x8 x9 x10 x11 x12 z0 sg = some (v, s)) : E G mX12_sheet (2, 43) 256 [.ref 247, .int x1, .int x2, .int x3, .int x4, D0, .int x6, .int x7, .int x8, .int x9, .int x10, .int x11, .int x12, D0] [.int z0] (mem sg) (QI v s) := by
  unfold f_X12_sheet_256 at h
  refine E_istore (pc := 256) (L2 := [_, _, _, _, _, _, _, _, _, _, _, _, _, _]) rfl rfl dX12_sheet_256 ?_
  refine E_goto (pc := 258) 308 (by decide) dX12_sheet_258 ?_
  refine e_X12_sheet_308 (fun h => hk91 h) h
noncomputable def f_X12_sheet_255 (k91 : Int32 → Int32 → Int32 → Int32 → Int32 → Int32 → ST → Option (Int32 × ST)) (x1 : Int32) (x2 : Int32) (x3 : Int32) (x4 : Int32) (x6 : Int32) (x7 : Int32) (x8 : Int32) (x9 : Int32) (x10 : Int32) (x11 : Int32) (x12 : Int32) (sg : ST) : Option (Int32 × ST) :=
    f_X12_sheet_256 k91 x1 x2 x3 x4 x6 x7 x8 x9 x10 x11 x12 (nI 0) sg
theorem e_X12_sheet_255 {G : GP} {k91 : Int32 → Int32 → Int32 → Int32 → Int32 → Int32 → ST → Option (Int32 × ST)} {x1 : Int32} {x2 : Int32} {x3 : Int32} {x4 : Int32} {x6 : Int32} {x7 : Int32} {x8 : Int32} {x9 : Int32} {x10 : Int32} {x11 : Int32} {x12 : Int32} {sg : ST} {v : Int32} {s : ST} (hk91 : ∀ {x1 : Int32} {x2 : Int32} {x3 : Int32} {x4 : Int32} {x6 : Int32} {x7 : Int32} {sg : ST}, k91 x1 x2 x3 x4 x6 x7 sg = some (v, s) → E G mX12_sheet (2, 43) 91 [.ref 247, .int x1, .int x2, .int x3, .int x4, D0, .int x6, .int x7, D0, D0, D0, D0, D0, D0] [] (mem sg) (QI v s)) (h : f_X12_sheet_255 k91 x1 x2 x3 x4 x6 x7 x8 x9 x10 x11 x12 sg = some (v, s)) : E G mX12_sheet (2, 43) 255 [.ref 247, .int x1, .int x2, .int x3, .int x4, D0, .int x6, .int x7, .int x8, .int x9, .int x10, .int x11, .int x12, D0] [] (mem sg) (QI v s) := by
  unfold f_X12_sheet_255 at h
  refine E_iconst (pc := 255) 0 rfl dX12_sheet_255 ?_
  refine e_X12_sheet_256 (fun h => hk91 h) h
noncomputable def f_X12_sheet_218 (k91 : Int32 → Int32 → Int32 → Int32 → Int32 → Int32 → ST → Option (Int32 × ST)) (x1 : Int32) (x2 : Int32) (x3 : Int32) (x4 : Int32) (x6 : Int32) (x7 : Int32) (x8 : Int32) (x9 : Int32) (x10 : Int32) (x11 : Int32) (x12 : Int32) (z0 : Int32) (sg : ST) : Option (Int32 × ST) :=
    if x8 = (nI 2) then
    (if z0 = 0 then
    (f_X12_sheet_255 k91 x1 x2 x3 x4 x6 x7 x8 x9 x10 x11 x12 sg)
    else (bd2 (f_X12_isThing x9 sg) fun v22 s21 =>
    if v22 = 0 then
    (f_X12_sheet_255 k91 x1 x2 x3 x4 x6 x7 x8 x9 x10 x11 x12 s21)
    else (bd2 (f_X12_isValue x9 x12 s21) fun v24 s23 =>
    if v24 = 0 then
    (f_X12_sheet_255 k91 x1 x2 x3 x4 x6 x7 x8 x9 x10 x11 x12 s23)
    else (f_X12_sheet_256 k91 x1 x2 x3 x4 x6 x7 x8 x9 x10 x11 x12 (nI 1) s23))))
    else (if z0 = 0 then
    (f_X12_sheet_305 k91 x1 x2 x3 x4 x6 x7 x8 x9 x10 x11 x12 sg)
    else (bd2 (f_X12_isHappening x9 sg) fun v18 s17 =>
    if v18 = 0 then
    (f_X12_sheet_305 k91 x1 x2 x3 x4 x6 x7 x8 x9 x10 x11 x12 s17)
    else (if x8 = 0 then
    (if x10 = x11 then
    (f_X12_sheet_287 k91 x1 x2 x3 x4 x6 x7 x8 x9 x10 x11 x12 s17)
    else (f_X12_sheet_305 k91 x1 x2 x3 x4 x6 x7 x8 x9 x10 x11 x12 s17))
    else (f_X12_sheet_287 k91 x1 x2 x3 x4 x6 x7 x8 x9 x10 x11 x12 s17))))
theorem e_X12_sheet_218 {G : GP} {k91 : Int32 → Int32 → Int32 → Int32 → Int32 → Int32 → ST → Option (Int32 × ST)} {x1 : Int32} {x2 : Int32} {x3 : Int32} {x4 : Int32} {x6 : Int32} {x7 : Int32} {x8 : Int32} {x9 : Int32} {x10 : Int32} {x11 : Int32} {x12 : Int32} {z0 : Int32} {sg : ST} {v : Int32} {s : ST} (hk91 : ∀ {x1 : Int32} {x2 : Int32} {x3 : Int32} {x4 : Int32} {x6 : Int32} {x7 : Int32} {sg : ST}, k91 x1 x2 x3 x4 x6 x7 sg = some (v, s) → E G mX12_sheet (2, 43) 91 [.ref 247, .int x1, .int x2, .int x3, .int x4, D0, .int x6, .int x7, D0, D0, D0, D0, D0, D0] [] (mem sg) (QI v s)) (h : f_X12_sheet_218 k91 x1 x2 x3 x4 x6 x7 x8 x9 x10 x11 x12 z0 sg = some (v, s)) : E G mX12_sheet (2, 43) 218 [.ref 247, .int x1, .int x2, .int x3, .int x4, D0, .int x6, .int x7, .int x8, .int x9, .int x10, .int x11, .int x12, D0] [.int z0] (mem sg) (QI v s) := by
  unfold f_X12_sheet_218 at h
  refine E_istore (pc := 218) (L2 := [_, _, _, _, _, _, _, _, _, _, _, _, _, _]) rfl rfl dX12_sheet_218 ?_
  refine E_iload (pc := 220) rfl dX12_sheet_220 ?_
  refine E_iconst (pc := 222) 2 rfl dX12_sheet_222 ?_
  refine T_icmp_ne (pc := 223) 261 dX12_sheet_223 (by decide) h (fun h => ?_) (fun h => ?_)
  · refine E_iload (pc := 261) rfl dX12_sheet_261 ?_
    refine T_if_eq (pc := 263) 305 dX12_sheet_263 (by decide) h (fun h => ?_) (fun h => ?_)
    · refine E_kp [true, true, true, true, true, false, true, true, true, true, true, true, true, false] (L2 := [_, _, _, _, _, D0, _, _, _, _, _, _, _, D0]) rfl rfl ?_
      refine e_X12_sheet_305 (fun h => hk91 h) h
    · refine E_aload_n (pc := 266) rfl dX12_sheet_266 ?_
      refine E_iload (pc := 267) rfl dX12_sheet_267 ?_
      obtain ⟨v18, s17, hp, h⟩ := bd2_some h
      refine E_callV (pc := 269) (As := [_]) (fc := (0, 0)) s12_220_12 oX12_isHappening dX12_sheet_269 (mem_ob (ent_st MO247)) rfl rfl (Nat.le_of_ble_eq_true rfl) rfl rfl (by decide) (e_X12_isHappening hp) (fun rv_ M_ hq_ => ?_)
      obtain ⟨rfl, rfl⟩ := hq_
      refine T_if_eq (pc := 272) 305 dX12_sheet_272 (by decide) h (fun h => ?_) (fun h => ?_)
      · refine E_kp [true, true, true, true, true, false, true, true, true, true, true, true, true, false] (L2 := [_, _, _, _, _, D0, _, _, _, _, _, _, _, D0]) rfl rfl ?_
        refine e_X12_sheet_305 (fun h => hk91 h) h
      · refine E_iload (pc := 275) rfl dX12_sheet_275 ?_
        refine T_if_ne (pc := 277) 287 dX12_sheet_277 (by decide) h (fun h => ?_) (fun h => ?_)
        · refine E_kp [true, true, true, true, true, false, true, true, true, true, true, true, true, false] (L2 := [_, _, _, _, _, D0, _, _, _, _, _, _, _, D0]) rfl rfl ?_
          refine e_X12_sheet_287 (fun h => hk91 h) h
        · refine E_iload (pc := 280) rfl dX12_sheet_280 ?_
          refine E_iload (pc := 282) rfl dX12_sheet_282 ?_
          refine T_icmp_ne (pc := 284) 305 dX12_sheet_284 (by decide) h (fun h => ?_) (fun h => ?_)
          · refine E_kp [true, true, true, true, true, false, true, true, true, true, true, true, true, false] (L2 := [_, _, _, _, _, D0, _, _, _, _, _, _, _, D0]) rfl rfl ?_
            refine e_X12_sheet_305 (fun h => hk91 h) h
          · refine E_kp [true, true, true, true, true, false, true, true, true, true, true, true, true, false] (L2 := [_, _, _, _, _, D0, _, _, _, _, _, _, _, D0]) rfl rfl ?_
            refine e_X12_sheet_287 (fun h => hk91 h) h
  · refine E_iload (pc := 226) rfl dX12_sheet_226 ?_
    refine T_if_eq (pc := 228) 255 dX12_sheet_228 (by decide) h (fun h => ?_) (fun h => ?_)
    · refine E_kp [true, true, true, true, true, false, true, true, true, true, true, true, true, false] (L2 := [_, _, _, _, _, D0, _, _, _, _, _, _, _, D0]) rfl rfl ?_
      refine e_X12_sheet_255 (fun h => hk91 h) h
    · refine E_aload_n (pc := 231) rfl dX12_sheet_231 ?_
      refine E_iload (pc := 232) rfl dX12_sheet_232 ?_
      obtain ⟨v22, s21, hp, h⟩ := bd2_some h
      refine E_callV (pc := 234) (As := [_]) (fc := (0, 0)) s12_191_12 oX12_isThing dX12_sheet_234 (mem_ob (ent_st MO247)) rfl rfl (Nat.le_of_ble_eq_true rfl) rfl rfl (by decide) (e_X12_isThing hp) (fun rv_ M_ hq_ => ?_)
      obtain ⟨rfl, rfl⟩ := hq_
      refine T_if_eq (pc := 237) 255 dX12_sheet_237 (by decide) h (fun h => ?_) (fun h => ?_)
      · refine E_kp [true, true, true, true, true, false, true, true, true, true, true, true, true, false] (L2 := [_, _, _, _, _, D0, _, _, _, _, _, _, _, D0]) rfl rfl ?_
        refine e_X12_sheet_255 (fun h => hk91 h) h
      · refine E_aload_n (pc := 240) rfl dX12_sheet_240 ?_
        refine E_iload (pc := 241) rfl dX12_sheet_241 ?_
        refine E_iload (pc := 243) rfl dX12_sheet_243 ?_
        obtain ⟨v24, s23, hp, h⟩ := bd2_some h
        refine E_callV (pc := 245) (As := [_, _]) (fc := (0, 0)) s12_237_12 oX12_isValue dX12_sheet_245 (mem_ob (ent_st MO247)) rfl rfl (Nat.le_of_ble_eq_true rfl) rfl rfl (by decide) (e_X12_isValue hp) (fun rv_ M_ hq_ => ?_)
        obtain ⟨rfl, rfl⟩ := hq_
        refine T_if_eq (pc := 248) 255 dX12_sheet_248 (by decide) h (fun h => ?_) (fun h => ?_)
        · refine E_kp [true, true, true, true, true, false, true, true, true, true, true, true, true, false] (L2 := [_, _, _, _, _, D0, _, _, _, _, _, _, _, D0]) rfl rfl ?_
          refine e_X12_sheet_255 (fun h => hk91 h) h
        · refine E_iconst (pc := 251) 1 rfl dX12_sheet_251 ?_
          refine E_goto (pc := 252) 256 (by decide) dX12_sheet_252 ?_
          refine E_kp [true, true, true, true, true, false, true, true, true, true, true, true, true, false] (L2 := [_, _, _, _, _, D0, _, _, _, _, _, _, _, D0]) rfl rfl ?_
          refine e_X12_sheet_256 (fun h => hk91 h) h
noncomputable def f_X12_sheet_217 (k91 : Int32 → Int32 → Int32 → Int32 → Int32 → Int32 → ST → Option (Int32 × ST)) (x1 : Int32) (x2 : Int32) (x3 : Int32) (x4 : Int32) (x6 : Int32) (x7 : Int32) (x8 : Int32) (x9 : Int32) (x10 : Int32) (x11 : Int32) (x12 : Int32) (sg : ST) : Option (Int32 × ST) :=
    f_X12_sheet_218 k91 x1 x2 x3 x4 x6 x7 x8 x9 x10 x11 x12 (nI 0) sg
theorem e_X12_sheet_217 {G : GP} {k91 : Int32 → Int32 → Int32 → Int32 → Int32 → Int32 → ST → Option (Int32 × ST)} {x1 : Int32} {x2 : Int32} {x3 : Int32} {x4 : Int32} {x6 : Int32} {x7 : Int32} {x8 : Int32} {x9 : Int32} {x10 : Int32} {x11 : Int32} {x12 : Int32} {sg : ST} {v : Int32} {s : ST} (hk91 : ∀ {x1 : Int32} {x2 : Int32} {x3 : Int32} {x4 : Int32} {x6 : Int32} {x7 : Int32} {sg : ST}, k91 x1 x2 x3 x4 x6 x7 sg = some (v, s) → E G mX12_sheet (2, 43) 91 [.ref 247, .int x1, .int x2, .int x3, .int x4, D0, .int x6, .int x7, D0, D0, D0, D0, D0, D0] [] (mem sg) (QI v s)) (h : f_X12_sheet_217 k91 x1 x2 x3 x4 x6 x7 x8 x9 x10 x11 x12 sg = some (v, s)) : E G mX12_sheet (2, 43) 217 [.ref 247, .int x1, .int x2, .int x3, .int x4, D0, .int x6, .int x7, .int x8, .int x9, .int x10, .int x11, .int x12, D0] [] (mem sg) (QI v s) := by
  unfold f_X12_sheet_217 at h
  refine E_iconst (pc := 217) 0 rfl dX12_sheet_217 ?_
  refine e_X12_sheet_218 (fun h => hk91 h) h
noncomputable def f_X12_sheet_91 : Nat → Int32 → Int32 → Int32 → Int32 → Int32 → Int32 → ST → Option (Int32 × ST)
  | 0, _, _, _, _, _, _, _ => none
  | n + 1, x1, x2, x3, x4, x6, x7, sg =>
    if x7 < (x2 + x3) then
    ((rdJ sg 265 480 (((nI 60) * x1) + x7)).bind fun v8 =>
    (rdJ sg 265 480 ((((nI 60) * x1) + x7) + (nI 1))).bind fun v9 =>
    (rdJ sg 265 480 ((((nI 60) * x1) + x7) + (nI 2))).bind fun v10 =>
    (rdJ sg 265 480 ((((nI 60) * x1) + x7) + (nI 3))).bind fun v11 =>
    (rdJ sg 265 480 ((((nI 60) * x1) + x7) + (nI 4))).bind fun v12 =>
    if ((v8).toInt32) < 0 then
    (f_X12_sheet_217 (f_X12_sheet_91 n) x1 x2 x3 x4 x6 x7 ((v8).toInt32) ((v9).toInt32) ((v10).toInt32) ((v11).toInt32) ((v12).toInt32) sg)
    else (if ((v8).toInt32) < (nI 4) then
    (bd2 (f_X12_areHours ((v10).toInt32) ((v11).toInt32) sg) fun v26 s25 =>
    if v26 = 0 then
    (f_X12_sheet_217 (f_X12_sheet_91 n) x1 x2 x3 x4 x6 x7 ((v8).toInt32) ((v9).toInt32) ((v10).toInt32) ((v11).toInt32) ((v12).toInt32) s25)
    else (if (s25.1 247 9) < (nI 16) then
    (f_X12_sheet_218 (f_X12_sheet_91 n) x1 x2 x3 x4 x6 x7 ((v8).toInt32) ((v9).toInt32) ((v10).toInt32) ((v11).toInt32) ((v12).toInt32) (nI 1) s25)
    else (f_X12_sheet_217 (f_X12_sheet_91 n) x1 x2 x3 x4 x6 x7 ((v8).toInt32) ((v9).toInt32) ((v10).toInt32) ((v11).toInt32) ((v12).toInt32) s25)))
    else (f_X12_sheet_217 (f_X12_sheet_91 n) x1 x2 x3 x4 x6 x7 ((v8).toInt32) ((v9).toInt32) ((v10).toInt32) ((v11).toInt32) ((v12).toInt32) sg)))
    else (some (x6, sg))
theorem e_X12_sheet_91 {G : GP} {v : Int32} {s : ST}  : ∀ (n : Nat) {x1 : Int32} {x2 : Int32} {x3 : Int32} {x4 : Int32} {x6 : Int32} {x7 : Int32} {sg : ST}, f_X12_sheet_91 n x1 x2 x3 x4 x6 x7 sg = some (v, s) → E G mX12_sheet (2, 43) 91 [.ref 247, .int x1, .int x2, .int x3, .int x4, D0, .int x6, .int x7, D0, D0, D0, D0, D0, D0] [] (mem sg) (QI v s) := by
  intro n
  induction n with
  | zero => intro _ _ _ _ _ _ _ h; rw [f_X12_sheet_91] at h; cases h
  | succ n ih =>
    intro x1 x2 x3 x4 x6 x7 sg h
    rw [f_X12_sheet_91] at h
    refine E_iload (pc := 91) rfl dX12_sheet_91 ?_
    refine E_iload_n (pc := 93) rfl dX12_sheet_93 ?_
    refine E_iload_n (pc := 94) rfl dX12_sheet_94 ?_
    refine E_iadd (pc := 95) dX12_sheet_95 ?_
    refine T_icmp_ge (pc := 96) 352 dX12_sheet_96 (by decide) h (fun h => ?_) (fun h => ?_)
    · refine E_iload (pc := 352) rfl dX12_sheet_352 ?_
      exact E_ireturn (pc := 354) rfl rfl dX12_sheet_354 (QI_of h)
    · refine E_aload_n (pc := 99) rfl dX12_sheet_99 ?_
      refine R_getR (pc := 100) (b := 265) f12_61 dX12_sheet_100 (ent_st MO247) (by decide) rfl rfl ?_
      refine E_bipush (pc := 103) (nI 60) (by decide) dX12_sheet_103 ?_
      refine E_iload_n (pc := 105) rfl dX12_sheet_105 ?_
      refine E_imul (pc := 106) dX12_sheet_106 ?_
      refine E_iload (pc := 107) rfl dX12_sheet_107 ?_
      refine E_iadd (pc := 109) dX12_sheet_109 ?_
      refine T_jald (pc := 110) dX12_sheet_110 (ent_st MA265) (by decide) h (fun v8 h => ?_)
      refine E_l2i (pc := 111) dX12_sheet_111 ?_
      refine E_istore (pc := 112) (L2 := [_, _, _, _, _, _, _, _, _, _, _, _, _, _]) rfl rfl dX12_sheet_112 ?_
      refine E_aload_n (pc := 114) rfl dX12_sheet_114 ?_
      refine R_getR (pc := 115) (b := 265) f12_61 dX12_sheet_115 (ent_st MO247) (by decide) rfl rfl ?_
      refine E_bipush (pc := 118) (nI 60) (by decide) dX12_sheet_118 ?_
      refine E_iload_n (pc := 120) rfl dX12_sheet_120 ?_
      refine E_imul (pc := 121) dX12_sheet_121 ?_
      refine E_iload (pc := 122) rfl dX12_sheet_122 ?_
      refine E_iadd (pc := 124) dX12_sheet_124 ?_
      refine E_iconst (pc := 125) 1 rfl dX12_sheet_125 ?_
      refine E_iadd (pc := 126) dX12_sheet_126 ?_
      refine T_jald (pc := 127) dX12_sheet_127 (ent_st MA265) (by decide) h (fun v9 h => ?_)
      refine E_l2i (pc := 128) dX12_sheet_128 ?_
      refine E_istore (pc := 129) (L2 := [_, _, _, _, _, _, _, _, _, _, _, _, _, _]) rfl rfl dX12_sheet_129 ?_
      refine E_aload_n (pc := 131) rfl dX12_sheet_131 ?_
      refine R_getR (pc := 132) (b := 265) f12_61 dX12_sheet_132 (ent_st MO247) (by decide) rfl rfl ?_
      refine E_bipush (pc := 135) (nI 60) (by decide) dX12_sheet_135 ?_
      refine E_iload_n (pc := 137) rfl dX12_sheet_137 ?_
      refine E_imul (pc := 138) dX12_sheet_138 ?_
      refine E_iload (pc := 139) rfl dX12_sheet_139 ?_
      refine E_iadd (pc := 141) dX12_sheet_141 ?_
      refine E_iconst (pc := 142) 2 rfl dX12_sheet_142 ?_
      refine E_iadd (pc := 143) dX12_sheet_143 ?_
      refine T_jald (pc := 144) dX12_sheet_144 (ent_st MA265) (by decide) h (fun v10 h => ?_)
      refine E_l2i (pc := 145) dX12_sheet_145 ?_
      refine E_istore (pc := 146) (L2 := [_, _, _, _, _, _, _, _, _, _, _, _, _, _]) rfl rfl dX12_sheet_146 ?_
      refine E_aload_n (pc := 148) rfl dX12_sheet_148 ?_
      refine R_getR (pc := 149) (b := 265) f12_61 dX12_sheet_149 (ent_st MO247) (by decide) rfl rfl ?_
      refine E_bipush (pc := 152) (nI 60) (by decide) dX12_sheet_152 ?_
      refine E_iload_n (pc := 154) rfl dX12_sheet_154 ?_
      refine E_imul (pc := 155) dX12_sheet_155 ?_
      refine E_iload (pc := 156) rfl dX12_sheet_156 ?_
      refine E_iadd (pc := 158) dX12_sheet_158 ?_
      refine E_iconst (pc := 159) 3 rfl dX12_sheet_159 ?_
      refine E_iadd (pc := 160) dX12_sheet_160 ?_
      refine T_jald (pc := 161) dX12_sheet_161 (ent_st MA265) (by decide) h (fun v11 h => ?_)
      refine E_l2i (pc := 162) dX12_sheet_162 ?_
      refine E_istore (pc := 163) (L2 := [_, _, _, _, _, _, _, _, _, _, _, _, _, _]) rfl rfl dX12_sheet_163 ?_
      refine E_aload_n (pc := 165) rfl dX12_sheet_165 ?_
      refine R_getR (pc := 166) (b := 265) f12_61 dX12_sheet_166 (ent_st MO247) (by decide) rfl rfl ?_
      refine E_bipush (pc := 169) (nI 60) (by decide) dX12_sheet_169 ?_
      refine E_iload_n (pc := 171) rfl dX12_sheet_171 ?_
      refine E_imul (pc := 172) dX12_sheet_172 ?_
      refine E_iload (pc := 173) rfl dX12_sheet_173 ?_
      refine E_iadd (pc := 175) dX12_sheet_175 ?_
      refine E_iconst (pc := 176) 4 rfl dX12_sheet_176 ?_
      refine E_iadd (pc := 177) dX12_sheet_177 ?_
      refine T_jald (pc := 178) dX12_sheet_178 (ent_st MA265) (by decide) h (fun v12 h => ?_)
      refine E_l2i (pc := 179) dX12_sheet_179 ?_
      refine E_istore (pc := 180) (L2 := [_, _, _, _, _, _, _, _, _, _, _, _, _, _]) rfl rfl dX12_sheet_180 ?_
      refine E_iload (pc := 182) rfl dX12_sheet_182 ?_
      refine T_if_lt (pc := 184) 217 dX12_sheet_184 (by decide) h (fun h => ?_) (fun h => ?_)
      · refine e_X12_sheet_217 (fun h => ih h) h
      · refine E_iload (pc := 187) rfl dX12_sheet_187 ?_
        refine E_iconst (pc := 189) 4 rfl dX12_sheet_189 ?_
        refine T_icmp_ge (pc := 190) 217 dX12_sheet_190 (by decide) h (fun h => ?_) (fun h => ?_)
        · refine e_X12_sheet_217 (fun h => ih h) h
        · refine E_aload_n (pc := 193) rfl dX12_sheet_193 ?_
          refine E_iload (pc := 194) rfl dX12_sheet_194 ?_
          refine E_iload (pc := 196) rfl dX12_sheet_196 ?_
          obtain ⟨v26, s25, hp, h⟩ := bd2_some h
          refine E_callV (pc := 198) (As := [_, _]) (fc := (1, 21)) s12_230_12 oX12_areHours dX12_sheet_198 (mem_ob (ent_st MO247)) rfl rfl (Nat.le_of_ble_eq_true rfl) rfl rfl (by decide) (e_X12_areHours hp) (fun rv_ M_ hq_ => ?_)
          obtain ⟨rfl, rfl⟩ := hq_
          refine T_if_eq (pc := 201) 217 dX12_sheet_201 (by decide) h (fun h => ?_) (fun h => ?_)
          · refine e_X12_sheet_217 (fun h => ih h) h
          · refine E_aload_n (pc := 204) rfl dX12_sheet_204 ?_
            refine R_getI (pc := 205) f12_165 dX12_sheet_205 (ent_st MO247) (by decide) rfl ?_
            refine E_bipush (pc := 208) (nI 16) (by decide) dX12_sheet_208 ?_
            refine T_icmp_ge (pc := 210) 217 dX12_sheet_210 (by decide) h (fun h => ?_) (fun h => ?_)
            · refine e_X12_sheet_217 (fun h => ih h) h
            · refine E_iconst (pc := 213) 1 rfl dX12_sheet_213 ?_
              refine E_goto (pc := 214) 218 (by decide) dX12_sheet_214 ?_
              refine e_X12_sheet_218 (fun h => ih h) h
noncomputable def f_X12_sheet (x1 : Int32) (x2 : Int32) (x3 : Int32) (x4 : Int32) (σ : ST) : Option (Int32 × ST) :=
    bd2 (f_X12_isMouth x4 σ) fun v2 s1 =>
    if v2 = 0 then
    (bd2 (f_X12_no (-1) s1) fun v36 s35 =>
    some (v36, s35))
    else (bd2 (f_X12_noRow x1 s1) fun v4 s3 =>
    if v4 < 0 then
    (bd2 (f_X12_no v4 s3) fun v34 s33 =>
    some (v34, s33))
    else (if x3 < 0 then
    (bd2 (f_X12_no (-4) s3) fun v32 s31 =>
    some (v32, s31))
    else (if x2 < 0 then
    (bd2 (f_X12_no (-5) s3) fun v6 s5 =>
    some (v6, s5))
    else ((rdI s3 264 8 x1).bind fun v7 =>
    if 0 < (lg_cmp (((x2).toInt64) + ((x3).toInt64)) ((v7).toInt64)) then
    (bd2 (f_X12_no (-5) s3) fun v30 s29 =>
    some (v30, s29))
    else (if (x3 - x3 / (nI 5) * (nI 5)) = 0 then
    (f_X12_sheet_91 FU x1 x2 x3 x4 (nI 0) x2 s3)
    else (bd2 (f_X12_no (-6) s3) fun v28 s27 =>
    some (v28, s27)))))))
theorem e_X12_sheet {G : GP} {x1 : Int32} {x2 : Int32} {x3 : Int32} {x4 : Int32} {σ : ST} {v : Int32} {s : ST}  (h : f_X12_sheet x1 x2 x3 x4 σ = some (v, s)) : E G mX12_sheet (2, 43) 0 [.ref 247, .int x1, .int x2, .int x3, .int x4, D0, D0, D0, D0, D0, D0, D0, D0, D0] [] (mem σ) (QI v s) := by
  unfold f_X12_sheet at h
  refine E_aload_n (pc := 0) rfl dX12_sheet_0 ?_
  refine E_iload (pc := 1) rfl dX12_sheet_1 ?_
  obtain ⟨v2, s1, hp, h⟩ := bd2_some h
  refine E_callV (pc := 3) (As := [_]) (fc := (0, 0)) s12_223_12 oX12_isMouth dX12_sheet_3 (mem_ob (ent_st MO247)) rfl rfl (Nat.le_of_ble_eq_true rfl) rfl rfl (by decide) (e_X12_isMouth hp) (fun rv_ M_ hq_ => ?_)
  obtain ⟨rfl, rfl⟩ := hq_
  refine T_if_ne (pc := 6) 15 dX12_sheet_6 (by decide) h (fun h => ?_) (fun h => ?_)
  · refine E_aload_n (pc := 15) rfl dX12_sheet_15 ?_
    refine E_iload_n (pc := 16) rfl dX12_sheet_16 ?_
    obtain ⟨v4, s3, hp, h⟩ := bd2_some h
    refine E_callV (pc := 17) (As := [_]) (fc := (1, 21)) s12_182_12 oX12_noRow dX12_sheet_17 (mem_ob (ent_st MO247)) rfl rfl (Nat.le_of_ble_eq_true rfl) rfl rfl (by decide) (e_X12_noRow hp) (fun rv_ M_ hq_ => ?_)
    obtain ⟨rfl, rfl⟩ := hq_
    refine E_istore (pc := 20) (L2 := [_, _, _, _, _, _, _, _, _, _, _, _, _, _]) rfl rfl dX12_sheet_20 ?_
    refine E_iload (pc := 22) rfl dX12_sheet_22 ?_
    refine T_if_ge (pc := 24) 34 dX12_sheet_24 (by decide) h (fun h => ?_) (fun h => ?_)
    · refine E_iload_n (pc := 34) rfl dX12_sheet_34 ?_
      refine T_if_ge (pc := 35) 45 dX12_sheet_35 (by decide) h (fun h => ?_) (fun h => ?_)
      · refine E_iload_n (pc := 45) rfl dX12_sheet_45 ?_
        refine T_if_lt (pc := 46) 65 dX12_sheet_46 (by decide) h (fun h => ?_) (fun h => ?_)
        · refine E_aload_n (pc := 65) rfl dX12_sheet_65 ?_
          refine E_bipush (pc := 66) (-5) (by decide) dX12_sheet_66 ?_
          obtain ⟨v6, s5, hp, h⟩ := bd2_some h
          refine E_callV (pc := 68) (As := [_]) (fc := (0, 0)) s12_175_12 oX12_no dX12_sheet_68 (mem_ob (ent_st MO247)) rfl rfl (Nat.le_of_ble_eq_true rfl) rfl rfl (by decide) (e_X12_no hp) (fun rv_ M_ hq_ => ?_)
          obtain ⟨rfl, rfl⟩ := hq_
          exact E_ireturn (pc := 71) rfl rfl dX12_sheet_71 (QI_of h)
        · refine E_iload_n (pc := 49) rfl dX12_sheet_49 ?_
          refine E_i2l (pc := 50) dX12_sheet_50 ?_
          refine E_iload_n (pc := 51) rfl dX12_sheet_51 ?_
          refine E_i2l (pc := 52) dX12_sheet_52 ?_
          refine E_ladd (pc := 53) dX12_sheet_53 ?_
          refine E_aload_n (pc := 54) rfl dX12_sheet_54 ?_
          refine R_getR (pc := 55) (b := 264) f12_58 dX12_sheet_55 (ent_st MO247) (by decide) rfl rfl ?_
          refine E_iload_n (pc := 58) rfl dX12_sheet_58 ?_
          refine T_iald (pc := 59) dX12_sheet_59 (ent_st MA264) (by decide) h (fun v7 h => ?_)
          refine E_i2l (pc := 60) dX12_sheet_60 ?_
          refine E_lcmp (pc := 61) dX12_sheet_61 ?_
          refine T_if_le (pc := 62) 72 dX12_sheet_62 (by decide) h (fun h => ?_) (fun h => ?_)
          · refine E_iload_n (pc := 72) rfl dX12_sheet_72 ?_
            refine E_iconst (pc := 73) 5 rfl dX12_sheet_73 ?_
            refine E_irem (pc := 74) (by decide) dX12_sheet_74 ?_
            refine T_if_eq (pc := 75) 85 dX12_sheet_75 (by decide) h (fun h => ?_) (fun h => ?_)
            · refine E_iconst (pc := 85) 0 rfl dX12_sheet_85 ?_
              refine E_istore (pc := 86) (L2 := [_, _, _, _, _, _, _, _, _, _, _, _, _, _]) rfl rfl dX12_sheet_86 ?_
              refine E_iload_n (pc := 88) rfl dX12_sheet_88 ?_
              refine E_istore (pc := 89) (L2 := [_, _, _, _, _, _, _, _, _, _, _, _, _, _]) rfl rfl dX12_sheet_89 ?_
              refine E_kp [true, true, true, true, true, false, true, true, false, false, false, false, false, false] (L2 := [_, _, _, _, _, D0, _, _, D0, D0, D0, D0, D0, D0]) rfl rfl ?_
              refine e_X12_sheet_91  FU h
            · refine E_aload_n (pc := 78) rfl dX12_sheet_78 ?_
              refine E_bipush (pc := 79) (-6) (by decide) dX12_sheet_79 ?_
              obtain ⟨v28, s27, hp, h⟩ := bd2_some h
              refine E_callV (pc := 81) (As := [_]) (fc := (0, 0)) s12_175_12 oX12_no dX12_sheet_81 (mem_ob (ent_st MO247)) rfl rfl (Nat.le_of_ble_eq_true rfl) rfl rfl (by decide) (e_X12_no hp) (fun rv_ M_ hq_ => ?_)
              obtain ⟨rfl, rfl⟩ := hq_
              exact E_ireturn (pc := 84) rfl rfl dX12_sheet_84 (QI_of h)
          · refine E_aload_n (pc := 65) rfl dX12_sheet_65 ?_
            refine E_bipush (pc := 66) (-5) (by decide) dX12_sheet_66 ?_
            obtain ⟨v30, s29, hp, h⟩ := bd2_some h
            refine E_callV (pc := 68) (As := [_]) (fc := (0, 0)) s12_175_12 oX12_no dX12_sheet_68 (mem_ob (ent_st MO247)) rfl rfl (Nat.le_of_ble_eq_true rfl) rfl rfl (by decide) (e_X12_no hp) (fun rv_ M_ hq_ => ?_)
            obtain ⟨rfl, rfl⟩ := hq_
            exact E_ireturn (pc := 71) rfl rfl dX12_sheet_71 (QI_of h)
      · refine E_aload_n (pc := 38) rfl dX12_sheet_38 ?_
        refine E_bipush (pc := 39) (-4) (by decide) dX12_sheet_39 ?_
        obtain ⟨v32, s31, hp, h⟩ := bd2_some h
        refine E_callV (pc := 41) (As := [_]) (fc := (0, 0)) s12_175_12 oX12_no dX12_sheet_41 (mem_ob (ent_st MO247)) rfl rfl (Nat.le_of_ble_eq_true rfl) rfl rfl (by decide) (e_X12_no hp) (fun rv_ M_ hq_ => ?_)
        obtain ⟨rfl, rfl⟩ := hq_
        exact E_ireturn (pc := 44) rfl rfl dX12_sheet_44 (QI_of h)
    · refine E_aload_n (pc := 27) rfl dX12_sheet_27 ?_
      refine E_iload (pc := 28) rfl dX12_sheet_28 ?_
      obtain ⟨v34, s33, hp, h⟩ := bd2_some h
      refine E_callV (pc := 30) (As := [_]) (fc := (0, 0)) s12_175_12 oX12_no dX12_sheet_30 (mem_ob (ent_st MO247)) rfl rfl (Nat.le_of_ble_eq_true rfl) rfl rfl (by decide) (e_X12_no hp) (fun rv_ M_ hq_ => ?_)
      obtain ⟨rfl, rfl⟩ := hq_
      exact E_ireturn (pc := 33) rfl rfl dX12_sheet_33 (QI_of h)
  · refine E_aload_n (pc := 9) rfl dX12_sheet_9 ?_
    refine E_im1 (pc := 10) dX12_sheet_10 ?_
    obtain ⟨v36, s35, hp, h⟩ := bd2_some h
    refine E_callV (pc := 11) (As := [_]) (fc := (0, 0)) s12_175_12 oX12_no dX12_sheet_11 (mem_ob (ent_st MO247)) rfl rfl (Nat.le_of_ble_eq_true rfl) rfl rfl (by decide) (e_X12_no hp) (fun rv_ M_ hq_ => ?_)
    obtain ⟨rfl, rfl⟩ := hq_
    exact E_ireturn (pc := 14) rfl rfl dX12_sheet_14 (QI_of h)
noncomputable def f_X12_by_23 (x1 : Int32) (z0 : Int32) (sg : ST) : Option (Int32 × ST) :=
    (rdI sg 261 16 x1).bind fun v3 =>
    if v3 = z0 then
    (some ((nI 0), sg))
    else ((wrI sg 261 16 x1 z0).bind fun s4 =>
    some ((nI 1), s4))
theorem e_X12_by_23 {G : GP} {x1 : Int32} {z0 : Int32} {sg : ST} {v : Int32} {s : ST}  (h : f_X12_by_23 x1 z0 sg = some (v, s)) : E G mX12_by (1, 21) 23 [.ref 247, .int x1, D0, D0] [.int z0] (mem sg) (QI v s) := by
  unfold f_X12_by_23 at h
  refine E_istore_n (pc := 23) (L2 := [_, _, _, _]) rfl rfl dX12_by_23 ?_
  refine E_aload_n (pc := 24) rfl dX12_by_24 ?_
  refine R_getR (pc := 25) (b := 261) f12_49 dX12_by_25 (ent_st MO247) (by decide) rfl rfl ?_
  refine E_iload_n (pc := 28) rfl dX12_by_28 ?_
  refine T_iald (pc := 29) dX12_by_29 (ent_st MA261) (by decide) h (fun v3 h => ?_)
  refine E_iload_n (pc := 30) rfl dX12_by_30 ?_
  refine T_icmp_ne (pc := 31) 36 dX12_by_31 (by decide) h (fun h => ?_) (fun h => ?_)
  · refine E_aload_n (pc := 36) rfl dX12_by_36 ?_
    refine R_getR (pc := 37) (b := 261) f12_49 dX12_by_37 (ent_st MO247) (by decide) rfl rfl ?_
    refine E_iload_n (pc := 40) rfl dX12_by_40 ?_
    refine E_iload_n (pc := 41) rfl dX12_by_41 ?_
    refine T_iast (pc := 42) dX12_by_42 (ent_st MA261) (by decide) h (fun s4 h => ?_)
    refine E_iconst (pc := 43) 1 rfl dX12_by_43 ?_
    exact E_ireturn (pc := 44) rfl rfl dX12_by_44 (QI_of h)
  · refine E_iconst (pc := 34) 0 rfl dX12_by_34 ?_
    exact E_ireturn (pc := 35) rfl rfl dX12_by_35 (QI_of h)
noncomputable def f_X12_by (x1 : Int32) (x2 : Int32) (σ : ST) : Option (Int32 × ST) :=
    bd2 (f_X12_isPiece x1 σ) fun v2 s1 =>
    if v2 = 0 then
    (bd2 (f_X12_no (-1) s1) fun v6 s5 =>
    some (v6, s5))
    else (if x2 = 0 then
    (f_X12_by_23 x1 (nI 0) s1)
    else (f_X12_by_23 x1 (nI 1) s1))
theorem e_X12_by {G : GP} {x1 : Int32} {x2 : Int32} {σ : ST} {v : Int32} {s : ST}  (h : f_X12_by x1 x2 σ = some (v, s)) : E G mX12_by (1, 21) 0 [.ref 247, .int x1, .int x2, D0] [] (mem σ) (QI v s) := by
  unfold f_X12_by at h
  refine E_aload_n (pc := 0) rfl dX12_by_0 ?_
  refine E_iload_n (pc := 1) rfl dX12_by_1 ?_
  obtain ⟨v2, s1, hp, h⟩ := bd2_some h
  refine E_callV (pc := 2) (As := [_]) (fc := (0, 0)) s12_188_12 oX12_isPiece dX12_by_2 (mem_ob (ent_st MO247)) rfl rfl (Nat.le_of_ble_eq_true rfl) rfl rfl (by decide) (e_X12_isPiece hp) (fun rv_ M_ hq_ => ?_)
  obtain ⟨rfl, rfl⟩ := hq_
  refine T_if_ne (pc := 5) 14 dX12_by_5 (by decide) h (fun h => ?_) (fun h => ?_)
  · refine E_iload_n (pc := 14) rfl dX12_by_14 ?_
    refine T_if_eq (pc := 15) 22 dX12_by_15 (by decide) h (fun h => ?_) (fun h => ?_)
    · refine E_iconst (pc := 22) 0 rfl dX12_by_22 ?_
      refine E_kp [true, true, false, false] (L2 := [_, _, D0, D0]) rfl rfl ?_
      refine e_X12_by_23  h
    · refine E_iconst (pc := 18) 1 rfl dX12_by_18 ?_
      refine E_goto (pc := 19) 23 (by decide) dX12_by_19 ?_
      refine E_kp [true, true, false, false] (L2 := [_, _, D0, D0]) rfl rfl ?_
      refine e_X12_by_23  h
  · refine E_aload_n (pc := 8) rfl dX12_by_8 ?_
    refine E_im1 (pc := 9) dX12_by_9 ?_
    obtain ⟨v6, s5, hp, h⟩ := bd2_some h
    refine E_callV (pc := 10) (As := [_]) (fc := (0, 0)) s12_175_12 oX12_no dX12_by_10 (mem_ob (ent_st MO247)) rfl rfl (Nat.le_of_ble_eq_true rfl) rfl rfl (by decide) (e_X12_no hp) (fun rv_ M_ hq_ => ?_)
    obtain ⟨rfl, rfl⟩ := hq_
    exact E_ireturn (pc := 13) rfl rfl dX12_by_13 (QI_of h)
noncomputable def f_X12_pieceOf (x1 : Int32) (x2 : Int32) (σ : ST) : Option (Int32 × ST) :=
    bd2 (f_X12_isPiece x1 σ) fun v2 s1 =>
    if v2 = 0 then
    (bd2 (f_X12_no (-5) s1) fun v4 s3 =>
    some (v4, s3))
    else (if x2 < 0 then
    (bd2 (f_X12_no (-5) s1) fun v6 s5 =>
    some (v6, s5))
    else (if (nI 6) < x2 then
    (bd2 (f_X12_no (-5) s1) fun v15 s14 =>
    some (v15, s14))
    else (if x2 = 0 then
    ((rdI s1 255 16 x1).bind fun v13 =>
    some (v13, s1))
    else (if x2 = (nI 1) then
    ((rdI s1 256 16 x1).bind fun v12 =>
    some (v12, s1))
    else (if x2 = (nI 2) then
    ((rdI s1 257 16 x1).bind fun v11 =>
    some (v11, s1))
    else (if x2 = (nI 3) then
    ((rdI s1 258 16 x1).bind fun v10 =>
    some (v10, s1))
    else (if x2 = (nI 4) then
    ((rdI s1 259 16 x1).bind fun v9 =>
    some (v9, s1))
    else (if x2 = (nI 5) then
    ((rdI s1 260 16 x1).bind fun v8 =>
    some (v8, s1))
    else ((rdI s1 261 16 x1).bind fun v7 =>
    some (v7, s1))))))))))
theorem e_X12_pieceOf {G : GP} {x1 : Int32} {x2 : Int32} {σ : ST} {v : Int32} {s : ST}  (h : f_X12_pieceOf x1 x2 σ = some (v, s)) : E G mX12_pieceOf (1, 21) 0 [.ref 247, .int x1, .int x2] [] (mem σ) (QI v s) := by
  unfold f_X12_pieceOf at h
  refine E_aload_n (pc := 0) rfl dX12_pieceOf_0 ?_
  refine E_iload_n (pc := 1) rfl dX12_pieceOf_1 ?_
  obtain ⟨v2, s1, hp, h⟩ := bd2_some h
  refine E_callV (pc := 2) (As := [_]) (fc := (0, 0)) s12_188_12 oX12_isPiece dX12_pieceOf_2 (mem_ob (ent_st MO247)) rfl rfl (Nat.le_of_ble_eq_true rfl) rfl rfl (by decide) (e_X12_isPiece hp) (fun rv_ M_ hq_ => ?_)
  obtain ⟨rfl, rfl⟩ := hq_
  refine T_if_eq (pc := 5) 18 dX12_pieceOf_5 (by decide) h (fun h => ?_) (fun h => ?_)
  · refine E_aload_n (pc := 18) rfl dX12_pieceOf_18 ?_
    refine E_bipush (pc := 19) (-5) (by decide) dX12_pieceOf_19 ?_
    obtain ⟨v4, s3, hp, h⟩ := bd2_some h
    refine E_callV (pc := 21) (As := [_]) (fc := (0, 0)) s12_175_12 oX12_no dX12_pieceOf_21 (mem_ob (ent_st MO247)) rfl rfl (Nat.le_of_ble_eq_true rfl) rfl rfl (by decide) (e_X12_no hp) (fun rv_ M_ hq_ => ?_)
    obtain ⟨rfl, rfl⟩ := hq_
    exact E_ireturn (pc := 24) rfl rfl dX12_pieceOf_24 (QI_of h)
  · refine E_iload_n (pc := 8) rfl dX12_pieceOf_8 ?_
    refine T_if_lt (pc := 9) 18 dX12_pieceOf_9 (by decide) h (fun h => ?_) (fun h => ?_)
    · refine E_aload_n (pc := 18) rfl dX12_pieceOf_18 ?_
      refine E_bipush (pc := 19) (-5) (by decide) dX12_pieceOf_19 ?_
      obtain ⟨v6, s5, hp, h⟩ := bd2_some h
      refine E_callV (pc := 21) (As := [_]) (fc := (0, 0)) s12_175_12 oX12_no dX12_pieceOf_21 (mem_ob (ent_st MO247)) rfl rfl (Nat.le_of_ble_eq_true rfl) rfl rfl (by decide) (e_X12_no hp) (fun rv_ M_ hq_ => ?_)
      obtain ⟨rfl, rfl⟩ := hq_
      exact E_ireturn (pc := 24) rfl rfl dX12_pieceOf_24 (QI_of h)
    · refine E_iload_n (pc := 12) rfl dX12_pieceOf_12 ?_
      refine E_bipush (pc := 13) (nI 6) (by decide) dX12_pieceOf_13 ?_
      refine T_icmp_le (pc := 15) 25 dX12_pieceOf_15 (by decide) h (fun h => ?_) (fun h => ?_)
      · refine E_iload_n (pc := 25) rfl dX12_pieceOf_25 ?_
        refine T_if_ne (pc := 26) 36 dX12_pieceOf_26 (by decide) h (fun h => ?_) (fun h => ?_)
        · refine E_iload_n (pc := 36) rfl dX12_pieceOf_36 ?_
          refine E_iconst (pc := 37) 1 rfl dX12_pieceOf_37 ?_
          refine T_icmp_ne (pc := 38) 48 dX12_pieceOf_38 (by decide) h (fun h => ?_) (fun h => ?_)
          · refine E_iload_n (pc := 48) rfl dX12_pieceOf_48 ?_
            refine E_iconst (pc := 49) 2 rfl dX12_pieceOf_49 ?_
            refine T_icmp_ne (pc := 50) 60 dX12_pieceOf_50 (by decide) h (fun h => ?_) (fun h => ?_)
            · refine E_iload_n (pc := 60) rfl dX12_pieceOf_60 ?_
              refine E_iconst (pc := 61) 3 rfl dX12_pieceOf_61 ?_
              refine T_icmp_ne (pc := 62) 72 dX12_pieceOf_62 (by decide) h (fun h => ?_) (fun h => ?_)
              · refine E_iload_n (pc := 72) rfl dX12_pieceOf_72 ?_
                refine E_iconst (pc := 73) 4 rfl dX12_pieceOf_73 ?_
                refine T_icmp_ne (pc := 74) 84 dX12_pieceOf_74 (by decide) h (fun h => ?_) (fun h => ?_)
                · refine E_iload_n (pc := 84) rfl dX12_pieceOf_84 ?_
                  refine E_iconst (pc := 85) 5 rfl dX12_pieceOf_85 ?_
                  refine T_icmp_ne (pc := 86) 98 dX12_pieceOf_86 (by decide) h (fun h => ?_) (fun h => ?_)
                  · refine E_aload_n (pc := 98) rfl dX12_pieceOf_98 ?_
                    refine R_getR (pc := 99) (b := 261) f12_49 dX12_pieceOf_99 (ent_st MO247) (by decide) rfl rfl ?_
                    refine E_iload_n (pc := 102) rfl dX12_pieceOf_102 ?_
                    refine T_iald (pc := 103) dX12_pieceOf_103 (ent_st MA261) (by decide) h (fun v7 h => ?_)
                    exact E_ireturn (pc := 104) rfl rfl dX12_pieceOf_104 (QI_of h)
                  · refine E_aload_n (pc := 89) rfl dX12_pieceOf_89 ?_
                    refine R_getR (pc := 90) (b := 260) f12_46 dX12_pieceOf_90 (ent_st MO247) (by decide) rfl rfl ?_
                    refine E_iload_n (pc := 93) rfl dX12_pieceOf_93 ?_
                    refine T_iald (pc := 94) dX12_pieceOf_94 (ent_st MA260) (by decide) h (fun v8 h => ?_)
                    refine E_goto (pc := 95) 104 (by decide) dX12_pieceOf_95 ?_
                    exact E_ireturn (pc := 104) rfl rfl dX12_pieceOf_104 (QI_of h)
                · refine E_aload_n (pc := 77) rfl dX12_pieceOf_77 ?_
                  refine R_getR (pc := 78) (b := 259) f12_43 dX12_pieceOf_78 (ent_st MO247) (by decide) rfl rfl ?_
                  refine E_iload_n (pc := 81) rfl dX12_pieceOf_81 ?_
                  refine T_iald (pc := 82) dX12_pieceOf_82 (ent_st MA259) (by decide) h (fun v9 h => ?_)
                  exact E_ireturn (pc := 83) rfl rfl dX12_pieceOf_83 (QI_of h)
              · refine E_aload_n (pc := 65) rfl dX12_pieceOf_65 ?_
                refine R_getR (pc := 66) (b := 258) f12_40 dX12_pieceOf_66 (ent_st MO247) (by decide) rfl rfl ?_
                refine E_iload_n (pc := 69) rfl dX12_pieceOf_69 ?_
                refine T_iald (pc := 70) dX12_pieceOf_70 (ent_st MA258) (by decide) h (fun v10 h => ?_)
                exact E_ireturn (pc := 71) rfl rfl dX12_pieceOf_71 (QI_of h)
            · refine E_aload_n (pc := 53) rfl dX12_pieceOf_53 ?_
              refine R_getR (pc := 54) (b := 257) f12_37 dX12_pieceOf_54 (ent_st MO247) (by decide) rfl rfl ?_
              refine E_iload_n (pc := 57) rfl dX12_pieceOf_57 ?_
              refine T_iald (pc := 58) dX12_pieceOf_58 (ent_st MA257) (by decide) h (fun v11 h => ?_)
              exact E_ireturn (pc := 59) rfl rfl dX12_pieceOf_59 (QI_of h)
          · refine E_aload_n (pc := 41) rfl dX12_pieceOf_41 ?_
            refine R_getR (pc := 42) (b := 256) f12_34 dX12_pieceOf_42 (ent_st MO247) (by decide) rfl rfl ?_
            refine E_iload_n (pc := 45) rfl dX12_pieceOf_45 ?_
            refine T_iald (pc := 46) dX12_pieceOf_46 (ent_st MA256) (by decide) h (fun v12 h => ?_)
            exact E_ireturn (pc := 47) rfl rfl dX12_pieceOf_47 (QI_of h)
        · refine E_aload_n (pc := 29) rfl dX12_pieceOf_29 ?_
          refine R_getR (pc := 30) (b := 255) f12_31 dX12_pieceOf_30 (ent_st MO247) (by decide) rfl rfl ?_
          refine E_iload_n (pc := 33) rfl dX12_pieceOf_33 ?_
          refine T_iald (pc := 34) dX12_pieceOf_34 (ent_st MA255) (by decide) h (fun v13 h => ?_)
          exact E_ireturn (pc := 35) rfl rfl dX12_pieceOf_35 (QI_of h)
      · refine E_aload_n (pc := 18) rfl dX12_pieceOf_18 ?_
        refine E_bipush (pc := 19) (-5) (by decide) dX12_pieceOf_19 ?_
        obtain ⟨v15, s14, hp, h⟩ := bd2_some h
        refine E_callV (pc := 21) (As := [_]) (fc := (0, 0)) s12_175_12 oX12_no dX12_pieceOf_21 (mem_ob (ent_st MO247)) rfl rfl (Nat.le_of_ble_eq_true rfl) rfl rfl (by decide) (e_X12_no hp) (fun rv_ M_ hq_ => ?_)
        obtain ⟨rfl, rfl⟩ := hq_
        exact E_ireturn (pc := 24) rfl rfl dX12_pieceOf_24 (QI_of h)
noncomputable def f_X12_holds__161 (a1 : Nat) (n1 : Nat) (k6 : Int32 → Int32 → Int32 → Int32 → ST → Option (Int32 × ST)) (x2 : Int32) (x3 : Int32) (x5 : Int32) (x7 : Int32) (z0 : Int32) (sg : ST) : Option (Int32 × ST) :=
    if z0 = x7 then
    (k6 x2 x3 (nI 0) x5 sg)
    else (k6 x2 x3 (nI 1) x5 sg)
theorem e_X12_holds__161 {G : GP} {a1 : Nat} {n1 : Nat} {k6 : Int32 → Int32 → Int32 → Int32 → ST → Option (Int32 × ST)} {x2 : Int32} {x3 : Int32} {x5 : Int32} {x7 : Int32} {z0 : Int32} {sg : ST} {v : Int32} {s : ST} (h1 : slT[a1]? = some (0, n1, []) ∧ n1 < 2 ^ 31) (hk6 : ∀ {x2 : Int32} {x3 : Int32} {x4 : Int32} {x5 : Int32} {sg : ST}, k6 x2 x3 x4 x5 sg = some (v, s) → E G mX12_holds_ (0, 0) 6 [.ref 247, .ref a1, .int x2, .int x3, .int x4, .int x5, D0, D0, D0, D0] [] (mem sg) (QI v s)) (h : f_X12_holds__161 a1 n1 k6 x2 x3 x5 x7 z0 sg = some (v, s)) : E G mX12_holds_ (0, 0) 161 [.ref 247, .ref a1, .int x2, .int x3, D0, .int x5, D0, .int x7, D0, D0] [.int z0] (mem sg) (QI v s) := by
  unfold f_X12_holds__161 at h
  refine E_iload (pc := 161) rfl dX12_holds__161 ?_
  refine T_icmp_eq (pc := 163) 170 dX12_holds__163 (by decide) h (fun h => ?_) (fun h => ?_)
  · refine E_iconst (pc := 170) 0 rfl dX12_holds__170 ?_
    refine E_istore (pc := 171) (L2 := [_, _, _, _, _, _, _, _, _, _]) rfl rfl dX12_holds__171 ?_
    refine E_goto (pc := 173) 6 (by decide) dX12_holds__173 ?_
    refine E_kp [true, true, true, true, true, true, false, false, false, false] (L2 := [_, _, _, _, _, _, D0, D0, D0, D0]) rfl rfl ?_
    exact hk6 h
  · refine E_iconst (pc := 166) 1 rfl dX12_holds__166 ?_
    refine E_goto (pc := 167) 171 (by decide) dX12_holds__167 ?_
    refine E_istore (pc := 171) (L2 := [_, _, _, _, _, _, _, _, _, _]) rfl rfl dX12_holds__171 ?_
    refine E_goto (pc := 173) 6 (by decide) dX12_holds__173 ?_
    refine E_kp [true, true, true, true, true, true, false, false, false, false] (L2 := [_, _, _, _, _, _, D0, D0, D0, D0]) rfl rfl ?_
    exact hk6 h
noncomputable def f_X12_holds__144 (a1 : Nat) (n1 : Nat) (k6 : Int32 → Int32 → Int32 → Int32 → ST → Option (Int32 × ST)) (x2 : Int32) (x3 : Int32) (x4 : Int32) (x5 : Int32) (x7 : Int32) (x8 : Int32) (x9 : Int32) (sg : ST) : Option (Int32 × ST) :=
    if x4 = 0 then
    (k6 x2 x3 (nI 0) x5 sg)
    else (if x9 < x8 then
    (f_X12_holds__161 a1 n1 k6 x2 x3 x5 x7 (nI 1) sg)
    else (f_X12_holds__161 a1 n1 k6 x2 x3 x5 x7 (nI 0) sg))
theorem e_X12_holds__144 {G : GP} {a1 : Nat} {n1 : Nat} {k6 : Int32 → Int32 → Int32 → Int32 → ST → Option (Int32 × ST)} {x2 : Int32} {x3 : Int32} {x4 : Int32} {x5 : Int32} {x7 : Int32} {x8 : Int32} {x9 : Int32} {sg : ST} {v : Int32} {s : ST} (h1 : slT[a1]? = some (0, n1, []) ∧ n1 < 2 ^ 31) (hk6 : ∀ {x2 : Int32} {x3 : Int32} {x4 : Int32} {x5 : Int32} {sg : ST}, k6 x2 x3 x4 x5 sg = some (v, s) → E G mX12_holds_ (0, 0) 6 [.ref 247, .ref a1, .int x2, .int x3, .int x4, .int x5, D0, D0, D0, D0] [] (mem sg) (QI v s)) (h : f_X12_holds__144 a1 n1 k6 x2 x3 x4 x5 x7 x8 x9 sg = some (v, s)) : E G mX12_holds_ (0, 0) 144 [.ref 247, .ref a1, .int x2, .int x3, .int x4, .int x5, D0, .int x7, .int x8, .int x9] [] (mem sg) (QI v s) := by
  unfold f_X12_holds__144 at h
  refine E_iload (pc := 144) rfl dX12_holds__144 ?_
  refine T_if_eq (pc := 146) 170 dX12_holds__146 (by decide) h (fun h => ?_) (fun h => ?_)
  · refine E_iconst (pc := 170) 0 rfl dX12_holds__170 ?_
    refine E_istore (pc := 171) (L2 := [_, _, _, _, _, _, _, _, _, _]) rfl rfl dX12_holds__171 ?_
    refine E_goto (pc := 173) 6 (by decide) dX12_holds__173 ?_
    refine E_kp [true, true, true, true, true, true, false, false, false, false] (L2 := [_, _, _, _, _, _, D0, D0, D0, D0]) rfl rfl ?_
    exact hk6 h
  · refine E_iload (pc := 149) rfl dX12_holds__149 ?_
    refine E_iload (pc := 151) rfl dX12_holds__151 ?_
    refine T_icmp_le (pc := 153) 160 dX12_holds__153 (by decide) h (fun h => ?_) (fun h => ?_)
    · refine E_iconst (pc := 160) 0 rfl dX12_holds__160 ?_
      refine E_kp [true, true, true, true, false, true, false, true, false, false] (L2 := [_, _, _, _, D0, _, D0, _, D0, D0]) rfl rfl ?_
      refine e_X12_holds__161 ⟨h1.1, h1.2⟩ (fun h => hk6 h) h
    · refine E_iconst (pc := 156) 1 rfl dX12_holds__156 ?_
      refine E_goto (pc := 157) 161 (by decide) dX12_holds__157 ?_
      refine E_kp [true, true, true, true, false, true, false, true, false, false] (L2 := [_, _, _, _, D0, _, D0, _, D0, D0]) rfl rfl ?_
      refine e_X12_holds__161 ⟨h1.1, h1.2⟩ (fun h => hk6 h) h
noncomputable def f_X12_holds__89 (a1 : Nat) (n1 : Nat) (k6 : Int32 → Int32 → Int32 → Int32 → ST → Option (Int32 × ST)) (x2 : Int32) (x3 : Int32) (x4 : Int32) (x5 : Int32) (x7 : Int32) (sg : ST) : Option (Int32 × ST) :=
    (rdI sg a1 n1 (x2 + x5)).bind fun v3 =>
    (rdI sg 266 10 (v3 - (nI 48))).bind fun v4 =>
    if (x5 + nI 1) < x3 then
    ((rdI sg a1 n1 (x2 + (x5 + nI 1))).bind fun v5 =>
    if v5 = (nI 62) then
    ((rdI sg a1 n1 ((x2 + (x5 + nI 1)) + (nI 1))).bind fun v6 =>
    f_X12_holds__144 a1 n1 k6 x2 x3 x4 ((x5 + nI 1) + nI 2) x7 v4 (v6 - (nI 48)) sg)
    else (f_X12_holds__144 a1 n1 k6 x2 x3 x4 (x5 + nI 1) x7 v4 (nI 0) sg))
    else (f_X12_holds__144 a1 n1 k6 x2 x3 x4 (x5 + nI 1) x7 v4 (nI 0) sg)
theorem e_X12_holds__89 {G : GP} {a1 : Nat} {n1 : Nat} {k6 : Int32 → Int32 → Int32 → Int32 → ST → Option (Int32 × ST)} {x2 : Int32} {x3 : Int32} {x4 : Int32} {x5 : Int32} {x7 : Int32} {sg : ST} {v : Int32} {s : ST} (h1 : slT[a1]? = some (0, n1, []) ∧ n1 < 2 ^ 31) (hk6 : ∀ {x2 : Int32} {x3 : Int32} {x4 : Int32} {x5 : Int32} {sg : ST}, k6 x2 x3 x4 x5 sg = some (v, s) → E G mX12_holds_ (0, 0) 6 [.ref 247, .ref a1, .int x2, .int x3, .int x4, .int x5, D0, D0, D0, D0] [] (mem sg) (QI v s)) (h : f_X12_holds__89 a1 n1 k6 x2 x3 x4 x5 x7 sg = some (v, s)) : E G mX12_holds_ (0, 0) 89 [.ref 247, .ref a1, .int x2, .int x3, .int x4, .int x5, D0, .int x7, D0, D0] [] (mem sg) (QI v s) := by
  unfold f_X12_holds__89 at h
  refine E_aload_n (pc := 89) rfl dX12_holds__89 ?_
  refine R_getR (pc := 90) (b := 266) f12_69 dX12_holds__90 (ent_st MO247) (by decide) rfl rfl ?_
  refine E_aload_n (pc := 93) rfl dX12_holds__93 ?_
  refine E_iload_n (pc := 94) rfl dX12_holds__94 ?_
  refine E_iload (pc := 95) rfl dX12_holds__95 ?_
  refine E_iadd (pc := 97) dX12_holds__97 ?_
  refine T_iald (pc := 98) dX12_holds__98 (ent_st h1.1) h1.2 h (fun v3 h => ?_)
  refine E_bipush (pc := 99) (nI 48) (by decide) dX12_holds__99 ?_
  refine E_isub (pc := 101) dX12_holds__101 ?_
  refine T_iald (pc := 102) dX12_holds__102 (ent_st MA266) (by decide) h (fun v4 h => ?_)
  refine E_istore (pc := 103) (L2 := [_, _, _, _, _, _, _, _, _, _]) rfl rfl dX12_holds__103 ?_
  refine T_iinc (pc := 105) (m := 1) (L2 := [_, _, _, _, _, _, _, _, _, _]) rfl rfl rfl rfl dX12_holds__105 ?_
  refine E_iconst (pc := 108) 0 rfl dX12_holds__108 ?_
  refine E_istore (pc := 109) (L2 := [_, _, _, _, _, _, _, _, _, _]) rfl rfl dX12_holds__109 ?_
  refine E_iload (pc := 111) rfl dX12_holds__111 ?_
  refine E_iload_n (pc := 113) rfl dX12_holds__113 ?_
  refine T_icmp_ge (pc := 114) 144 dX12_holds__114 (by decide) h (fun h => ?_) (fun h => ?_)
  · refine e_X12_holds__144 ⟨h1.1, h1.2⟩ (fun h => hk6 h) h
  · refine E_aload_n (pc := 117) rfl dX12_holds__117 ?_
    refine E_iload_n (pc := 118) rfl dX12_holds__118 ?_
    refine E_iload (pc := 119) rfl dX12_holds__119 ?_
    refine E_iadd (pc := 121) dX12_holds__121 ?_
    refine T_iald (pc := 122) dX12_holds__122 (ent_st h1.1) h1.2 h (fun v5 h => ?_)
    refine E_bipush (pc := 123) (nI 62) (by decide) dX12_holds__123 ?_
    refine T_icmp_ne (pc := 125) 144 dX12_holds__125 (by decide) h (fun h => ?_) (fun h => ?_)
    · refine e_X12_holds__144 ⟨h1.1, h1.2⟩ (fun h => hk6 h) h
    · refine E_aload_n (pc := 128) rfl dX12_holds__128 ?_
      refine E_iload_n (pc := 129) rfl dX12_holds__129 ?_
      refine E_iload (pc := 130) rfl dX12_holds__130 ?_
      refine E_iadd (pc := 132) dX12_holds__132 ?_
      refine E_iconst (pc := 133) 1 rfl dX12_holds__133 ?_
      refine E_iadd (pc := 134) dX12_holds__134 ?_
      refine T_iald (pc := 135) dX12_holds__135 (ent_st h1.1) h1.2 h (fun v6 h => ?_)
      refine E_bipush (pc := 136) (nI 48) (by decide) dX12_holds__136 ?_
      refine E_isub (pc := 138) dX12_holds__138 ?_
      refine E_istore (pc := 139) (L2 := [_, _, _, _, _, _, _, _, _, _]) rfl rfl dX12_holds__139 ?_
      refine T_iinc (pc := 141) (m := 2) (L2 := [_, _, _, _, _, _, _, _, _, _]) rfl rfl rfl rfl dX12_holds__141 ?_
      refine e_X12_holds__144 ⟨h1.1, h1.2⟩ (fun h => hk6 h) h
noncomputable def f_X12_holds__79 (a1 : Nat) (n1 : Nat) (k6 : Int32 → Int32 → Int32 → Int32 → ST → Option (Int32 × ST)) (x2 : Int32) (x3 : Int32) (x4 : Int32) (x5 : Int32) (z0 : Int32) (sg : ST) : Option (Int32 × ST) :=
    if z0 = 0 then
    (f_X12_holds__89 a1 n1 k6 x2 x3 x4 x5 z0 sg)
    else (f_X12_holds__89 a1 n1 k6 x2 x3 x4 (x5 + nI 1) z0 sg)
theorem e_X12_holds__79 {G : GP} {a1 : Nat} {n1 : Nat} {k6 : Int32 → Int32 → Int32 → Int32 → ST → Option (Int32 × ST)} {x2 : Int32} {x3 : Int32} {x4 : Int32} {x5 : Int32} {z0 : Int32} {sg : ST} {v : Int32} {s : ST} (h1 : slT[a1]? = some (0, n1, []) ∧ n1 < 2 ^ 31) (hk6 : ∀ {x2 : Int32} {x3 : Int32} {x4 : Int32} {x5 : Int32} {sg : ST}, k6 x2 x3 x4 x5 sg = some (v, s) → E G mX12_holds_ (0, 0) 6 [.ref 247, .ref a1, .int x2, .int x3, .int x4, .int x5, D0, D0, D0, D0] [] (mem sg) (QI v s)) (h : f_X12_holds__79 a1 n1 k6 x2 x3 x4 x5 z0 sg = some (v, s)) : E G mX12_holds_ (0, 0) 79 [.ref 247, .ref a1, .int x2, .int x3, .int x4, .int x5, D0, D0, D0, D0] [.int z0] (mem sg) (QI v s) := by
  unfold f_X12_holds__79 at h
  refine E_istore (pc := 79) (L2 := [_, _, _, _, _, _, _, _, _, _]) rfl rfl dX12_holds__79 ?_
  refine E_iload (pc := 81) rfl dX12_holds__81 ?_
  refine T_if_eq (pc := 83) 89 dX12_holds__83 (by decide) h (fun h => ?_) (fun h => ?_)
  · refine e_X12_holds__89 ⟨h1.1, h1.2⟩ (fun h => hk6 h) h
  · refine T_iinc (pc := 86) (m := 1) (L2 := [_, _, _, _, _, _, _, _, _, _]) rfl rfl rfl rfl dX12_holds__86 ?_
    refine e_X12_holds__89 ⟨h1.1, h1.2⟩ (fun h => hk6 h) h
noncomputable def f_X12_holds__6 (a1 : Nat) (n1 : Nat) : Nat → Int32 → Int32 → Int32 → Int32 → ST → Option (Int32 × ST)
  | 0, _, _, _, _, _ => none
  | n + 1, x2, x3, x4, x5, sg =>
    if x5 < x3 then
    ((rdI sg a1 n1 (x2 + x5)).bind fun v1 =>
    if v1 = (nI 58) then
    (zr x4 sg)
    else ((rdI sg a1 n1 (x2 + x5)).bind fun v2 =>
    if v2 = (nI 124) then
    (if x4 = 0 then
    ((f_X12_holds__6 a1 n1 n) x2 x3 (nI 1) (x5 + nI 1) sg)
    else (some ((nI 1), sg)))
    else (if v2 = (nI 38) then
    ((f_X12_holds__6 a1 n1 n) x2 x3 x4 (x5 + nI 1) sg)
    else (if v2 = (nI 33) then
    (f_X12_holds__79 a1 n1 (f_X12_holds__6 a1 n1 n) x2 x3 x4 x5 (nI 1) sg)
    else (f_X12_holds__79 a1 n1 (f_X12_holds__6 a1 n1 n) x2 x3 x4 x5 (nI 0) sg)))))
    else (zr x4 sg)
theorem e_X12_holds__6 {G : GP} {a1 : Nat} {n1 : Nat} {v : Int32} {s : ST} (h1 : slT[a1]? = some (0, n1, []) ∧ n1 < 2 ^ 31) : ∀ (n : Nat) {x2 : Int32} {x3 : Int32} {x4 : Int32} {x5 : Int32} {sg : ST}, f_X12_holds__6 a1 n1 n x2 x3 x4 x5 sg = some (v, s) → E G mX12_holds_ (0, 0) 6 [.ref 247, .ref a1, .int x2, .int x3, .int x4, .int x5, D0, D0, D0, D0] [] (mem sg) (QI v s) := by
  intro n
  induction n with
  | zero => intro _ _ _ _ _ h; rw [f_X12_holds__6] at h; cases h
  | succ n ih =>
    intro x2 x3 x4 x5 sg h
    rw [f_X12_holds__6] at h
    refine E_iload (pc := 6) rfl dX12_holds__6 ?_
    refine E_iload_n (pc := 8) rfl dX12_holds__8 ?_
    refine T_icmp_ge (pc := 9) 176 dX12_holds__9 (by decide) h (fun h => ?_) (fun h => ?_)
    · refine E_iload (pc := 176) rfl dX12_holds__176 ?_
      exact T_zret (pc := 178) rfl dX12_holds__178 h
    · refine E_aload_n (pc := 12) rfl dX12_holds__12 ?_
      refine E_iload_n (pc := 13) rfl dX12_holds__13 ?_
      refine E_iload (pc := 14) rfl dX12_holds__14 ?_
      refine E_iadd (pc := 16) dX12_holds__16 ?_
      refine T_iald (pc := 17) dX12_holds__17 (ent_st h1.1) h1.2 h (fun v1 h => ?_)
      refine E_bipush (pc := 18) (nI 58) (by decide) dX12_holds__18 ?_
      refine T_icmp_eq (pc := 20) 176 dX12_holds__20 (by decide) h (fun h => ?_) (fun h => ?_)
      · refine E_iload (pc := 176) rfl dX12_holds__176 ?_
        exact T_zret (pc := 178) rfl dX12_holds__178 h
      · refine E_aload_n (pc := 23) rfl dX12_holds__23 ?_
        refine E_iload_n (pc := 24) rfl dX12_holds__24 ?_
        refine E_iload (pc := 25) rfl dX12_holds__25 ?_
        refine E_iadd (pc := 27) dX12_holds__27 ?_
        refine T_iald (pc := 28) dX12_holds__28 (ent_st h1.1) h1.2 h (fun v2 h => ?_)
        refine E_istore (pc := 29) (L2 := [_, _, _, _, _, _, _, _, _, _]) rfl rfl dX12_holds__29 ?_
        refine E_iload (pc := 31) rfl dX12_holds__31 ?_
        refine E_bipush (pc := 33) (nI 124) (by decide) dX12_holds__33 ?_
        refine T_icmp_ne (pc := 35) 54 dX12_holds__35 (by decide) h (fun h => ?_) (fun h => ?_)
        · refine E_iload (pc := 54) rfl dX12_holds__54 ?_
          refine E_bipush (pc := 56) (nI 38) (by decide) dX12_holds__56 ?_
          refine T_icmp_ne (pc := 58) 67 dX12_holds__58 (by decide) h (fun h => ?_) (fun h => ?_)
          · refine E_iload (pc := 67) rfl dX12_holds__67 ?_
            refine E_bipush (pc := 69) (nI 33) (by decide) dX12_holds__69 ?_
            refine T_icmp_ne (pc := 71) 78 dX12_holds__71 (by decide) h (fun h => ?_) (fun h => ?_)
            · refine E_iconst (pc := 78) 0 rfl dX12_holds__78 ?_
              refine E_kp [true, true, true, true, true, true, false, false, false, false] (L2 := [_, _, _, _, _, _, D0, D0, D0, D0]) rfl rfl ?_
              refine e_X12_holds__79 ⟨h1.1, h1.2⟩ (fun h => ih h) h
            · refine E_iconst (pc := 74) 1 rfl dX12_holds__74 ?_
              refine E_goto (pc := 75) 79 (by decide) dX12_holds__75 ?_
              refine E_kp [true, true, true, true, true, true, false, false, false, false] (L2 := [_, _, _, _, _, _, D0, D0, D0, D0]) rfl rfl ?_
              refine e_X12_holds__79 ⟨h1.1, h1.2⟩ (fun h => ih h) h
          · refine T_iinc (pc := 61) (m := 1) (L2 := [_, _, _, _, _, _, _, _, _, _]) rfl rfl rfl rfl dX12_holds__61 ?_
            refine E_goto (pc := 64) 6 (by decide) dX12_holds__64 ?_
            refine E_kp [true, true, true, true, true, true, false, false, false, false] (L2 := [_, _, _, _, _, _, D0, D0, D0, D0]) rfl rfl ?_
            exact ih h
        · refine E_iload (pc := 38) rfl dX12_holds__38 ?_
          refine T_if_eq (pc := 40) 45 dX12_holds__40 (by decide) h (fun h => ?_) (fun h => ?_)
          · refine E_iconst (pc := 45) 1 rfl dX12_holds__45 ?_
            refine E_istore (pc := 46) (L2 := [_, _, _, _, _, _, _, _, _, _]) rfl rfl dX12_holds__46 ?_
            refine T_iinc (pc := 48) (m := 1) (L2 := [_, _, _, _, _, _, _, _, _, _]) rfl rfl rfl rfl dX12_holds__48 ?_
            refine E_goto (pc := 51) 6 (by decide) dX12_holds__51 ?_
            refine E_kp [true, true, true, true, true, true, false, false, false, false] (L2 := [_, _, _, _, _, _, D0, D0, D0, D0]) rfl rfl ?_
            exact ih h
          · refine E_iconst (pc := 43) 1 rfl dX12_holds__43 ?_
            exact E_ireturn (pc := 44) rfl (by decide) dX12_holds__44 (QI_of h)
noncomputable def f_X12_holds_ (a1 : Nat) (n1 : Nat) (x2 : Int32) (x3 : Int32) (σ : ST) : Option (Int32 × ST) :=
    f_X12_holds__6 a1 n1 FU x2 x3 (nI 1) (nI 0) σ
theorem e_X12_holds_ {G : GP} {a1 : Nat} {n1 : Nat} {x2 : Int32} {x3 : Int32} {σ : ST} {v : Int32} {s : ST} (h1 : slT[a1]? = some (0, n1, []) ∧ n1 < 2 ^ 31) (h : f_X12_holds_ a1 n1 x2 x3 σ = some (v, s)) : E G mX12_holds_ (0, 0) 0 [.ref 247, .ref a1, .int x2, .int x3, D0, D0, D0, D0, D0, D0] [] (mem σ) (QI v s) := by
  unfold f_X12_holds_ at h
  refine E_iconst (pc := 0) 1 rfl dX12_holds__0 ?_
  refine E_istore (pc := 1) (L2 := [_, _, _, _, _, _, _, _, _, _]) rfl rfl dX12_holds__1 ?_
  refine E_iconst (pc := 3) 0 rfl dX12_holds__3 ?_
  refine E_istore (pc := 4) (L2 := [_, _, _, _, _, _, _, _, _, _]) rfl rfl dX12_holds__4 ?_
  refine e_X12_holds__6 ⟨h1.1, h1.2⟩ FU h
noncomputable def f_X12_thenOf_15 (k36 : Int32 → Int32 → Int32 → Int32 → Int32 → ST → Option (Int32 × ST)) : Nat → Int32 → Int32 → Int32 → Int32 → Int32 → ST → Option (Int32 × ST)
  | 0, _, _, _, _, _, _ => none
  | n + 1, x1, x4, x5, x6, x7, sg =>
    (rdI sg 252 360 (x6 + x7)).bind fun v1 =>
    if v1 = (nI 58) then
    (k36 x1 x4 x5 x6 x7 sg)
    else ((f_X12_thenOf_15 k36 n) x1 x4 x5 x6 (x7 + nI 1) sg)
theorem e_X12_thenOf_15 {G : GP} {k36 : Int32 → Int32 → Int32 → Int32 → Int32 → ST → Option (Int32 × ST)} {v : Int32} {s : ST} (hk36 : ∀ {x1 : Int32} {x4 : Int32} {x5 : Int32} {x6 : Int32} {x7 : Int32} {sg : ST}, k36 x1 x4 x5 x6 x7 sg = some (v, s) → E G mX12_thenOf (0, 0) 36 [.ref 247, .int x1, D0, D0, .int x4, .int x5, .int x6, .int x7, D0, D0, D0, D0] [] (mem sg) (QI v s)) : ∀ (n : Nat) {x1 : Int32} {x4 : Int32} {x5 : Int32} {x6 : Int32} {x7 : Int32} {sg : ST}, f_X12_thenOf_15 k36 n x1 x4 x5 x6 x7 sg = some (v, s) → E G mX12_thenOf (0, 0) 15 [.ref 247, .int x1, D0, D0, .int x4, .int x5, .int x6, .int x7, D0, D0, D0, D0] [] (mem sg) (QI v s) := by
  intro n
  induction n with
  | zero => intro _ _ _ _ _ _ h; rw [f_X12_thenOf_15] at h; cases h
  | succ n ih =>
    intro x1 x4 x5 x6 x7 sg h
    rw [f_X12_thenOf_15] at h
    refine E_aload_n (pc := 15) rfl dX12_thenOf_15 ?_
    refine R_getR (pc := 16) (b := 252) f12_22 dX12_thenOf_16 (ent_st MO247) (by decide) rfl rfl ?_
    refine E_iload (pc := 19) rfl dX12_thenOf_19 ?_
    refine E_iload (pc := 21) rfl dX12_thenOf_21 ?_
    refine E_iadd (pc := 23) dX12_thenOf_23 ?_
    refine T_iald (pc := 24) dX12_thenOf_24 (ent_st MA252) (by decide) h (fun v1 h => ?_)
    refine E_bipush (pc := 25) (nI 58) (by decide) dX12_thenOf_25 ?_
    refine T_icmp_eq (pc := 27) 36 dX12_thenOf_27 (by decide) h (fun h => ?_) (fun h => ?_)
    · exact hk36 h
    · refine T_iinc (pc := 30) (m := 1) (L2 := [_, _, _, _, _, _, _, _, _, _, _, _]) rfl rfl rfl rfl dX12_thenOf_30 ?_
      refine E_goto (pc := 33) 15 (by decide) dX12_thenOf_33 ?_
      exact ih h
noncomputable def f_X12_thenOf_85 (k112 : Int32 → Int32 → Int32 → Int32 → Int32 → Int32 → Int32 → ST → Option (Int32 × ST)) : Nat → Int32 → Int32 → Int32 → Int32 → Int32 → Int32 → Int32 → Int32 → Int32 → ST → Option (Int32 × ST)
  | 0, _, _, _, _, _, _, _, _, _, _ => none
  | n + 1, x1, x4, x5, x6, x7, x8, x9, x10, x11, sg =>
    if x11 < x9 then
    ((rdI sg 248 10 x11).bind fun v11 =>
    if v11 = (nI 1) then
    ((f_X12_thenOf_85 k112 n) x1 x4 x5 x6 x7 x8 x9 (x10 + nI 1) (x11 + nI 1) sg)
    else ((f_X12_thenOf_85 k112 n) x1 x4 x5 x6 x7 x8 x9 x10 (x11 + nI 1) sg))
    else (k112 x1 x4 x5 x6 x7 x8 x10 sg)
theorem e_X12_thenOf_85 {G : GP} {k112 : Int32 → Int32 → Int32 → Int32 → Int32 → Int32 → Int32 → ST → Option (Int32 × ST)} {v : Int32} {s : ST} (hk112 : ∀ {x1 : Int32} {x4 : Int32} {x5 : Int32} {x6 : Int32} {x7 : Int32} {x8 : Int32} {x10 : Int32} {sg : ST}, k112 x1 x4 x5 x6 x7 x8 x10 sg = some (v, s) → E G mX12_thenOf (0, 0) 112 [.ref 247, .int x1, D0, D0, .int x4, .int x5, .int x6, .int x7, .int x8, D0, .int x10, D0] [] (mem sg) (QI v s)) : ∀ (n : Nat) {x1 : Int32} {x4 : Int32} {x5 : Int32} {x6 : Int32} {x7 : Int32} {x8 : Int32} {x9 : Int32} {x10 : Int32} {x11 : Int32} {sg : ST}, f_X12_thenOf_85 k112 n x1 x4 x5 x6 x7 x8 x9 x10 x11 sg = some (v, s) → E G mX12_thenOf (0, 0) 85 [.ref 247, .int x1, D0, D0, .int x4, .int x5, .int x6, .int x7, .int x8, .int x9, .int x10, .int x11] [] (mem sg) (QI v s) := by
  intro n
  induction n with
  | zero => intro _ _ _ _ _ _ _ _ _ _ h; rw [f_X12_thenOf_85] at h; cases h
  | succ n ih =>
    intro x1 x4 x5 x6 x7 x8 x9 x10 x11 sg h
    rw [f_X12_thenOf_85] at h
    refine E_iload (pc := 85) rfl dX12_thenOf_85 ?_
    refine E_iload (pc := 87) rfl dX12_thenOf_87 ?_
    refine T_icmp_ge (pc := 89) 112 dX12_thenOf_89 (by decide) h (fun h => ?_) (fun h => ?_)
    · refine E_kp [true, true, false, false, true, true, true, true, true, false, true, false] (L2 := [_, _, D0, D0, _, _, _, _, _, D0, _, D0]) rfl rfl ?_
      exact hk112 h
    · refine E_aload_n (pc := 92) rfl dX12_thenOf_92 ?_
      refine R_getR (pc := 93) (b := 248) f12_7 dX12_thenOf_93 (ent_st MO247) (by decide) rfl rfl ?_
      refine E_iload (pc := 96) rfl dX12_thenOf_96 ?_
      refine T_iald (pc := 98) dX12_thenOf_98 (ent_st MA248) (by decide) h (fun v11 h => ?_)
      refine E_iconst (pc := 99) 1 rfl dX12_thenOf_99 ?_
      refine T_icmp_ne (pc := 100) 106 dX12_thenOf_100 (by decide) h (fun h => ?_) (fun h => ?_)
      · refine T_iinc (pc := 106) (m := 1) (L2 := [_, _, _, _, _, _, _, _, _, _, _, _]) rfl rfl rfl rfl dX12_thenOf_106 ?_
        refine E_goto (pc := 109) 85 (by decide) dX12_thenOf_109 ?_
        exact ih h
      · refine T_iinc (pc := 103) (m := 1) (L2 := [_, _, _, _, _, _, _, _, _, _, _, _]) rfl rfl rfl rfl dX12_thenOf_103 ?_
        refine T_iinc (pc := 106) (m := 1) (L2 := [_, _, _, _, _, _, _, _, _, _, _, _]) rfl rfl rfl rfl dX12_thenOf_106 ?_
        refine E_goto (pc := 109) 85 (by decide) dX12_thenOf_109 ?_
        exact ih h
noncomputable def f_X12_thenOf_146 (k39 : Int32 → Int32 → Int32 → Int32 → Int32 → ST → Option (Int32 × ST)) (x1 : Int32) (x4 : Int32) (x5 : Int32) (x6 : Int32) (x7 : Int32) (x8 : Int32) (sg : ST) : Option (Int32 × ST) :=
    if x8 = (nI 122) then
    (k39 x1 x4 (nI 0) x6 (x7 + nI 2) sg)
    else (k39 x1 x4 x5 x6 (x7 + nI 2) sg)
theorem e_X12_thenOf_146 {G : GP} {k39 : Int32 → Int32 → Int32 → Int32 → Int32 → ST → Option (Int32 × ST)} {x1 : Int32} {x4 : Int32} {x5 : Int32} {x6 : Int32} {x7 : Int32} {x8 : Int32} {sg : ST} {v : Int32} {s : ST} (hk39 : ∀ {x1 : Int32} {x4 : Int32} {x5 : Int32} {x6 : Int32} {x7 : Int32} {sg : ST}, k39 x1 x4 x5 x6 x7 sg = some (v, s) → E G mX12_thenOf (0, 0) 39 [.ref 247, .int x1, D0, D0, .int x4, .int x5, .int x6, .int x7, D0, D0, D0, D0] [] (mem sg) (QI v s)) (h : f_X12_thenOf_146 k39 x1 x4 x5 x6 x7 x8 sg = some (v, s)) : E G mX12_thenOf (0, 0) 146 [.ref 247, .int x1, D0, D0, .int x4, .int x5, .int x6, .int x7, .int x8, D0, D0, D0] [] (mem sg) (QI v s) := by
  unfold f_X12_thenOf_146 at h
  refine E_iload (pc := 146) rfl dX12_thenOf_146 ?_
  refine E_bipush (pc := 148) (nI 122) (by decide) dX12_thenOf_148 ?_
  refine T_icmp_ne (pc := 150) 156 dX12_thenOf_150 (by decide) h (fun h => ?_) (fun h => ?_)
  · refine T_iinc (pc := 156) (m := 2) (L2 := [_, _, _, _, _, _, _, _, _, _, _, _]) rfl rfl rfl rfl dX12_thenOf_156 ?_
    refine E_goto (pc := 159) 39 (by decide) dX12_thenOf_159 ?_
    refine E_kp [true, true, false, false, true, true, true, true, false, false, false, false] (L2 := [_, _, D0, D0, _, _, _, _, D0, D0, D0, D0]) rfl rfl ?_
    exact hk39 h
  · refine E_iconst (pc := 153) 0 rfl dX12_thenOf_153 ?_
    refine E_istore (pc := 154) (L2 := [_, _, _, _, _, _, _, _, _, _, _, _]) rfl rfl dX12_thenOf_154 ?_
    refine T_iinc (pc := 156) (m := 2) (L2 := [_, _, _, _, _, _, _, _, _, _, _, _]) rfl rfl rfl rfl dX12_thenOf_156 ?_
    refine E_goto (pc := 159) 39 (by decide) dX12_thenOf_159 ?_
    refine E_kp [true, true, false, false, true, true, true, true, false, false, false, false] (L2 := [_, _, D0, D0, _, _, _, _, D0, D0, D0, D0]) rfl rfl ?_
    exact hk39 h
noncomputable def f_X12_thenOf_128 (k39 : Int32 → Int32 → Int32 → Int32 → Int32 → ST → Option (Int32 × ST)) (x1 : Int32) (x4 : Int32) (x5 : Int32) (x6 : Int32) (x7 : Int32) (x8 : Int32) (x10 : Int32) (sg : ST) : Option (Int32 × ST) :=
    if x8 = (nI 101) then
    (f_X12_thenOf_146 k39 x1 (x4 &&& (((nI 1) <<< (x10 &&& 31)) ^^^ (-1))) x5 x6 x7 x8 sg)
    else (f_X12_thenOf_146 k39 x1 x4 x5 x6 x7 x8 sg)
theorem e_X12_thenOf_128 {G : GP} {k39 : Int32 → Int32 → Int32 → Int32 → Int32 → ST → Option (Int32 × ST)} {x1 : Int32} {x4 : Int32} {x5 : Int32} {x6 : Int32} {x7 : Int32} {x8 : Int32} {x10 : Int32} {sg : ST} {v : Int32} {s : ST} (hk39 : ∀ {x1 : Int32} {x4 : Int32} {x5 : Int32} {x6 : Int32} {x7 : Int32} {sg : ST}, k39 x1 x4 x5 x6 x7 sg = some (v, s) → E G mX12_thenOf (0, 0) 39 [.ref 247, .int x1, D0, D0, .int x4, .int x5, .int x6, .int x7, D0, D0, D0, D0] [] (mem sg) (QI v s)) (h : f_X12_thenOf_128 k39 x1 x4 x5 x6 x7 x8 x10 sg = some (v, s)) : E G mX12_thenOf (0, 0) 128 [.ref 247, .int x1, D0, D0, .int x4, .int x5, .int x6, .int x7, .int x8, D0, .int x10, D0] [] (mem sg) (QI v s) := by
  unfold f_X12_thenOf_128 at h
  refine E_iload (pc := 128) rfl dX12_thenOf_128 ?_
  refine E_bipush (pc := 130) (nI 101) (by decide) dX12_thenOf_130 ?_
  refine T_icmp_ne (pc := 132) 146 dX12_thenOf_132 (by decide) h (fun h => ?_) (fun h => ?_)
  · refine E_kp [true, true, false, false, true, true, true, true, true, false, false, false] (L2 := [_, _, D0, D0, _, _, _, _, _, D0, D0, D0]) rfl rfl ?_
    refine e_X12_thenOf_146 (fun h => hk39 h) h
  · refine E_iload (pc := 135) rfl dX12_thenOf_135 ?_
    refine E_iconst (pc := 137) 1 rfl dX12_thenOf_137 ?_
    refine E_iload (pc := 138) rfl dX12_thenOf_138 ?_
    refine E_ishl (pc := 140) dX12_thenOf_140 ?_
    refine E_im1 (pc := 141) dX12_thenOf_141 ?_
    refine E_ixor (pc := 142) dX12_thenOf_142 ?_
    refine E_iand (pc := 143) dX12_thenOf_143 ?_
    refine E_istore (pc := 144) (L2 := [_, _, _, _, _, _, _, _, _, _, _, _]) rfl rfl dX12_thenOf_144 ?_
    refine E_kp [true, true, false, false, true, true, true, true, true, false, false, false] (L2 := [_, _, D0, D0, _, _, _, _, _, D0, D0, D0]) rfl rfl ?_
    refine e_X12_thenOf_146 (fun h => hk39 h) h
noncomputable def f_X12_thenOf_39 : Nat → Int32 → Int32 → Int32 → Int32 → Int32 → ST → Option (Int32 × ST)
  | 0, _, _, _, _, _, _ => none
  | n + 1, x1, x4, x5, x6, x7, sg =>
    (rdI sg 251 6 x1).bind fun v8 =>
    if x7 < v8 then
    ((rdI sg 252 360 (x6 + x7)).bind fun v9 =>
    (rdI sg 252 360 ((x6 + x7) + (nI 1))).bind fun v10 =>
    f_X12_thenOf_85 (fun x1_12 x4_13 x5_14 x6_15 x7_16 x8_17 x10_18 s19 =>
    if x8_17 = (nI 98) then
    (f_X12_thenOf_128 (f_X12_thenOf_39 n) x1_12 (x4_13 ||| ((nI 1) <<< (x10_18 &&& 31))) x5_14 x6_15 x7_16 x8_17 x10_18 s19)
    else (f_X12_thenOf_128 (f_X12_thenOf_39 n) x1_12 x4_13 x5_14 x6_15 x7_16 x8_17 x10_18 s19)) FU x1 x4 x5 x6 x7 v9 (v10 - (nI 48)) (nI 0) (nI 0) sg)
    else (some ((x4 ||| (x5 <<< ((nI 5) &&& 31))), sg))
theorem e_X12_thenOf_39 {G : GP} {v : Int32} {s : ST}  : ∀ (n : Nat) {x1 : Int32} {x4 : Int32} {x5 : Int32} {x6 : Int32} {x7 : Int32} {sg : ST}, f_X12_thenOf_39 n x1 x4 x5 x6 x7 sg = some (v, s) → E G mX12_thenOf (0, 0) 39 [.ref 247, .int x1, D0, D0, .int x4, .int x5, .int x6, .int x7, D0, D0, D0, D0] [] (mem sg) (QI v s) := by
  intro n
  induction n with
  | zero => intro _ _ _ _ _ _ h; rw [f_X12_thenOf_39] at h; cases h
  | succ n ih =>
    intro x1 x4 x5 x6 x7 sg h
    rw [f_X12_thenOf_39] at h
    refine E_iload (pc := 39) rfl dX12_thenOf_39 ?_
    refine E_aload_n (pc := 41) rfl dX12_thenOf_41 ?_
    refine R_getR (pc := 42) (b := 251) f12_19 dX12_thenOf_42 (ent_st MO247) (by decide) rfl rfl ?_
    refine E_iload_n (pc := 45) rfl dX12_thenOf_45 ?_
    refine T_iald (pc := 46) dX12_thenOf_46 (ent_st MA251) (by decide) h (fun v8 h => ?_)
    refine T_icmp_ge (pc := 47) 162 dX12_thenOf_47 (by decide) h (fun h => ?_) (fun h => ?_)
    · refine E_iload (pc := 162) rfl dX12_thenOf_162 ?_
      refine E_iload (pc := 164) rfl dX12_thenOf_164 ?_
      refine E_iconst (pc := 166) 5 rfl dX12_thenOf_166 ?_
      refine E_ishl (pc := 167) dX12_thenOf_167 ?_
      refine E_ior (pc := 168) dX12_thenOf_168 ?_
      exact E_ireturn (pc := 169) rfl rfl dX12_thenOf_169 (QI_of h)
    · refine E_aload_n (pc := 50) rfl dX12_thenOf_50 ?_
      refine R_getR (pc := 51) (b := 252) f12_22 dX12_thenOf_51 (ent_st MO247) (by decide) rfl rfl ?_
      refine E_iload (pc := 54) rfl dX12_thenOf_54 ?_
      refine E_iload (pc := 56) rfl dX12_thenOf_56 ?_
      refine E_iadd (pc := 58) dX12_thenOf_58 ?_
      refine T_iald (pc := 59) dX12_thenOf_59 (ent_st MA252) (by decide) h (fun v9 h => ?_)
      refine E_istore (pc := 60) (L2 := [_, _, _, _, _, _, _, _, _, _, _, _]) rfl rfl dX12_thenOf_60 ?_
      refine E_aload_n (pc := 62) rfl dX12_thenOf_62 ?_
      refine R_getR (pc := 63) (b := 252) f12_22 dX12_thenOf_63 (ent_st MO247) (by decide) rfl rfl ?_
      refine E_iload (pc := 66) rfl dX12_thenOf_66 ?_
      refine E_iload (pc := 68) rfl dX12_thenOf_68 ?_
      refine E_iadd (pc := 70) dX12_thenOf_70 ?_
      refine E_iconst (pc := 71) 1 rfl dX12_thenOf_71 ?_
      refine E_iadd (pc := 72) dX12_thenOf_72 ?_
      refine T_iald (pc := 73) dX12_thenOf_73 (ent_st MA252) (by decide) h (fun v10 h => ?_)
      refine E_bipush (pc := 74) (nI 48) (by decide) dX12_thenOf_74 ?_
      refine E_isub (pc := 76) dX12_thenOf_76 ?_
      refine E_istore (pc := 77) (L2 := [_, _, _, _, _, _, _, _, _, _, _, _]) rfl rfl dX12_thenOf_77 ?_
      refine E_iconst (pc := 79) 0 rfl dX12_thenOf_79 ?_
      refine E_istore (pc := 80) (L2 := [_, _, _, _, _, _, _, _, _, _, _, _]) rfl rfl dX12_thenOf_80 ?_
      refine E_iconst (pc := 82) 0 rfl dX12_thenOf_82 ?_
      refine E_istore (pc := 83) (L2 := [_, _, _, _, _, _, _, _, _, _, _, _]) rfl rfl dX12_thenOf_83 ?_
      refine e_X12_thenOf_85 ?_ FU h
      · intro x1_12 x4_13 x5_14 x6_15 x7_16 x8_17 x10_18 s19 h
        refine E_iload (pc := 112) rfl dX12_thenOf_112 ?_
        refine E_bipush (pc := 114) (nI 98) (by decide) dX12_thenOf_114 ?_
        refine T_icmp_ne (pc := 116) 128 dX12_thenOf_116 (by decide) h (fun h => ?_) (fun h => ?_)
        · refine e_X12_thenOf_128 (fun h => ih h) h
        · refine E_iload (pc := 119) rfl dX12_thenOf_119 ?_
          refine E_iconst (pc := 121) 1 rfl dX12_thenOf_121 ?_
          refine E_iload (pc := 122) rfl dX12_thenOf_122 ?_
          refine E_ishl (pc := 124) dX12_thenOf_124 ?_
          refine E_ior (pc := 125) dX12_thenOf_125 ?_
          refine E_istore (pc := 126) (L2 := [_, _, _, _, _, _, _, _, _, _, _, _]) rfl rfl dX12_thenOf_126 ?_
          refine e_X12_thenOf_128 (fun h => ih h) h
noncomputable def f_X12_thenOf (x1 : Int32) (x2 : Int32) (x3 : Int32) (σ : ST) : Option (Int32 × ST) :=
    f_X12_thenOf_15 (fun x1_2 x4_3 x5_4 x6_5 x7_6 s7 =>
    f_X12_thenOf_39 FU x1_2 x4_3 x5_4 x6_5 (x7_6 + nI 1) s7) FU x1 x2 x3 ((nI 60) * x1) (nI 0) σ
theorem e_X12_thenOf {G : GP} {x1 : Int32} {x2 : Int32} {x3 : Int32} {σ : ST} {v : Int32} {s : ST}  (h : f_X12_thenOf x1 x2 x3 σ = some (v, s)) : E G mX12_thenOf (0, 0) 0 [.ref 247, .int x1, .int x2, .int x3, D0, D0, D0, D0, D0, D0, D0, D0] [] (mem σ) (QI v s) := by
  unfold f_X12_thenOf at h
  refine E_iload_n (pc := 0) rfl dX12_thenOf_0 ?_
  refine E_istore (pc := 1) (L2 := [_, _, _, _, _, _, _, _, _, _, _, _]) rfl rfl dX12_thenOf_1 ?_
  refine E_iload_n (pc := 3) rfl dX12_thenOf_3 ?_
  refine E_istore (pc := 4) (L2 := [_, _, _, _, _, _, _, _, _, _, _, _]) rfl rfl dX12_thenOf_4 ?_
  refine E_bipush (pc := 6) (nI 60) (by decide) dX12_thenOf_6 ?_
  refine E_iload_n (pc := 8) rfl dX12_thenOf_8 ?_
  refine E_imul (pc := 9) dX12_thenOf_9 ?_
  refine E_istore (pc := 10) (L2 := [_, _, _, _, _, _, _, _, _, _, _, _]) rfl rfl dX12_thenOf_10 ?_
  refine E_iconst (pc := 12) 0 rfl dX12_thenOf_12 ?_
  refine E_istore (pc := 13) (L2 := [_, _, _, _, _, _, _, _, _, _, _, _]) rfl rfl dX12_thenOf_13 ?_
  refine E_kp [true, true, false, false, true, true, true, true, false, false, false, false] (L2 := [_, _, D0, D0, _, _, _, _, D0, D0, D0, D0]) rfl rfl ?_
  refine e_X12_thenOf_15 ?_ FU h
  · intro x1_2 x4_3 x5_4 x6_5 x7_6 s7 h
    refine T_iinc (pc := 36) (m := 1) (L2 := [_, _, _, _, _, _, _, _, _, _, _, _]) rfl rfl rfl rfl dX12_thenOf_36 ?_
    refine e_X12_thenOf_39  FU h
noncomputable def f_X12_makeMoments_25 (k54 : ST → Option ST) : Nat → Int32 → ST → Option ST
  | 0, _, _ => none
  | n + 1, x1, sg =>
    if x1 < (sg.1 247 0) then
    ((rdI sg 248 10 x1).bind fun v8 =>
    if v8 = (nI 3) then
    ((pfI sg 247 27 x1).bind fun s9 =>
    (f_X12_makeMoments_25 k54 n) (x1 + nI 1) s9)
    else ((f_X12_makeMoments_25 k54 n) (x1 + nI 1) sg))
    else (k54 sg)
theorem e_X12_makeMoments_25 {G : GP} {k54 : ST → Option ST} {s : ST} (hk54 : ∀ {sg : ST}, k54 sg = some s → E G mX12_makeMoments (1, 31) 54 [.ref 247, D0, D0, D0, D0, D0, D0, D0, D0, D0, D0] [] (mem sg) (QV s)) : ∀ (n : Nat) {x1 : Int32} {sg : ST}, f_X12_makeMoments_25 k54 n x1 sg = some s → E G mX12_makeMoments (1, 31) 25 [.ref 247, .int x1, D0, D0, D0, D0, D0, D0, D0, D0, D0] [] (mem sg) (QV s) := by
  intro n
  induction n with
  | zero => intro _ _ h; rw [f_X12_makeMoments_25] at h; cases h
  | succ n ih =>
    intro x1 sg h
    rw [f_X12_makeMoments_25] at h
    refine E_iload_n (pc := 25) rfl dX12_makeMoments_25 ?_
    refine E_aload_n (pc := 26) rfl dX12_makeMoments_26 ?_
    refine R_getI (pc := 27) f12_159 dX12_makeMoments_27 (ent_st MO247) (by decide) rfl ?_
    refine T_icmp_ge (pc := 30) 54 dX12_makeMoments_30 (by decide) h (fun h => ?_) (fun h => ?_)
    · refine E_kp [true, false, false, false, false, false, false, false, false, false, false] (L2 := [_, D0, D0, D0, D0, D0, D0, D0, D0, D0, D0]) rfl rfl ?_
      exact hk54 h
    · refine E_aload_n (pc := 33) rfl dX12_makeMoments_33 ?_
      refine R_getR (pc := 34) (b := 248) f12_7 dX12_makeMoments_34 (ent_st MO247) (by decide) rfl rfl ?_
      refine E_iload_n (pc := 37) rfl dX12_makeMoments_37 ?_
      refine T_iald (pc := 38) dX12_makeMoments_38 (ent_st MA248) (by decide) h (fun v8 h => ?_)
      refine E_iconst (pc := 39) 3 rfl dX12_makeMoments_39 ?_
      refine T_icmp_ne (pc := 40) 48 dX12_makeMoments_40 (by decide) h (fun h => ?_) (fun h => ?_)
      · refine T_iinc (pc := 48) (m := 1) (L2 := [_, _, _, _, _, _, _, _, _, _, _]) rfl rfl rfl rfl dX12_makeMoments_48 ?_
        refine E_goto (pc := 51) 25 (by decide) dX12_makeMoments_51 ?_
        exact ih h
      · refine E_aload_n (pc := 43) rfl dX12_makeMoments_43 ?_
        refine E_iload_n (pc := 44) rfl dX12_makeMoments_44 ?_
        refine T_putI (pc := 45) f12_246 dX12_makeMoments_45 (ent_st MO247) (by decide) rfl (by decide +kernel) h (fun s9 h => ?_)
        refine T_iinc (pc := 48) (m := 1) (L2 := [_, _, _, _, _, _, _, _, _, _, _]) rfl rfl rfl rfl dX12_makeMoments_48 ?_
        refine E_goto (pc := 51) 25 (by decide) dX12_makeMoments_51 ?_
        exact ih h
noncomputable def f_X12_makeMoments_259 (k133 : Int32 → Int32 → Int32 → Int32 → Int32 → Int32 → Int32 → Int32 → ST → Option ST) (x1 : Int32) (x2 : Int32) (x3 : Int32) (x4 : Int32) (x5 : Int32) (x6 : Int32) (x7 : Int32) (x8 : Int32) (sg : ST) : Option ST :=
    (rdI sg 266 10 x8).bind fun v19 =>
    if 0 < v19 then
    (k133 x1 x2 x3 x4 (x5 ||| ((nI 1) <<< (x8 &&& 31))) x6 x7 (x8 + nI 1) sg)
    else (k133 x1 x2 x3 x4 x5 x6 x7 (x8 + nI 1) sg)
theorem e_X12_makeMoments_259 {G : GP} {k133 : Int32 → Int32 → Int32 → Int32 → Int32 → Int32 → Int32 → Int32 → ST → Option ST} {x1 : Int32} {x2 : Int32} {x3 : Int32} {x4 : Int32} {x5 : Int32} {x6 : Int32} {x7 : Int32} {x8 : Int32} {sg : ST} {s : ST} (hk133 : ∀ {x1 : Int32} {x2 : Int32} {x3 : Int32} {x4 : Int32} {x5 : Int32} {x6 : Int32} {x7 : Int32} {x8 : Int32} {sg : ST}, k133 x1 x2 x3 x4 x5 x6 x7 x8 sg = some s → E G mX12_makeMoments (1, 31) 133 [.ref 247, .int x1, .int x2, .int x3, .int x4, .int x5, .int x6, .int x7, .int x8, D0, D0] [] (mem sg) (QV s)) (h : f_X12_makeMoments_259 k133 x1 x2 x3 x4 x5 x6 x7 x8 sg = some s) : E G mX12_makeMoments (1, 31) 259 [.ref 247, .int x1, .int x2, .int x3, .int x4, .int x5, .int x6, .int x7, .int x8, D0, D0] [] (mem sg) (QV s) := by
  unfold f_X12_makeMoments_259 at h
  refine E_aload_n (pc := 259) rfl dX12_makeMoments_259 ?_
  refine R_getR (pc := 260) (b := 266) f12_69 dX12_makeMoments_260 (ent_st MO247) (by decide) rfl rfl ?_
  refine E_iload (pc := 263) rfl dX12_makeMoments_263 ?_
  refine T_iald (pc := 265) dX12_makeMoments_265 (ent_st MA266) (by decide) h (fun v19 h => ?_)
  refine T_if_le (pc := 266) 278 dX12_makeMoments_266 (by decide) h (fun h => ?_) (fun h => ?_)
  · refine T_iinc (pc := 278) (m := 1) (L2 := [_, _, _, _, _, _, _, _, _, _, _]) rfl rfl rfl rfl dX12_makeMoments_278 ?_
    refine E_goto (pc := 281) 133 (by decide) dX12_makeMoments_281 ?_
    exact hk133 h
  · refine E_iload (pc := 269) rfl dX12_makeMoments_269 ?_
    refine E_iconst (pc := 271) 1 rfl dX12_makeMoments_271 ?_
    refine E_iload (pc := 272) rfl dX12_makeMoments_272 ?_
    refine E_ishl (pc := 274) dX12_makeMoments_274 ?_
    refine E_ior (pc := 275) dX12_makeMoments_275 ?_
    refine E_istore (pc := 276) (L2 := [_, _, _, _, _, _, _, _, _, _, _]) rfl rfl dX12_makeMoments_276 ?_
    refine T_iinc (pc := 278) (m := 1) (L2 := [_, _, _, _, _, _, _, _, _, _, _]) rfl rfl rfl rfl dX12_makeMoments_278 ?_
    refine E_goto (pc := 281) 133 (by decide) dX12_makeMoments_281 ?_
    exact hk133 h
noncomputable def f_X12_makeMoments_258 (k133 : Int32 → Int32 → Int32 → Int32 → Int32 → Int32 → Int32 → Int32 → ST → Option ST) (x1 : Int32) (x2 : Int32) (x3 : Int32) (x4 : Int32) (x5 : Int32) (x6 : Int32) (x7 : Int32) (x8 : Int32) (z1 : Int32) (z2 : Int32) (sg : ST) : Option ST :=
    (wrI sg 266 10 z1 z2).bind fun s18 =>
    f_X12_makeMoments_259 k133 x1 x2 x3 x4 x5 x6 x7 x8 s18
theorem e_X12_makeMoments_258 {G : GP} {k133 : Int32 → Int32 → Int32 → Int32 → Int32 → Int32 → Int32 → Int32 → ST → Option ST} {x1 : Int32} {x2 : Int32} {x3 : Int32} {x4 : Int32} {x5 : Int32} {x6 : Int32} {x7 : Int32} {x8 : Int32} {z1 : Int32} {z2 : Int32} {sg : ST} {s : ST} (hk133 : ∀ {x1 : Int32} {x2 : Int32} {x3 : Int32} {x4 : Int32} {x5 : Int32} {x6 : Int32} {x7 : Int32} {x8 : Int32} {sg : ST}, k133 x1 x2 x3 x4 x5 x6 x7 x8 sg = some s → E G mX12_makeMoments (1, 31) 133 [.ref 247, .int x1, .int x2, .int x3, .int x4, .int x5, .int x6, .int x7, .int x8, D0, D0] [] (mem sg) (QV s)) (h : f_X12_makeMoments_258 k133 x1 x2 x3 x4 x5 x6 x7 x8 z1 z2 sg = some s) : E G mX12_makeMoments (1, 31) 258 [.ref 247, .int x1, .int x2, .int x3, .int x4, .int x5, .int x6, .int x7, .int x8, D0, D0] [.int z2, .int z1, .ref 266] (mem sg) (QV s) := by
  unfold f_X12_makeMoments_258 at h
  refine T_iast (pc := 258) dX12_makeMoments_258 (ent_st MA266) (by decide) h (fun s18 h => ?_)
  refine e_X12_makeMoments_259 (fun h => hk133 h) h
noncomputable def f_X12_makeMoments_133 (k284 : Int32 → Int32 → Int32 → Int32 → ST → Option ST) : Nat → Int32 → Int32 → Int32 → Int32 → Int32 → Int32 → Int32 → Int32 → ST → Option ST
  | 0, _, _, _, _, _, _, _, _, _ => none
  | n + 1, x1, x2, x3, x4, x5, x6, x7, x8, sg =>
    if x8 < (sg.1 247 0) then
    ((rdI sg 248 10 x8).bind fun v12 =>
    if v12 = (nI 1) then
    ((wrI sg 266 10 x8 ((x2 >>> (x6 &&& 31)) &&& (nI 1))).bind fun s22 =>
    f_X12_makeMoments_259 (f_X12_makeMoments_133 k284 n) x1 x2 x3 x4 x5 (x6 + nI 1) x7 x8 s22)
    else ((rdI sg 248 10 x8).bind fun v13 =>
    if v13 = 0 then
    ((wrI sg 266 10 x8 ((x4 >>> (x7 &&& 31)) &&& (nI 1))).bind fun s21 =>
    f_X12_makeMoments_259 (f_X12_makeMoments_133 k284 n) x1 x2 x3 x4 x5 x6 (x7 + nI 1) x8 s21)
    else ((rdI sg 248 10 x8).bind fun v14 =>
    if v14 = (nI 3) then
    ((wrI sg 266 10 x8 x3).bind fun s20 =>
    f_X12_makeMoments_259 (f_X12_makeMoments_133 k284 n) x1 x2 x3 x4 x5 x6 x7 x8 s20)
    else ((rdI sg 249 10 x8).bind fun v15 =>
    bd2 (f_X12_holds_ 250 600 ((nI 60) * x8) v15 sg) fun v17 s16 =>
    if v17 = 0 then
    (f_X12_makeMoments_258 (f_X12_makeMoments_133 k284 n) x1 x2 x3 x4 x5 x6 x7 x8 x8 (nI 0) s16)
    else (f_X12_makeMoments_258 (f_X12_makeMoments_133 k284 n) x1 x2 x3 x4 x5 x6 x7 x8 x8 (nI 1) s16)))))
    else (k284 x1 x2 x3 x5 sg)
theorem e_X12_makeMoments_133 {G : GP} {k284 : Int32 → Int32 → Int32 → Int32 → ST → Option ST} {s : ST} (hk284 : ∀ {x1 : Int32} {x2 : Int32} {x3 : Int32} {x5 : Int32} {sg : ST}, k284 x1 x2 x3 x5 sg = some s → E G mX12_makeMoments (1, 31) 284 [.ref 247, .int x1, .int x2, .int x3, D0, .int x5, D0, D0, D0, D0, D0] [] (mem sg) (QV s)) : ∀ (n : Nat) {x1 : Int32} {x2 : Int32} {x3 : Int32} {x4 : Int32} {x5 : Int32} {x6 : Int32} {x7 : Int32} {x8 : Int32} {sg : ST}, f_X12_makeMoments_133 k284 n x1 x2 x3 x4 x5 x6 x7 x8 sg = some s → E G mX12_makeMoments (1, 31) 133 [.ref 247, .int x1, .int x2, .int x3, .int x4, .int x5, .int x6, .int x7, .int x8, D0, D0] [] (mem sg) (QV s) := by
  intro n
  induction n with
  | zero => intro _ _ _ _ _ _ _ _ _ h; rw [f_X12_makeMoments_133] at h; cases h
  | succ n ih =>
    intro x1 x2 x3 x4 x5 x6 x7 x8 sg h
    rw [f_X12_makeMoments_133] at h
    refine E_iload (pc := 133) rfl dX12_makeMoments_133 ?_
    refine E_aload_n (pc := 135) rfl dX12_makeMoments_135 ?_
    refine R_getI (pc := 136) f12_159 dX12_makeMoments_136 (ent_st MO247) (by decide) rfl ?_
    refine T_icmp_ge (pc := 139) 284 dX12_makeMoments_139 (by decide) h (fun h => ?_) (fun h => ?_)
    · refine E_kp [true, true, true, true, false, true, false, false, false, false, false] (L2 := [_, _, _, _, D0, _, D0, D0, D0, D0, D0]) rfl rfl ?_
      exact hk284 h
    · refine E_aload_n (pc := 142) rfl dX12_makeMoments_142 ?_
      refine R_getR (pc := 143) (b := 248) f12_7 dX12_makeMoments_143 (ent_st MO247) (by decide) rfl rfl ?_
      refine E_iload (pc := 146) rfl dX12_makeMoments_146 ?_
      refine T_iald (pc := 148) dX12_makeMoments_148 (ent_st MA248) (by decide) h (fun v12 h => ?_)
      refine E_iconst (pc := 149) 1 rfl dX12_makeMoments_149 ?_
      refine T_icmp_ne (pc := 150) 172 dX12_makeMoments_150 (by decide) h (fun h => ?_) (fun h => ?_)
      · refine E_aload_n (pc := 172) rfl dX12_makeMoments_172 ?_
        refine R_getR (pc := 173) (b := 248) f12_7 dX12_makeMoments_173 (ent_st MO247) (by decide) rfl rfl ?_
        refine E_iload (pc := 176) rfl dX12_makeMoments_176 ?_
        refine T_iald (pc := 178) dX12_makeMoments_178 (ent_st MA248) (by decide) h (fun v13 h => ?_)
        refine T_if_ne (pc := 179) 202 dX12_makeMoments_179 (by decide) h (fun h => ?_) (fun h => ?_)
        · refine E_aload_n (pc := 202) rfl dX12_makeMoments_202 ?_
          refine R_getR (pc := 203) (b := 248) f12_7 dX12_makeMoments_203 (ent_st MO247) (by decide) rfl rfl ?_
          refine E_iload (pc := 206) rfl dX12_makeMoments_206 ?_
          refine T_iald (pc := 208) dX12_makeMoments_208 (ent_st MA248) (by decide) h (fun v14 h => ?_)
          refine E_iconst (pc := 209) 3 rfl dX12_makeMoments_209 ?_
          refine T_icmp_ne (pc := 210) 224 dX12_makeMoments_210 (by decide) h (fun h => ?_) (fun h => ?_)
          · refine E_aload_n (pc := 224) rfl dX12_makeMoments_224 ?_
            refine R_getR (pc := 225) (b := 266) f12_69 dX12_makeMoments_225 (ent_st MO247) (by decide) rfl rfl ?_
            refine E_iload (pc := 228) rfl dX12_makeMoments_228 ?_
            refine E_aload_n (pc := 230) rfl dX12_makeMoments_230 ?_
            refine E_aload_n (pc := 231) rfl dX12_makeMoments_231 ?_
            refine R_getR (pc := 232) (b := 250) f12_16 dX12_makeMoments_232 (ent_st MO247) (by decide) rfl rfl ?_
            refine E_bipush (pc := 235) (nI 60) (by decide) dX12_makeMoments_235 ?_
            refine E_iload (pc := 237) rfl dX12_makeMoments_237 ?_
            refine E_imul (pc := 239) dX12_makeMoments_239 ?_
            refine E_aload_n (pc := 240) rfl dX12_makeMoments_240 ?_
            refine R_getR (pc := 241) (b := 249) f12_13 dX12_makeMoments_241 (ent_st MO247) (by decide) rfl rfl ?_
            refine E_iload (pc := 244) rfl dX12_makeMoments_244 ?_
            refine T_iald (pc := 246) dX12_makeMoments_246 (ent_st MA249) (by decide) h (fun v15 h => ?_)
            obtain ⟨v17, s16, hp, h⟩ := bd2_some h
            refine E_callV (pc := 247) (As := [_, _, _]) (fc := (0, 0)) s12_249_12 oX12_holds_ dX12_makeMoments_247 (mem_ob (ent_st MO247)) rfl rfl (Nat.le_of_ble_eq_true rfl) rfl rfl (by decide) (e_X12_holds_ ⟨MA250, (by decide)⟩ hp) (fun rv_ M_ hq_ => ?_)
            obtain ⟨rfl, rfl⟩ := hq_
            refine T_if_eq (pc := 250) 257 dX12_makeMoments_250 (by decide) h (fun h => ?_) (fun h => ?_)
            · refine E_iconst (pc := 257) 0 rfl dX12_makeMoments_257 ?_
              refine e_X12_makeMoments_258 (fun h => ih h) h
            · refine E_iconst (pc := 253) 1 rfl dX12_makeMoments_253 ?_
              refine E_goto (pc := 254) 258 (by decide) dX12_makeMoments_254 ?_
              refine e_X12_makeMoments_258 (fun h => ih h) h
          · refine E_aload_n (pc := 213) rfl dX12_makeMoments_213 ?_
            refine R_getR (pc := 214) (b := 266) f12_69 dX12_makeMoments_214 (ent_st MO247) (by decide) rfl rfl ?_
            refine E_iload (pc := 217) rfl dX12_makeMoments_217 ?_
            refine E_iload_n (pc := 219) rfl dX12_makeMoments_219 ?_
            refine T_iast (pc := 220) dX12_makeMoments_220 (ent_st MA266) (by decide) h (fun s20 h => ?_)
            refine E_goto (pc := 221) 259 (by decide) dX12_makeMoments_221 ?_
            refine e_X12_makeMoments_259 (fun h => ih h) h
        · refine E_aload_n (pc := 182) rfl dX12_makeMoments_182 ?_
          refine R_getR (pc := 183) (b := 266) f12_69 dX12_makeMoments_183 (ent_st MO247) (by decide) rfl rfl ?_
          refine E_iload (pc := 186) rfl dX12_makeMoments_186 ?_
          refine E_iload (pc := 188) rfl dX12_makeMoments_188 ?_
          refine E_iload (pc := 190) rfl dX12_makeMoments_190 ?_
          refine E_ishr (pc := 192) dX12_makeMoments_192 ?_
          refine E_iconst (pc := 193) 1 rfl dX12_makeMoments_193 ?_
          refine E_iand (pc := 194) dX12_makeMoments_194 ?_
          refine T_iast (pc := 195) dX12_makeMoments_195 (ent_st MA266) (by decide) h (fun s21 h => ?_)
          refine T_iinc (pc := 196) (m := 1) (L2 := [_, _, _, _, _, _, _, _, _, _, _]) rfl rfl rfl rfl dX12_makeMoments_196 ?_
          refine E_goto (pc := 199) 259 (by decide) dX12_makeMoments_199 ?_
          refine e_X12_makeMoments_259 (fun h => ih h) h
      · refine E_aload_n (pc := 153) rfl dX12_makeMoments_153 ?_
        refine R_getR (pc := 154) (b := 266) f12_69 dX12_makeMoments_154 (ent_st MO247) (by decide) rfl rfl ?_
        refine E_iload (pc := 157) rfl dX12_makeMoments_157 ?_
        refine E_iload_n (pc := 159) rfl dX12_makeMoments_159 ?_
        refine E_iload (pc := 160) rfl dX12_makeMoments_160 ?_
        refine E_ishr (pc := 162) dX12_makeMoments_162 ?_
        refine E_iconst (pc := 163) 1 rfl dX12_makeMoments_163 ?_
        refine E_iand (pc := 164) dX12_makeMoments_164 ?_
        refine T_iast (pc := 165) dX12_makeMoments_165 (ent_st MA266) (by decide) h (fun s22 h => ?_)
        refine T_iinc (pc := 166) (m := 1) (L2 := [_, _, _, _, _, _, _, _, _, _, _]) rfl rfl rfl rfl dX12_makeMoments_166 ?_
        refine E_goto (pc := 169) 259 (by decide) dX12_makeMoments_169 ?_
        refine e_X12_makeMoments_259 (fun h => ih h) h
noncomputable def f_X12_makeMoments_438 (k366 : Int32 → Int32 → Int32 → Int32 → ST → Option ST) (x1 : Int32) (x2 : Int32) (x8 : Int32) (x9 : Int32) (x10 : Int32) (sg : ST) : Option ST :=
    if x10 = 0 then
    ((rdI sg 269 7168 (((nI 7) * x1) + (nI 6))).bind fun v32 =>
    (wrI sg 269 7168 (((nI 7) * x1) + x9) v32).bind fun s33 =>
    k366 x1 x2 x8 (x9 + nI 1) s33)
    else (bd2 (f_X12_thenOf x9 x2 x8 sg) fun v35 s34 =>
    (wrI s34 269 7168 (((nI 7) * x1) + x9) v35).bind fun s36 =>
    k366 x1 x2 x8 (x9 + nI 1) s36)
theorem e_X12_makeMoments_438 {G : GP} {k366 : Int32 → Int32 → Int32 → Int32 → ST → Option ST} {x1 : Int32} {x2 : Int32} {x8 : Int32} {x9 : Int32} {x10 : Int32} {sg : ST} {s : ST} (hk366 : ∀ {x1 : Int32} {x2 : Int32} {x8 : Int32} {x9 : Int32} {sg : ST}, k366 x1 x2 x8 x9 sg = some s → E G mX12_makeMoments (1, 31) 366 [.ref 247, .int x1, .int x2, D0, D0, D0, D0, D0, .int x8, .int x9, D0] [] (mem sg) (QV s)) (h : f_X12_makeMoments_438 k366 x1 x2 x8 x9 x10 sg = some s) : E G mX12_makeMoments (1, 31) 438 [.ref 247, .int x1, .int x2, D0, D0, D0, D0, D0, .int x8, .int x9, .int x10] [] (mem sg) (QV s) := by
  unfold f_X12_makeMoments_438 at h
  refine E_aload_n (pc := 438) rfl dX12_makeMoments_438 ?_
  refine R_getR (pc := 439) (b := 269) f12_78 dX12_makeMoments_439 (ent_st MO247) (by decide) rfl rfl ?_
  refine E_bipush (pc := 442) (nI 7) (by decide) dX12_makeMoments_442 ?_
  refine E_iload_n (pc := 444) rfl dX12_makeMoments_444 ?_
  refine E_imul (pc := 445) dX12_makeMoments_445 ?_
  refine E_iload (pc := 446) rfl dX12_makeMoments_446 ?_
  refine E_iadd (pc := 448) dX12_makeMoments_448 ?_
  refine E_iload (pc := 449) rfl dX12_makeMoments_449 ?_
  refine T_if_eq (pc := 451) 466 dX12_makeMoments_451 (by decide) h (fun h => ?_) (fun h => ?_)
  · refine E_aload_n (pc := 466) rfl dX12_makeMoments_466 ?_
    refine R_getR (pc := 467) (b := 269) f12_78 dX12_makeMoments_467 (ent_st MO247) (by decide) rfl rfl ?_
    refine E_bipush (pc := 470) (nI 7) (by decide) dX12_makeMoments_470 ?_
    refine E_iload_n (pc := 472) rfl dX12_makeMoments_472 ?_
    refine E_imul (pc := 473) dX12_makeMoments_473 ?_
    refine E_bipush (pc := 474) (nI 6) (by decide) dX12_makeMoments_474 ?_
    refine E_iadd (pc := 476) dX12_makeMoments_476 ?_
    refine T_iald (pc := 477) dX12_makeMoments_477 (ent_st MA269) (by decide) h (fun v32 h => ?_)
    refine T_iast (pc := 478) dX12_makeMoments_478 (ent_st MA269) (by decide) h (fun s33 h => ?_)
    refine T_iinc (pc := 479) (m := 1) (L2 := [_, _, _, _, _, _, _, _, _, _, _]) rfl rfl rfl rfl dX12_makeMoments_479 ?_
    refine E_goto (pc := 482) 366 (by decide) dX12_makeMoments_482 ?_
    refine E_kp [true, true, true, false, false, false, false, false, true, true, false] (L2 := [_, _, _, D0, D0, D0, D0, D0, _, _, D0]) rfl rfl ?_
    exact hk366 h
  · refine E_aload_n (pc := 454) rfl dX12_makeMoments_454 ?_
    refine E_iload (pc := 455) rfl dX12_makeMoments_455 ?_
    refine E_iload_n (pc := 457) rfl dX12_makeMoments_457 ?_
    refine E_iload (pc := 458) rfl dX12_makeMoments_458 ?_
    obtain ⟨v35, s34, hp, h⟩ := bd2_some h
    refine E_callV (pc := 460) (As := [_, _, _]) (fc := (0, 0)) s12_253_12 oX12_thenOf dX12_makeMoments_460 (mem_ob (ent_st MO247)) rfl rfl (Nat.le_of_ble_eq_true rfl) rfl rfl (by decide) (e_X12_thenOf hp) (fun rv_ M_ hq_ => ?_)
    obtain ⟨rfl, rfl⟩ := hq_
    refine E_goto (pc := 463) 478 (by decide) dX12_makeMoments_463 ?_
    refine T_iast (pc := 478) dX12_makeMoments_478 (ent_st MA269) (by decide) h (fun s36 h => ?_)
    refine T_iinc (pc := 479) (m := 1) (L2 := [_, _, _, _, _, _, _, _, _, _, _]) rfl rfl rfl rfl dX12_makeMoments_479 ?_
    refine E_goto (pc := 482) 366 (by decide) dX12_makeMoments_482 ?_
    refine E_kp [true, true, true, false, false, false, false, false, true, true, false] (L2 := [_, _, _, D0, D0, D0, D0, D0, _, _, D0]) rfl rfl ?_
    exact hk366 h
noncomputable def f_X12_makeMoments_418 (k366 : Int32 → Int32 → Int32 → Int32 → ST → Option ST) (x1 : Int32) (x2 : Int32) (x8 : Int32) (x9 : Int32) (z0 : Int32) (sg : ST) : Option ST :=
    if z0 = 0 then
    (f_X12_makeMoments_438 k366 x1 x2 x8 x9 z0 sg)
    else ((rdI sg 268 1024 x1).bind fun v37 =>
    (wrI sg 268 1024 x1 (v37 ||| ((nI 1) <<< (x9 &&& 31)))).bind fun s38 =>
    f_X12_makeMoments_438 k366 x1 x2 x8 x9 z0 s38)
theorem e_X12_makeMoments_418 {G : GP} {k366 : Int32 → Int32 → Int32 → Int32 → ST → Option ST} {x1 : Int32} {x2 : Int32} {x8 : Int32} {x9 : Int32} {z0 : Int32} {sg : ST} {s : ST} (hk366 : ∀ {x1 : Int32} {x2 : Int32} {x8 : Int32} {x9 : Int32} {sg : ST}, k366 x1 x2 x8 x9 sg = some s → E G mX12_makeMoments (1, 31) 366 [.ref 247, .int x1, .int x2, D0, D0, D0, D0, D0, .int x8, .int x9, D0] [] (mem sg) (QV s)) (h : f_X12_makeMoments_418 k366 x1 x2 x8 x9 z0 sg = some s) : E G mX12_makeMoments (1, 31) 418 [.ref 247, .int x1, .int x2, D0, D0, D0, D0, D0, .int x8, .int x9, D0] [.int z0] (mem sg) (QV s) := by
  unfold f_X12_makeMoments_418 at h
  refine E_istore (pc := 418) (L2 := [_, _, _, _, _, _, _, _, _, _, _]) rfl rfl dX12_makeMoments_418 ?_
  refine E_iload (pc := 420) rfl dX12_makeMoments_420 ?_
  refine T_if_eq (pc := 422) 438 dX12_makeMoments_422 (by decide) h (fun h => ?_) (fun h => ?_)
  · refine e_X12_makeMoments_438 (fun h => hk366 h) h
  · refine E_aload_n (pc := 425) rfl dX12_makeMoments_425 ?_
    refine R_getR (pc := 426) (b := 268) f12_75 dX12_makeMoments_426 (ent_st MO247) (by decide) rfl rfl ?_
    refine E_iload_n (pc := 429) rfl dX12_makeMoments_429 ?_
    refine E_dup2 (pc := 430) rfl rfl dX12_makeMoments_430 ?_
    refine T_iald (pc := 431) dX12_makeMoments_431 (ent_st MA268) (by decide) h (fun v37 h => ?_)
    refine E_iconst (pc := 432) 1 rfl dX12_makeMoments_432 ?_
    refine E_iload (pc := 433) rfl dX12_makeMoments_433 ?_
    refine E_ishl (pc := 435) dX12_makeMoments_435 ?_
    refine E_ior (pc := 436) dX12_makeMoments_436 ?_
    refine T_iast (pc := 437) dX12_makeMoments_437 (ent_st MA268) (by decide) h (fun s38 h => ?_)
    refine e_X12_makeMoments_438 (fun h => hk366 h) h
noncomputable def f_X12_makeMoments_413 (k366 : Int32 → Int32 → Int32 → Int32 → ST → Option ST) (x1 : Int32) (x2 : Int32) (x8 : Int32) (x9 : Int32) (sg : ST) : Option ST :=
    f_X12_makeMoments_418 k366 x1 x2 x8 x9 (nI 1) sg
theorem e_X12_makeMoments_413 {G : GP} {k366 : Int32 → Int32 → Int32 → Int32 → ST → Option ST} {x1 : Int32} {x2 : Int32} {x8 : Int32} {x9 : Int32} {sg : ST} {s : ST} (hk366 : ∀ {x1 : Int32} {x2 : Int32} {x8 : Int32} {x9 : Int32} {sg : ST}, k366 x1 x2 x8 x9 sg = some s → E G mX12_makeMoments (1, 31) 366 [.ref 247, .int x1, .int x2, D0, D0, D0, D0, D0, .int x8, .int x9, D0] [] (mem sg) (QV s)) (h : f_X12_makeMoments_413 k366 x1 x2 x8 x9 sg = some s) : E G mX12_makeMoments (1, 31) 413 [.ref 247, .int x1, .int x2, D0, D0, D0, D0, D0, .int x8, .int x9, D0] [] (mem sg) (QV s) := by
  unfold f_X12_makeMoments_413 at h
  refine E_iconst (pc := 413) 1 rfl dX12_makeMoments_413 ?_
  refine E_goto (pc := 414) 418 (by decide) dX12_makeMoments_414 ?_
  refine e_X12_makeMoments_418 (fun h => hk366 h) h
noncomputable def f_X12_makeMoments_366 (k485 : Int32 → ST → Option ST) : Nat → Int32 → Int32 → Int32 → Int32 → ST → Option ST
  | 0, _, _, _, _, _ => none
  | n + 1, x1, x2, x8, x9, sg =>
    if x9 < (sg.1 247 4) then
    ((rdI sg 252 360 ((nI 60) * x9)).bind fun v31 =>
    if v31 = (nI 58) then
    (f_X12_makeMoments_413 (f_X12_makeMoments_366 k485 n) x1 x2 x8 x9 sg)
    else ((rdI sg 251 6 x9).bind fun v39 =>
    bd2 (f_X12_holds_ 252 360 ((nI 60) * x9) v39 sg) fun v41 s40 =>
    if v41 = 0 then
    (f_X12_makeMoments_418 (f_X12_makeMoments_366 k485 n) x1 x2 x8 x9 (nI 0) s40)
    else (f_X12_makeMoments_413 (f_X12_makeMoments_366 k485 n) x1 x2 x8 x9 s40)))
    else (k485 x1 sg)
theorem e_X12_makeMoments_366 {G : GP} {k485 : Int32 → ST → Option ST} {s : ST} (hk485 : ∀ {x1 : Int32} {sg : ST}, k485 x1 sg = some s → E G mX12_makeMoments (1, 31) 485 [.ref 247, .int x1, D0, D0, D0, D0, D0, D0, D0, D0, D0] [] (mem sg) (QV s)) : ∀ (n : Nat) {x1 : Int32} {x2 : Int32} {x8 : Int32} {x9 : Int32} {sg : ST}, f_X12_makeMoments_366 k485 n x1 x2 x8 x9 sg = some s → E G mX12_makeMoments (1, 31) 366 [.ref 247, .int x1, .int x2, D0, D0, D0, D0, D0, .int x8, .int x9, D0] [] (mem sg) (QV s) := by
  intro n
  induction n with
  | zero => intro _ _ _ _ _ h; rw [f_X12_makeMoments_366] at h; cases h
  | succ n ih =>
    intro x1 x2 x8 x9 sg h
    rw [f_X12_makeMoments_366] at h
    refine E_iload (pc := 366) rfl dX12_makeMoments_366 ?_
    refine E_aload_n (pc := 368) rfl dX12_makeMoments_368 ?_
    refine R_getI (pc := 369) f12_162 dX12_makeMoments_369 (ent_st MO247) (by decide) rfl ?_
    refine T_icmp_ge (pc := 372) 485 dX12_makeMoments_372 (by decide) h (fun h => ?_) (fun h => ?_)
    · refine E_kp [true, true, false, false, false, false, false, false, false, false, false] (L2 := [_, _, D0, D0, D0, D0, D0, D0, D0, D0, D0]) rfl rfl ?_
      exact hk485 h
    · refine E_aload_n (pc := 375) rfl dX12_makeMoments_375 ?_
      refine R_getR (pc := 376) (b := 252) f12_22 dX12_makeMoments_376 (ent_st MO247) (by decide) rfl rfl ?_
      refine E_bipush (pc := 379) (nI 60) (by decide) dX12_makeMoments_379 ?_
      refine E_iload (pc := 381) rfl dX12_makeMoments_381 ?_
      refine E_imul (pc := 383) dX12_makeMoments_383 ?_
      refine T_iald (pc := 384) dX12_makeMoments_384 (ent_st MA252) (by decide) h (fun v31 h => ?_)
      refine E_bipush (pc := 385) (nI 58) (by decide) dX12_makeMoments_385 ?_
      refine T_icmp_eq (pc := 387) 413 dX12_makeMoments_387 (by decide) h (fun h => ?_) (fun h => ?_)
      · refine e_X12_makeMoments_413 (fun h => ih h) h
      · refine E_aload_n (pc := 390) rfl dX12_makeMoments_390 ?_
        refine E_aload_n (pc := 391) rfl dX12_makeMoments_391 ?_
        refine R_getR (pc := 392) (b := 252) f12_22 dX12_makeMoments_392 (ent_st MO247) (by decide) rfl rfl ?_
        refine E_bipush (pc := 395) (nI 60) (by decide) dX12_makeMoments_395 ?_
        refine E_iload (pc := 397) rfl dX12_makeMoments_397 ?_
        refine E_imul (pc := 399) dX12_makeMoments_399 ?_
        refine E_aload_n (pc := 400) rfl dX12_makeMoments_400 ?_
        refine R_getR (pc := 401) (b := 251) f12_19 dX12_makeMoments_401 (ent_st MO247) (by decide) rfl rfl ?_
        refine E_iload (pc := 404) rfl dX12_makeMoments_404 ?_
        refine T_iald (pc := 406) dX12_makeMoments_406 (ent_st MA251) (by decide) h (fun v39 h => ?_)
        obtain ⟨v41, s40, hp, h⟩ := bd2_some h
        refine E_callV (pc := 407) (As := [_, _, _]) (fc := (0, 0)) s12_249_12 oX12_holds_ dX12_makeMoments_407 (mem_ob (ent_st MO247)) rfl rfl (Nat.le_of_ble_eq_true rfl) rfl rfl (by decide) (e_X12_holds_ ⟨MA252, (by decide)⟩ hp) (fun rv_ M_ hq_ => ?_)
        obtain ⟨rfl, rfl⟩ := hq_
        refine T_if_eq (pc := 410) 417 dX12_makeMoments_410 (by decide) h (fun h => ?_) (fun h => ?_)
        · refine E_iconst (pc := 417) 0 rfl dX12_makeMoments_417 ?_
          refine e_X12_makeMoments_418 (fun h => ih h) h
        · refine e_X12_makeMoments_413 (fun h => ih h) h
noncomputable def f_X12_makeMoments_338 (k56 : Int32 → ST → Option ST) (x1 : Int32) (x2 : Int32) (x8 : Int32) (sg : ST) : Option ST :=
    (wrI sg 268 1024 x1 (nI 0)).bind fun s29 =>
    (wrI s29 269 7168 (((nI 7) * x1) + (nI 6)) (x2 ||| (x8 <<< ((nI 5) &&& 31)))).bind fun s30 =>
    f_X12_makeMoments_366 (fun x1_42 s43 =>
    k56 (x1_42 + nI 1) s43) FU x1 x2 x8 (nI 0) s30
theorem e_X12_makeMoments_338 {G : GP} {k56 : Int32 → ST → Option ST} {x1 : Int32} {x2 : Int32} {x8 : Int32} {sg : ST} {s : ST} (hk56 : ∀ {x1 : Int32} {sg : ST}, k56 x1 sg = some s → E G mX12_makeMoments (1, 31) 56 [.ref 247, .int x1, D0, D0, D0, D0, D0, D0, D0, D0, D0] [] (mem sg) (QV s)) (h : f_X12_makeMoments_338 k56 x1 x2 x8 sg = some s) : E G mX12_makeMoments (1, 31) 338 [.ref 247, .int x1, .int x2, D0, D0, D0, D0, D0, .int x8, D0, D0] [] (mem sg) (QV s) := by
  unfold f_X12_makeMoments_338 at h
  refine E_aload_n (pc := 338) rfl dX12_makeMoments_338 ?_
  refine R_getR (pc := 339) (b := 268) f12_75 dX12_makeMoments_339 (ent_st MO247) (by decide) rfl rfl ?_
  refine E_iload_n (pc := 342) rfl dX12_makeMoments_342 ?_
  refine E_iconst (pc := 343) 0 rfl dX12_makeMoments_343 ?_
  refine T_iast (pc := 344) dX12_makeMoments_344 (ent_st MA268) (by decide) h (fun s29 h => ?_)
  refine E_aload_n (pc := 345) rfl dX12_makeMoments_345 ?_
  refine R_getR (pc := 346) (b := 269) f12_78 dX12_makeMoments_346 (ent_st MO247) (by decide) rfl rfl ?_
  refine E_bipush (pc := 349) (nI 7) (by decide) dX12_makeMoments_349 ?_
  refine E_iload_n (pc := 351) rfl dX12_makeMoments_351 ?_
  refine E_imul (pc := 352) dX12_makeMoments_352 ?_
  refine E_bipush (pc := 353) (nI 6) (by decide) dX12_makeMoments_353 ?_
  refine E_iadd (pc := 355) dX12_makeMoments_355 ?_
  refine E_iload_n (pc := 356) rfl dX12_makeMoments_356 ?_
  refine E_iload (pc := 357) rfl dX12_makeMoments_357 ?_
  refine E_iconst (pc := 359) 5 rfl dX12_makeMoments_359 ?_
  refine E_ishl (pc := 360) dX12_makeMoments_360 ?_
  refine E_ior (pc := 361) dX12_makeMoments_361 ?_
  refine T_iast (pc := 362) dX12_makeMoments_362 (ent_st MA269) (by decide) h (fun s30 h => ?_)
  refine E_iconst (pc := 363) 0 rfl dX12_makeMoments_363 ?_
  refine E_istore (pc := 364) (L2 := [_, _, _, _, _, _, _, _, _, _, _]) rfl rfl dX12_makeMoments_364 ?_
  refine e_X12_makeMoments_366 ?_ FU h
  · intro x1_42 s43 h
    refine T_iinc (pc := 485) (m := 1) (L2 := [_, _, _, _, _, _, _, _, _, _, _]) rfl rfl rfl rfl dX12_makeMoments_485 ?_
    refine E_goto (pc := 488) 56 (by decide) dX12_makeMoments_488 ?_
    exact hk56 h
noncomputable def f_X12_makeMoments_121 (k56 : Int32 → ST → Option ST) (x1 : Int32) (x2 : Int32) (x3 : Int32) (x4 : Int32) (sg : ST) : Option ST :=
    f_X12_makeMoments_133 (fun x1_23 x2_24 x3_25 x5_26 s27 =>
    (wrI s27 267 1024 x1_23 x5_26).bind fun s28 =>
    if (s28.1 247 27) < 0 then
    (f_X12_makeMoments_338 k56 x1_23 x2_24 x3_25 s28)
    else (if x3_25 < (nI 7) then
    ((rdI s28 249 10 (s28.1 247 27)).bind fun v44 =>
    bd2 (f_X12_holds_ 250 600 ((nI 60) * (s28.1 247 27)) v44 s28) fun v46 s45 =>
    if v46 = 0 then
    (f_X12_makeMoments_338 k56 x1_23 x2_24 x3_25 s45)
    else (f_X12_makeMoments_338 k56 x1_23 x2_24 (x3_25 + nI 1) s45))
    else (f_X12_makeMoments_338 k56 x1_23 x2_24 x3_25 s28))) FU x1 x2 x3 x4 (nI 0) (nI 0) (nI 0) (nI 0) sg
theorem e_X12_makeMoments_121 {G : GP} {k56 : Int32 → ST → Option ST} {x1 : Int32} {x2 : Int32} {x3 : Int32} {x4 : Int32} {sg : ST} {s : ST} (hk56 : ∀ {x1 : Int32} {sg : ST}, k56 x1 sg = some s → E G mX12_makeMoments (1, 31) 56 [.ref 247, .int x1, D0, D0, D0, D0, D0, D0, D0, D0, D0] [] (mem sg) (QV s)) (h : f_X12_makeMoments_121 k56 x1 x2 x3 x4 sg = some s) : E G mX12_makeMoments (1, 31) 121 [.ref 247, .int x1, .int x2, .int x3, .int x4, D0, D0, D0, D0, D0, D0] [] (mem sg) (QV s) := by
  unfold f_X12_makeMoments_121 at h
  refine E_iconst (pc := 121) 0 rfl dX12_makeMoments_121 ?_
  refine E_istore (pc := 122) (L2 := [_, _, _, _, _, _, _, _, _, _, _]) rfl rfl dX12_makeMoments_122 ?_
  refine E_iconst (pc := 124) 0 rfl dX12_makeMoments_124 ?_
  refine E_istore (pc := 125) (L2 := [_, _, _, _, _, _, _, _, _, _, _]) rfl rfl dX12_makeMoments_125 ?_
  refine E_iconst (pc := 127) 0 rfl dX12_makeMoments_127 ?_
  refine E_istore (pc := 128) (L2 := [_, _, _, _, _, _, _, _, _, _, _]) rfl rfl dX12_makeMoments_128 ?_
  refine E_iconst (pc := 130) 0 rfl dX12_makeMoments_130 ?_
  refine E_istore (pc := 131) (L2 := [_, _, _, _, _, _, _, _, _, _, _]) rfl rfl dX12_makeMoments_131 ?_
  refine e_X12_makeMoments_133 ?_ FU h
  · intro x1_23 x2_24 x3_25 x5_26 s27 h
    refine E_aload_n (pc := 284) rfl dX12_makeMoments_284 ?_
    refine R_getR (pc := 285) (b := 267) f12_72 dX12_makeMoments_285 (ent_st MO247) (by decide) rfl rfl ?_
    refine E_iload_n (pc := 288) rfl dX12_makeMoments_288 ?_
    refine E_iload (pc := 289) rfl dX12_makeMoments_289 ?_
    refine T_iast (pc := 291) dX12_makeMoments_291 (ent_st MA267) (by decide) h (fun s28 h => ?_)
    refine E_iload_n (pc := 292) rfl dX12_makeMoments_292 ?_
    refine E_istore (pc := 293) (L2 := [_, _, _, _, _, _, _, _, _, _, _]) rfl rfl dX12_makeMoments_293 ?_
    refine E_aload_n (pc := 295) rfl dX12_makeMoments_295 ?_
    refine R_getI (pc := 296) f12_246 dX12_makeMoments_296 (ent_st MO247) (by decide) rfl ?_
    refine T_if_lt (pc := 299) 338 dX12_makeMoments_299 (by decide) h (fun h => ?_) (fun h => ?_)
    · refine E_kp [true, true, true, false, false, false, false, false, true, false, false] (L2 := [_, _, _, D0, D0, D0, D0, D0, _, D0, D0]) rfl rfl ?_
      refine e_X12_makeMoments_338 (fun h => hk56 h) h
    · refine E_iload_n (pc := 302) rfl dX12_makeMoments_302 ?_
      refine E_bipush (pc := 303) (nI 7) (by decide) dX12_makeMoments_303 ?_
      refine T_icmp_ge (pc := 305) 338 dX12_makeMoments_305 (by decide) h (fun h => ?_) (fun h => ?_)
      · refine E_kp [true, true, true, false, false, false, false, false, true, false, false] (L2 := [_, _, _, D0, D0, D0, D0, D0, _, D0, D0]) rfl rfl ?_
        refine e_X12_makeMoments_338 (fun h => hk56 h) h
      · refine E_aload_n (pc := 308) rfl dX12_makeMoments_308 ?_
        refine E_aload_n (pc := 309) rfl dX12_makeMoments_309 ?_
        refine R_getR (pc := 310) (b := 250) f12_16 dX12_makeMoments_310 (ent_st MO247) (by decide) rfl rfl ?_
        refine E_bipush (pc := 313) (nI 60) (by decide) dX12_makeMoments_313 ?_
        refine E_aload_n (pc := 315) rfl dX12_makeMoments_315 ?_
        refine R_getI (pc := 316) f12_246 dX12_makeMoments_316 (ent_st MO247) (by decide) rfl ?_
        refine E_imul (pc := 319) dX12_makeMoments_319 ?_
        refine E_aload_n (pc := 320) rfl dX12_makeMoments_320 ?_
        refine R_getR (pc := 321) (b := 249) f12_13 dX12_makeMoments_321 (ent_st MO247) (by decide) rfl rfl ?_
        refine E_aload_n (pc := 324) rfl dX12_makeMoments_324 ?_
        refine R_getI (pc := 325) f12_246 dX12_makeMoments_325 (ent_st MO247) (by decide) rfl ?_
        refine T_iald (pc := 328) dX12_makeMoments_328 (ent_st MA249) (by decide) h (fun v44 h => ?_)
        obtain ⟨v46, s45, hp, h⟩ := bd2_some h
        refine E_callV (pc := 329) (As := [_, _, _]) (fc := (0, 0)) s12_249_12 oX12_holds_ dX12_makeMoments_329 (mem_ob (ent_st MO247)) rfl rfl (Nat.le_of_ble_eq_true rfl) rfl rfl (by decide) (e_X12_holds_ ⟨MA250, (by decide)⟩ hp) (fun rv_ M_ hq_ => ?_)
        obtain ⟨rfl, rfl⟩ := hq_
        refine T_if_eq (pc := 332) 338 dX12_makeMoments_332 (by decide) h (fun h => ?_) (fun h => ?_)
        · refine E_kp [true, true, true, false, false, false, false, false, true, false, false] (L2 := [_, _, _, D0, D0, D0, D0, D0, _, D0, D0]) rfl rfl ?_
          refine e_X12_makeMoments_338 (fun h => hk56 h) h
        · refine T_iinc (pc := 335) (m := 1) (L2 := [_, _, _, _, _, _, _, _, _, _, _]) rfl rfl rfl rfl dX12_makeMoments_335 ?_
          refine E_kp [true, true, true, false, false, false, false, false, true, false, false] (L2 := [_, _, _, D0, D0, D0, D0, D0, _, D0, D0]) rfl rfl ?_
          refine e_X12_makeMoments_338 (fun h => hk56 h) h
noncomputable def f_X12_makeMoments_56 : Nat → Int32 → ST → Option ST
  | 0, _, _ => none
  | n + 1, x1, sg =>
    if x1 < (nI 1024) then
    ((wrI sg 267 1024 x1 (-1)).bind fun s11 =>
    if ((x1 &&& (nI 31)) >>> ((s11.1 247 28) &&& 31)) = 0 then
    (if ((x1 >>> ((nI 8) &&& 31)) >>> ((s11.1 247 29) &&& 31)) = 0 then
    (if (s11.1 247 27) < 0 then
    (if 0 < ((x1 >>> ((nI 5) &&& 31)) &&& (nI 7)) then
    ((f_X12_makeMoments_56 n) (x1 + nI 1) s11)
    else (f_X12_makeMoments_121 (f_X12_makeMoments_56 n) x1 (x1 &&& (nI 31)) ((x1 >>> ((nI 5) &&& 31)) &&& (nI 7)) (x1 >>> ((nI 8) &&& 31)) s11))
    else (f_X12_makeMoments_121 (f_X12_makeMoments_56 n) x1 (x1 &&& (nI 31)) ((x1 >>> ((nI 5) &&& 31)) &&& (nI 7)) (x1 >>> ((nI 8) &&& 31)) s11))
    else ((f_X12_makeMoments_56 n) (x1 + nI 1) s11))
    else ((f_X12_makeMoments_56 n) (x1 + nI 1) s11))
    else (some sg)
theorem e_X12_makeMoments_56 {G : GP} {s : ST}  : ∀ (n : Nat) {x1 : Int32} {sg : ST}, f_X12_makeMoments_56 n x1 sg = some s → E G mX12_makeMoments (1, 31) 56 [.ref 247, .int x1, D0, D0, D0, D0, D0, D0, D0, D0, D0] [] (mem sg) (QV s) := by
  intro n
  induction n with
  | zero => intro _ _ h; rw [f_X12_makeMoments_56] at h; cases h
  | succ n ih =>
    intro x1 sg h
    rw [f_X12_makeMoments_56] at h
    refine E_iload_n (pc := 56) rfl dX12_makeMoments_56 ?_
    refine E_sipush (pc := 57) (nI 1024) (by decide) dX12_makeMoments_57 ?_
    refine T_icmp_ge (pc := 60) 491 dX12_makeMoments_60 (by decide) h (fun h => ?_) (fun h => ?_)
    · exact E_return (pc := 491) rfl dX12_makeMoments_491 (QV_of h)
    · refine E_iload_n (pc := 63) rfl dX12_makeMoments_63 ?_
      refine E_bipush (pc := 64) (nI 31) (by decide) dX12_makeMoments_64 ?_
      refine E_iand (pc := 66) dX12_makeMoments_66 ?_
      refine E_istore_n (pc := 67) (L2 := [_, _, _, _, _, _, _, _, _, _, _]) rfl rfl dX12_makeMoments_67 ?_
      refine E_iload_n (pc := 68) rfl dX12_makeMoments_68 ?_
      refine E_iconst (pc := 69) 5 rfl dX12_makeMoments_69 ?_
      refine E_ishr (pc := 70) dX12_makeMoments_70 ?_
      refine E_bipush (pc := 71) (nI 7) (by decide) dX12_makeMoments_71 ?_
      refine E_iand (pc := 73) dX12_makeMoments_73 ?_
      refine E_istore_n (pc := 74) (L2 := [_, _, _, _, _, _, _, _, _, _, _]) rfl rfl dX12_makeMoments_74 ?_
      refine E_iload_n (pc := 75) rfl dX12_makeMoments_75 ?_
      refine E_bipush (pc := 76) (nI 8) (by decide) dX12_makeMoments_76 ?_
      refine E_ishr (pc := 78) dX12_makeMoments_78 ?_
      refine E_istore (pc := 79) (L2 := [_, _, _, _, _, _, _, _, _, _, _]) rfl rfl dX12_makeMoments_79 ?_
      refine E_aload_n (pc := 81) rfl dX12_makeMoments_81 ?_
      refine R_getR (pc := 82) (b := 267) f12_72 dX12_makeMoments_82 (ent_st MO247) (by decide) rfl rfl ?_
      refine E_iload_n (pc := 85) rfl dX12_makeMoments_85 ?_
      refine E_im1 (pc := 86) dX12_makeMoments_86 ?_
      refine T_iast (pc := 87) dX12_makeMoments_87 (ent_st MA267) (by decide) h (fun s11 h => ?_)
      refine E_iload_n (pc := 88) rfl dX12_makeMoments_88 ?_
      refine E_aload_n (pc := 89) rfl dX12_makeMoments_89 ?_
      refine R_getI (pc := 90) f12_240 dX12_makeMoments_90 (ent_st MO247) (by decide) rfl ?_
      refine E_ishr (pc := 93) dX12_makeMoments_93 ?_
      refine T_if_ne (pc := 94) 485 dX12_makeMoments_94 (by decide) h (fun h => ?_) (fun h => ?_)
      · refine T_iinc (pc := 485) (m := 1) (L2 := [_, _, _, _, _, _, _, _, _, _, _]) rfl rfl rfl rfl dX12_makeMoments_485 ?_
        refine E_goto (pc := 488) 56 (by decide) dX12_makeMoments_488 ?_
        refine E_kp [true, true, false, false, false, false, false, false, false, false, false] (L2 := [_, _, D0, D0, D0, D0, D0, D0, D0, D0, D0]) rfl rfl ?_
        exact ih h
      · refine E_iload (pc := 97) rfl dX12_makeMoments_97 ?_
        refine E_aload_n (pc := 99) rfl dX12_makeMoments_99 ?_
        refine R_getI (pc := 100) f12_243 dX12_makeMoments_100 (ent_st MO247) (by decide) rfl ?_
        refine E_ishr (pc := 103) dX12_makeMoments_103 ?_
        refine T_if_ne (pc := 104) 485 dX12_makeMoments_104 (by decide) h (fun h => ?_) (fun h => ?_)
        · refine T_iinc (pc := 485) (m := 1) (L2 := [_, _, _, _, _, _, _, _, _, _, _]) rfl rfl rfl rfl dX12_makeMoments_485 ?_
          refine E_goto (pc := 488) 56 (by decide) dX12_makeMoments_488 ?_
          refine E_kp [true, true, false, false, false, false, false, false, false, false, false] (L2 := [_, _, D0, D0, D0, D0, D0, D0, D0, D0, D0]) rfl rfl ?_
          exact ih h
        · refine E_aload_n (pc := 107) rfl dX12_makeMoments_107 ?_
          refine R_getI (pc := 108) f12_246 dX12_makeMoments_108 (ent_st MO247) (by decide) rfl ?_
          refine T_if_ge (pc := 111) 121 dX12_makeMoments_111 (by decide) h (fun h => ?_) (fun h => ?_)
          · refine e_X12_makeMoments_121 (fun h => ih h) h
          · refine E_iload_n (pc := 114) rfl dX12_makeMoments_114 ?_
            refine T_if_le (pc := 115) 121 dX12_makeMoments_115 (by decide) h (fun h => ?_) (fun h => ?_)
            · refine e_X12_makeMoments_121 (fun h => ih h) h
            · refine E_goto (pc := 118) 485 (by decide) dX12_makeMoments_118 ?_
              refine T_iinc (pc := 485) (m := 1) (L2 := [_, _, _, _, _, _, _, _, _, _, _]) rfl rfl rfl rfl dX12_makeMoments_485 ?_
              refine E_goto (pc := 488) 56 (by decide) dX12_makeMoments_488 ?_
              refine E_kp [true, true, false, false, false, false, false, false, false, false, false] (L2 := [_, _, D0, D0, D0, D0, D0, D0, D0, D0, D0]) rfl rfl ?_
              exact ih h
noncomputable def f_X12_makeMoments (σ : ST) : Option ST :=
    bd2 (f_X12_many (nI 1) σ) fun v2 s1 =>
    (pfI s1 247 28 v2).bind fun s3 =>
    bd2 (f_X12_many (nI 0) s3) fun v5 s4 =>
    (pfI s4 247 29 v5).bind fun s6 =>
    (pfI s6 247 27 (-1)).bind fun s7 =>
    f_X12_makeMoments_25 (fun s10 =>
    f_X12_makeMoments_56 FU (nI 0) s10) FU (nI 0) s7
theorem e_X12_makeMoments {G : GP} {σ : ST} {s : ST}  (h : f_X12_makeMoments σ = some s) : E G mX12_makeMoments (1, 31) 0 [.ref 247, D0, D0, D0, D0, D0, D0, D0, D0, D0, D0] [] (mem σ) (QV s) := by
  unfold f_X12_makeMoments at h
  refine E_aload_n (pc := 0) rfl dX12_makeMoments_0 ?_
  refine E_aload_n (pc := 1) rfl dX12_makeMoments_1 ?_
  refine E_iconst (pc := 2) 1 rfl dX12_makeMoments_2 ?_
  obtain ⟨v2, s1, hp, h⟩ := bd2_some h
  refine E_callV (pc := 3) (As := [_]) (fc := (0, 0)) s12_214_12 oX12_many dX12_makeMoments_3 (mem_ob (ent_st MO247)) rfl rfl (Nat.le_of_ble_eq_true rfl) rfl rfl (by decide) (e_X12_many hp) (fun rv_ M_ hq_ => ?_)
  obtain ⟨rfl, rfl⟩ := hq_
  refine T_putI (pc := 6) f12_240 dX12_makeMoments_6 (ent_st MO247) (by decide) rfl (by decide +kernel) h (fun s3 h => ?_)
  refine E_aload_n (pc := 9) rfl dX12_makeMoments_9 ?_
  refine E_aload_n (pc := 10) rfl dX12_makeMoments_10 ?_
  refine E_iconst (pc := 11) 0 rfl dX12_makeMoments_11 ?_
  obtain ⟨v5, s4, hp, h⟩ := bd2_some h
  refine E_callV (pc := 12) (As := [_]) (fc := (0, 0)) s12_214_12 oX12_many dX12_makeMoments_12 (mem_ob (ent_st MO247)) rfl rfl (Nat.le_of_ble_eq_true rfl) rfl rfl (by decide) (e_X12_many hp) (fun rv_ M_ hq_ => ?_)
  obtain ⟨rfl, rfl⟩ := hq_
  refine T_putI (pc := 15) f12_243 dX12_makeMoments_15 (ent_st MO247) (by decide) rfl (by decide +kernel) h (fun s6 h => ?_)
  refine E_aload_n (pc := 18) rfl dX12_makeMoments_18 ?_
  refine E_im1 (pc := 19) dX12_makeMoments_19 ?_
  refine T_putI (pc := 20) f12_246 dX12_makeMoments_20 (ent_st MO247) (by decide) rfl (by decide +kernel) h (fun s7 h => ?_)
  refine E_iconst (pc := 23) 0 rfl dX12_makeMoments_23 ?_
  refine E_istore_n (pc := 24) (L2 := [_, _, _, _, _, _, _, _, _, _, _]) rfl rfl dX12_makeMoments_24 ?_
  refine e_X12_makeMoments_25 ?_ FU h
  · intro s10 h
    refine E_iconst (pc := 54) 0 rfl dX12_makeMoments_54 ?_
    refine E_istore_n (pc := 55) (L2 := [_, _, _, _, _, _, _, _, _, _, _]) rfl rfl dX12_makeMoments_55 ?_
    refine e_X12_makeMoments_56  FU h
noncomputable def f_X12_tell (x1 : Int32) (x2 : Int32) (σ : ST) : Option ST :=
    (rdI σ 270 12 x1).bind fun v1 =>
    if v1 = (-1) then
    ((wrI σ 270 12 x1 x2).bind fun s2 =>
    some s2)
    else ((rdI σ 270 12 x1).bind fun v3 =>
    if v3 = x2 then
    ((wrI σ 270 12 x1 x2).bind fun s5 =>
    some s5)
    else ((wrI σ 270 12 x1 (-2)).bind fun s4 =>
    some s4))
theorem e_X12_tell {G : GP} {x1 : Int32} {x2 : Int32} {σ : ST} {s : ST}  (h : f_X12_tell x1 x2 σ = some s) : E G mX12_tell (0, 0) 0 [.ref 247, .int x1, .int x2] [] (mem σ) (QV s) := by
  unfold f_X12_tell at h
  refine E_aload_n (pc := 0) rfl dX12_tell_0 ?_
  refine R_getR (pc := 1) (b := 270) f12_81 dX12_tell_1 (ent_st MO247) (by decide) rfl rfl ?_
  refine E_iload_n (pc := 4) rfl dX12_tell_4 ?_
  refine E_aload_n (pc := 5) rfl dX12_tell_5 ?_
  refine R_getR (pc := 6) (b := 270) f12_81 dX12_tell_6 (ent_st MO247) (by decide) rfl rfl ?_
  refine E_iload_n (pc := 9) rfl dX12_tell_9 ?_
  refine T_iald (pc := 10) dX12_tell_10 (ent_st MA270) (by decide) h (fun v1 h => ?_)
  refine E_im1 (pc := 11) dX12_tell_11 ?_
  refine T_icmp_eq (pc := 12) 25 dX12_tell_12 (by decide) h (fun h => ?_) (fun h => ?_)
  · refine E_iload_n (pc := 25) rfl dX12_tell_25 ?_
    refine E_goto (pc := 26) 31 (by decide) dX12_tell_26 ?_
    refine T_iast (pc := 31) dX12_tell_31 (ent_st MA270) (by decide) h (fun s2 h => ?_)
    exact E_return (pc := 32) rfl dX12_tell_32 (QV_of h)
  · refine E_aload_n (pc := 15) rfl dX12_tell_15 ?_
    refine R_getR (pc := 16) (b := 270) f12_81 dX12_tell_16 (ent_st MO247) (by decide) rfl rfl ?_
    refine E_iload_n (pc := 19) rfl dX12_tell_19 ?_
    refine T_iald (pc := 20) dX12_tell_20 (ent_st MA270) (by decide) h (fun v3 h => ?_)
    refine E_iload_n (pc := 21) rfl dX12_tell_21 ?_
    refine T_icmp_ne (pc := 22) 29 dX12_tell_22 (by decide) h (fun h => ?_) (fun h => ?_)
    · refine E_bipush (pc := 29) (-2) (by decide) dX12_tell_29 ?_
      refine T_iast (pc := 31) dX12_tell_31 (ent_st MA270) (by decide) h (fun s4 h => ?_)
      exact E_return (pc := 32) rfl dX12_tell_32 (QV_of h)
    · refine E_iload_n (pc := 25) rfl dX12_tell_25 ?_
      refine E_goto (pc := 26) 31 (by decide) dX12_tell_26 ?_
      refine T_iast (pc := 31) dX12_tell_31 (ent_st MA270) (by decide) h (fun s5 h => ?_)
      exact E_return (pc := 32) rfl dX12_tell_32 (QV_of h)
noncomputable def f_X12_gather_8 (k61 : Int32 → Int32 → Int32 → ST → Option ST) : Nat → Int32 → Int32 → Int32 → Int32 → ST → Option ST
  | 0, _, _, _, _, _ => none
  | n + 1, x1, x2, x3, x4, sg =>
    if x4 < (nI 12) then
    ((wrI sg 270 12 x4 (-1)).bind fun s2 =>
    (wrI s2 271 12 x4 (nI 0)).bind fun s3 =>
    (wrI s3 272 12 x4 (nI 0)).bind fun s4 =>
    (wrI s4 273 12 x4 (nI 0)).bind fun s5 =>
    (wrI s5 274 12 x4 (-1)).bind fun s6 =>
    (f_X12_gather_8 k61 n) x1 x2 x3 (x4 + nI 1) s6)
    else (k61 x1 x2 x3 sg)
theorem e_X12_gather_8 {G : GP} {k61 : Int32 → Int32 → Int32 → ST → Option ST} {s : ST} (hk61 : ∀ {x1 : Int32} {x2 : Int32} {x3 : Int32} {sg : ST}, k61 x1 x2 x3 sg = some s → E G mX12_gather (1, 22) 61 [.ref 247, .int x1, .int x2, .int x3, D0, D0] [] (mem sg) (QV s)) : ∀ (n : Nat) {x1 : Int32} {x2 : Int32} {x3 : Int32} {x4 : Int32} {sg : ST}, f_X12_gather_8 k61 n x1 x2 x3 x4 sg = some s → E G mX12_gather (1, 22) 8 [.ref 247, .int x1, .int x2, .int x3, .int x4, D0] [] (mem sg) (QV s) := by
  intro n
  induction n with
  | zero => intro _ _ _ _ _ h; rw [f_X12_gather_8] at h; cases h
  | succ n ih =>
    intro x1 x2 x3 x4 sg h
    rw [f_X12_gather_8] at h
    refine E_iload (pc := 8) rfl dX12_gather_8 ?_
    refine E_bipush (pc := 10) (nI 12) (by decide) dX12_gather_10 ?_
    refine T_icmp_ge (pc := 12) 61 dX12_gather_12 (by decide) h (fun h => ?_) (fun h => ?_)
    · refine E_kp [true, true, true, true, false, false] (L2 := [_, _, _, _, D0, D0]) rfl rfl ?_
      exact hk61 h
    · refine E_aload_n (pc := 15) rfl dX12_gather_15 ?_
      refine R_getR (pc := 16) (b := 270) f12_81 dX12_gather_16 (ent_st MO247) (by decide) rfl rfl ?_
      refine E_iload (pc := 19) rfl dX12_gather_19 ?_
      refine E_im1 (pc := 21) dX12_gather_21 ?_
      refine T_iast (pc := 22) dX12_gather_22 (ent_st MA270) (by decide) h (fun s2 h => ?_)
      refine E_aload_n (pc := 23) rfl dX12_gather_23 ?_
      refine R_getR (pc := 24) (b := 271) f12_84 dX12_gather_24 (ent_st MO247) (by decide) rfl rfl ?_
      refine E_iload (pc := 27) rfl dX12_gather_27 ?_
      refine E_iconst (pc := 29) 0 rfl dX12_gather_29 ?_
      refine T_iast (pc := 30) dX12_gather_30 (ent_st MA271) (by decide) h (fun s3 h => ?_)
      refine E_aload_n (pc := 31) rfl dX12_gather_31 ?_
      refine R_getR (pc := 32) (b := 272) f12_87 dX12_gather_32 (ent_st MO247) (by decide) rfl rfl ?_
      refine E_iload (pc := 35) rfl dX12_gather_35 ?_
      refine E_iconst (pc := 37) 0 rfl dX12_gather_37 ?_
      refine T_iast (pc := 38) dX12_gather_38 (ent_st MA272) (by decide) h (fun s4 h => ?_)
      refine E_aload_n (pc := 39) rfl dX12_gather_39 ?_
      refine R_getR (pc := 40) (b := 273) f12_90 dX12_gather_40 (ent_st MO247) (by decide) rfl rfl ?_
      refine E_iload (pc := 43) rfl dX12_gather_43 ?_
      refine E_iconst (pc := 45) 0 rfl dX12_gather_45 ?_
      refine T_iast (pc := 46) dX12_gather_46 (ent_st MA273) (by decide) h (fun s5 h => ?_)
      refine E_aload_n (pc := 47) rfl dX12_gather_47 ?_
      refine R_getR (pc := 48) (b := 274) f12_93 dX12_gather_48 (ent_st MO247) (by decide) rfl rfl ?_
      refine E_iload (pc := 51) rfl dX12_gather_51 ?_
      refine E_im1 (pc := 53) dX12_gather_53 ?_
      refine T_iast (pc := 54) dX12_gather_54 (ent_st MA274) (by decide) h (fun s6 h => ?_)
      refine T_iinc (pc := 55) (m := 1) (L2 := [_, _, _, _, _, _]) rfl rfl rfl rfl dX12_gather_55 ?_
      refine E_goto (pc := 58) 8 (by decide) dX12_gather_58 ?_
      exact ih h
noncomputable def f_X12_gather_191 (k126 : Int32 → Int32 → Int32 → Int32 → Int32 → ST → Option ST) (x1 : Int32) (x2 : Int32) (x3 : Int32) (x4 : Int32) (x5 : Int32) (sg : ST) : Option ST :=
    (rdI sg 255 16 x4).bind fun v16 =>
    if v16 = (nI 2) then
    ((rdI sg 256 16 x4).bind fun v17 =>
    (rdI sg 248 10 v17).bind fun v18 =>
    if v18 = (nI 3) then
    ((rdI sg 274 12 x5).bind fun v26 =>
    if v26 = (-1) then
    ((rdI sg 259 16 x4).bind fun v27 =>
    (wrI sg 274 12 x5 v27).bind fun s28 =>
    k126 x1 x2 x3 x4 (x5 + nI 1) s28)
    else ((rdI sg 274 12 x5).bind fun v29 =>
    (rdI sg 259 16 x4).bind fun v30 =>
    if v29 = v30 then
    ((rdI sg 259 16 x4).bind fun v32 =>
    (wrI sg 274 12 x5 v32).bind fun s33 =>
    k126 x1 x2 x3 x4 (x5 + nI 1) s33)
    else ((wrI sg 274 12 x5 (-2)).bind fun s31 =>
    k126 x1 x2 x3 x4 (x5 + nI 1) s31)))
    else ((rdI sg 259 16 x4).bind fun v19 =>
    if v19 = (nI 1) then
    ((rdI sg 272 12 x5).bind fun v23 =>
    (rdI sg 256 16 x4).bind fun v24 =>
    (wrI sg 272 12 x5 (v23 ||| ((nI 1) <<< (v24 &&& 31)))).bind fun s25 =>
    k126 x1 x2 x3 x4 (x5 + nI 1) s25)
    else ((rdI sg 273 12 x5).bind fun v20 =>
    (rdI sg 256 16 x4).bind fun v21 =>
    (wrI sg 273 12 x5 (v20 ||| ((nI 1) <<< (v21 &&& 31)))).bind fun s22 =>
    k126 x1 x2 x3 x4 (x5 + nI 1) s22)))
    else (k126 x1 x2 x3 x4 (x5 + nI 1) sg)
theorem e_X12_gather_191 {G : GP} {k126 : Int32 → Int32 → Int32 → Int32 → Int32 → ST → Option ST} {x1 : Int32} {x2 : Int32} {x3 : Int32} {x4 : Int32} {x5 : Int32} {sg : ST} {s : ST} (hk126 : ∀ {x1 : Int32} {x2 : Int32} {x3 : Int32} {x4 : Int32} {x5 : Int32} {sg : ST}, k126 x1 x2 x3 x4 x5 sg = some s → E G mX12_gather (1, 22) 126 [.ref 247, .int x1, .int x2, .int x3, .int x4, .int x5] [] (mem sg) (QV s)) (h : f_X12_gather_191 k126 x1 x2 x3 x4 x5 sg = some s) : E G mX12_gather (1, 22) 191 [.ref 247, .int x1, .int x2, .int x3, .int x4, .int x5] [] (mem sg) (QV s) := by
  unfold f_X12_gather_191 at h
  refine E_aload_n (pc := 191) rfl dX12_gather_191 ?_
  refine R_getR (pc := 192) (b := 255) f12_31 dX12_gather_192 (ent_st MO247) (by decide) rfl rfl ?_
  refine E_iload (pc := 195) rfl dX12_gather_195 ?_
  refine T_iald (pc := 197) dX12_gather_197 (ent_st MA255) (by decide) h (fun v16 h => ?_)
  refine E_iconst (pc := 198) 2 rfl dX12_gather_198 ?_
  refine T_icmp_eq (pc := 199) 205 dX12_gather_199 (by decide) h (fun h => ?_) (fun h => ?_)
  · refine E_aload_n (pc := 205) rfl dX12_gather_205 ?_
    refine R_getR (pc := 206) (b := 248) f12_7 dX12_gather_206 (ent_st MO247) (by decide) rfl rfl ?_
    refine E_aload_n (pc := 209) rfl dX12_gather_209 ?_
    refine R_getR (pc := 210) (b := 256) f12_34 dX12_gather_210 (ent_st MO247) (by decide) rfl rfl ?_
    refine E_iload (pc := 213) rfl dX12_gather_213 ?_
    refine T_iald (pc := 215) dX12_gather_215 (ent_st MA256) (by decide) h (fun v17 h => ?_)
    refine T_iald (pc := 216) dX12_gather_216 (ent_st MA248) (by decide) h (fun v18 h => ?_)
    refine E_iconst (pc := 217) 3 rfl dX12_gather_217 ?_
    refine T_icmp_ne (pc := 218) 271 dX12_gather_218 (by decide) h (fun h => ?_) (fun h => ?_)
    · refine E_aload_n (pc := 271) rfl dX12_gather_271 ?_
      refine R_getR (pc := 272) (b := 259) f12_43 dX12_gather_272 (ent_st MO247) (by decide) rfl rfl ?_
      refine E_iload (pc := 275) rfl dX12_gather_275 ?_
      refine T_iald (pc := 277) dX12_gather_277 (ent_st MA259) (by decide) h (fun v19 h => ?_)
      refine E_iconst (pc := 278) 1 rfl dX12_gather_278 ?_
      refine T_icmp_ne (pc := 279) 304 dX12_gather_279 (by decide) h (fun h => ?_) (fun h => ?_)
      · refine E_aload_n (pc := 304) rfl dX12_gather_304 ?_
        refine R_getR (pc := 305) (b := 273) f12_90 dX12_gather_305 (ent_st MO247) (by decide) rfl rfl ?_
        refine E_iload (pc := 308) rfl dX12_gather_308 ?_
        refine E_dup2 (pc := 310) rfl rfl dX12_gather_310 ?_
        refine T_iald (pc := 311) dX12_gather_311 (ent_st MA273) (by decide) h (fun v20 h => ?_)
        refine E_iconst (pc := 312) 1 rfl dX12_gather_312 ?_
        refine E_aload_n (pc := 313) rfl dX12_gather_313 ?_
        refine R_getR (pc := 314) (b := 256) f12_34 dX12_gather_314 (ent_st MO247) (by decide) rfl rfl ?_
        refine E_iload (pc := 317) rfl dX12_gather_317 ?_
        refine T_iald (pc := 319) dX12_gather_319 (ent_st MA256) (by decide) h (fun v21 h => ?_)
        refine E_ishl (pc := 320) dX12_gather_320 ?_
        refine E_ior (pc := 321) dX12_gather_321 ?_
        refine T_iast (pc := 322) dX12_gather_322 (ent_st MA273) (by decide) h (fun s22 h => ?_)
        refine T_iinc (pc := 323) (m := 1) (L2 := [_, _, _, _, _, _]) rfl rfl rfl rfl dX12_gather_323 ?_
        refine E_goto (pc := 326) 126 (by decide) dX12_gather_326 ?_
        exact hk126 h
      · refine E_aload_n (pc := 282) rfl dX12_gather_282 ?_
        refine R_getR (pc := 283) (b := 272) f12_87 dX12_gather_283 (ent_st MO247) (by decide) rfl rfl ?_
        refine E_iload (pc := 286) rfl dX12_gather_286 ?_
        refine E_dup2 (pc := 288) rfl rfl dX12_gather_288 ?_
        refine T_iald (pc := 289) dX12_gather_289 (ent_st MA272) (by decide) h (fun v23 h => ?_)
        refine E_iconst (pc := 290) 1 rfl dX12_gather_290 ?_
        refine E_aload_n (pc := 291) rfl dX12_gather_291 ?_
        refine R_getR (pc := 292) (b := 256) f12_34 dX12_gather_292 (ent_st MO247) (by decide) rfl rfl ?_
        refine E_iload (pc := 295) rfl dX12_gather_295 ?_
        refine T_iald (pc := 297) dX12_gather_297 (ent_st MA256) (by decide) h (fun v24 h => ?_)
        refine E_ishl (pc := 298) dX12_gather_298 ?_
        refine E_ior (pc := 299) dX12_gather_299 ?_
        refine T_iast (pc := 300) dX12_gather_300 (ent_st MA272) (by decide) h (fun s25 h => ?_)
        refine E_goto (pc := 301) 323 (by decide) dX12_gather_301 ?_
        refine T_iinc (pc := 323) (m := 1) (L2 := [_, _, _, _, _, _]) rfl rfl rfl rfl dX12_gather_323 ?_
        refine E_goto (pc := 326) 126 (by decide) dX12_gather_326 ?_
        exact hk126 h
    · refine E_aload_n (pc := 221) rfl dX12_gather_221 ?_
      refine R_getR (pc := 222) (b := 274) f12_93 dX12_gather_222 (ent_st MO247) (by decide) rfl rfl ?_
      refine E_iload (pc := 225) rfl dX12_gather_225 ?_
      refine E_aload_n (pc := 227) rfl dX12_gather_227 ?_
      refine R_getR (pc := 228) (b := 274) f12_93 dX12_gather_228 (ent_st MO247) (by decide) rfl rfl ?_
      refine E_iload (pc := 231) rfl dX12_gather_231 ?_
      refine T_iald (pc := 233) dX12_gather_233 (ent_st MA274) (by decide) h (fun v26 h => ?_)
      refine E_im1 (pc := 234) dX12_gather_234 ?_
      refine T_icmp_eq (pc := 235) 255 dX12_gather_235 (by decide) h (fun h => ?_) (fun h => ?_)
      · refine E_aload_n (pc := 255) rfl dX12_gather_255 ?_
        refine R_getR (pc := 256) (b := 259) f12_43 dX12_gather_256 (ent_st MO247) (by decide) rfl rfl ?_
        refine E_iload (pc := 259) rfl dX12_gather_259 ?_
        refine T_iald (pc := 261) dX12_gather_261 (ent_st MA259) (by decide) h (fun v27 h => ?_)
        refine E_goto (pc := 262) 267 (by decide) dX12_gather_262 ?_
        refine T_iast (pc := 267) dX12_gather_267 (ent_st MA274) (by decide) h (fun s28 h => ?_)
        refine E_goto (pc := 268) 323 (by decide) dX12_gather_268 ?_
        refine T_iinc (pc := 323) (m := 1) (L2 := [_, _, _, _, _, _]) rfl rfl rfl rfl dX12_gather_323 ?_
        refine E_goto (pc := 326) 126 (by decide) dX12_gather_326 ?_
        exact hk126 h
      · refine E_aload_n (pc := 238) rfl dX12_gather_238 ?_
        refine R_getR (pc := 239) (b := 274) f12_93 dX12_gather_239 (ent_st MO247) (by decide) rfl rfl ?_
        refine E_iload (pc := 242) rfl dX12_gather_242 ?_
        refine T_iald (pc := 244) dX12_gather_244 (ent_st MA274) (by decide) h (fun v29 h => ?_)
        refine E_aload_n (pc := 245) rfl dX12_gather_245 ?_
        refine R_getR (pc := 246) (b := 259) f12_43 dX12_gather_246 (ent_st MO247) (by decide) rfl rfl ?_
        refine E_iload (pc := 249) rfl dX12_gather_249 ?_
        refine T_iald (pc := 251) dX12_gather_251 (ent_st MA259) (by decide) h (fun v30 h => ?_)
        refine T_icmp_ne (pc := 252) 265 dX12_gather_252 (by decide) h (fun h => ?_) (fun h => ?_)
        · refine E_bipush (pc := 265) (-2) (by decide) dX12_gather_265 ?_
          refine T_iast (pc := 267) dX12_gather_267 (ent_st MA274) (by decide) h (fun s31 h => ?_)
          refine E_goto (pc := 268) 323 (by decide) dX12_gather_268 ?_
          refine T_iinc (pc := 323) (m := 1) (L2 := [_, _, _, _, _, _]) rfl rfl rfl rfl dX12_gather_323 ?_
          refine E_goto (pc := 326) 126 (by decide) dX12_gather_326 ?_
          exact hk126 h
        · refine E_aload_n (pc := 255) rfl dX12_gather_255 ?_
          refine R_getR (pc := 256) (b := 259) f12_43 dX12_gather_256 (ent_st MO247) (by decide) rfl rfl ?_
          refine E_iload (pc := 259) rfl dX12_gather_259 ?_
          refine T_iald (pc := 261) dX12_gather_261 (ent_st MA259) (by decide) h (fun v32 h => ?_)
          refine E_goto (pc := 262) 267 (by decide) dX12_gather_262 ?_
          refine T_iast (pc := 267) dX12_gather_267 (ent_st MA274) (by decide) h (fun s33 h => ?_)
          refine E_goto (pc := 268) 323 (by decide) dX12_gather_268 ?_
          refine T_iinc (pc := 323) (m := 1) (L2 := [_, _, _, _, _, _]) rfl rfl rfl rfl dX12_gather_323 ?_
          refine E_goto (pc := 326) 126 (by decide) dX12_gather_326 ?_
          exact hk126 h
  · refine E_goto (pc := 202) 323 (by decide) dX12_gather_202 ?_
    refine T_iinc (pc := 323) (m := 1) (L2 := [_, _, _, _, _, _]) rfl rfl rfl rfl dX12_gather_323 ?_
    refine E_goto (pc := 326) 126 (by decide) dX12_gather_326 ?_
    exact hk126 h
noncomputable def f_X12_gather_161 (k126 : Int32 → Int32 → Int32 → Int32 → Int32 → ST → Option ST) (x1 : Int32) (x2 : Int32) (x3 : Int32) (x4 : Int32) (x5 : Int32) (sg : ST) : Option ST :=
    (rdI sg 255 16 x4).bind fun v15 =>
    if v15 = (nI 3) then
    ((rdI sg 271 12 x5).bind fun v34 =>
    (rdI sg 256 16 x4).bind fun v35 =>
    (wrI sg 271 12 x5 (v34 ||| ((nI 1) <<< (v35 &&& 31)))).bind fun s36 =>
    f_X12_gather_191 k126 x1 x2 x3 x4 x5 s36)
    else (f_X12_gather_191 k126 x1 x2 x3 x4 x5 sg)
theorem e_X12_gather_161 {G : GP} {k126 : Int32 → Int32 → Int32 → Int32 → Int32 → ST → Option ST} {x1 : Int32} {x2 : Int32} {x3 : Int32} {x4 : Int32} {x5 : Int32} {sg : ST} {s : ST} (hk126 : ∀ {x1 : Int32} {x2 : Int32} {x3 : Int32} {x4 : Int32} {x5 : Int32} {sg : ST}, k126 x1 x2 x3 x4 x5 sg = some s → E G mX12_gather (1, 22) 126 [.ref 247, .int x1, .int x2, .int x3, .int x4, .int x5] [] (mem sg) (QV s)) (h : f_X12_gather_161 k126 x1 x2 x3 x4 x5 sg = some s) : E G mX12_gather (1, 22) 161 [.ref 247, .int x1, .int x2, .int x3, .int x4, .int x5] [] (mem sg) (QV s) := by
  unfold f_X12_gather_161 at h
  refine E_aload_n (pc := 161) rfl dX12_gather_161 ?_
  refine R_getR (pc := 162) (b := 255) f12_31 dX12_gather_162 (ent_st MO247) (by decide) rfl rfl ?_
  refine E_iload (pc := 165) rfl dX12_gather_165 ?_
  refine T_iald (pc := 167) dX12_gather_167 (ent_st MA255) (by decide) h (fun v15 h => ?_)
  refine E_iconst (pc := 168) 3 rfl dX12_gather_168 ?_
  refine T_icmp_ne (pc := 169) 191 dX12_gather_169 (by decide) h (fun h => ?_) (fun h => ?_)
  · refine e_X12_gather_191 (fun h => hk126 h) h
  · refine E_aload_n (pc := 172) rfl dX12_gather_172 ?_
    refine R_getR (pc := 173) (b := 271) f12_84 dX12_gather_173 (ent_st MO247) (by decide) rfl rfl ?_
    refine E_iload (pc := 176) rfl dX12_gather_176 ?_
    refine E_dup2 (pc := 178) rfl rfl dX12_gather_178 ?_
    refine T_iald (pc := 179) dX12_gather_179 (ent_st MA271) (by decide) h (fun v34 h => ?_)
    refine E_iconst (pc := 180) 1 rfl dX12_gather_180 ?_
    refine E_aload_n (pc := 181) rfl dX12_gather_181 ?_
    refine R_getR (pc := 182) (b := 256) f12_34 dX12_gather_182 (ent_st MO247) (by decide) rfl rfl ?_
    refine E_iload (pc := 185) rfl dX12_gather_185 ?_
    refine T_iald (pc := 187) dX12_gather_187 (ent_st MA256) (by decide) h (fun v35 h => ?_)
    refine E_ishl (pc := 188) dX12_gather_188 ?_
    refine E_ior (pc := 189) dX12_gather_189 ?_
    refine T_iast (pc := 190) dX12_gather_190 (ent_st MA271) (by decide) h (fun s36 h => ?_)
    refine e_X12_gather_191 (fun h => hk126 h) h
noncomputable def f_X12_gather_126 (k329 : Int32 → Int32 → Int32 → Int32 → ST → Option ST) : Nat → Int32 → Int32 → Int32 → Int32 → Int32 → ST → Option ST
  | 0, _, _, _, _, _, _ => none
  | n + 1, x1, x2, x3, x4, x5, sg =>
    (rdI sg 258 16 x4).bind fun v13 =>
    if v13 < x5 then
    (k329 x1 x2 x3 x4 sg)
    else ((rdI sg 255 16 x4).bind fun v14 =>
    if v14 = 0 then
    ((rdI sg 256 16 x4).bind fun v37 =>
    (f_X12_tell x5 v37 sg).bind fun s38 =>
    f_X12_gather_161 (f_X12_gather_126 k329 n) x1 x2 x3 x4 x5 s38)
    else (f_X12_gather_161 (f_X12_gather_126 k329 n) x1 x2 x3 x4 x5 sg))
theorem e_X12_gather_126 {G : GP} {k329 : Int32 → Int32 → Int32 → Int32 → ST → Option ST} {s : ST} (hk329 : ∀ {x1 : Int32} {x2 : Int32} {x3 : Int32} {x4 : Int32} {sg : ST}, k329 x1 x2 x3 x4 sg = some s → E G mX12_gather (1, 22) 329 [.ref 247, .int x1, .int x2, .int x3, .int x4, D0] [] (mem sg) (QV s)) : ∀ (n : Nat) {x1 : Int32} {x2 : Int32} {x3 : Int32} {x4 : Int32} {x5 : Int32} {sg : ST}, f_X12_gather_126 k329 n x1 x2 x3 x4 x5 sg = some s → E G mX12_gather (1, 22) 126 [.ref 247, .int x1, .int x2, .int x3, .int x4, .int x5] [] (mem sg) (QV s) := by
  intro n
  induction n with
  | zero => intro _ _ _ _ _ _ h; rw [f_X12_gather_126] at h; cases h
  | succ n ih =>
    intro x1 x2 x3 x4 x5 sg h
    rw [f_X12_gather_126] at h
    refine E_iload (pc := 126) rfl dX12_gather_126 ?_
    refine E_aload_n (pc := 128) rfl dX12_gather_128 ?_
    refine R_getR (pc := 129) (b := 258) f12_40 dX12_gather_129 (ent_st MO247) (by decide) rfl rfl ?_
    refine E_iload (pc := 132) rfl dX12_gather_132 ?_
    refine T_iald (pc := 134) dX12_gather_134 (ent_st MA258) (by decide) h (fun v13 h => ?_)
    refine T_icmp_gt (pc := 135) 329 dX12_gather_135 (by decide) h (fun h => ?_) (fun h => ?_)
    · refine E_kp [true, true, true, true, true, false] (L2 := [_, _, _, _, _, D0]) rfl rfl ?_
      exact hk329 h
    · refine E_aload_n (pc := 138) rfl dX12_gather_138 ?_
      refine R_getR (pc := 139) (b := 255) f12_31 dX12_gather_139 (ent_st MO247) (by decide) rfl rfl ?_
      refine E_iload (pc := 142) rfl dX12_gather_142 ?_
      refine T_iald (pc := 144) dX12_gather_144 (ent_st MA255) (by decide) h (fun v14 h => ?_)
      refine T_if_ne (pc := 145) 161 dX12_gather_145 (by decide) h (fun h => ?_) (fun h => ?_)
      · refine e_X12_gather_161 (fun h => ih h) h
      · refine E_aload_n (pc := 148) rfl dX12_gather_148 ?_
        refine E_iload (pc := 149) rfl dX12_gather_149 ?_
        refine E_aload_n (pc := 151) rfl dX12_gather_151 ?_
        refine R_getR (pc := 152) (b := 256) f12_34 dX12_gather_152 (ent_st MO247) (by decide) rfl rfl ?_
        refine E_iload (pc := 155) rfl dX12_gather_155 ?_
        refine T_iald (pc := 157) dX12_gather_157 (ent_st MA256) (by decide) h (fun v37 h => ?_)
        obtain ⟨s38, hp, h⟩ := bd_some h
        refine E_callV (pc := 158) (As := [_, _]) (fc := (0, 0)) s12_260_12 oX12_tell dX12_gather_158 (mem_ob (ent_st MO247)) rfl rfl (Nat.le_of_ble_eq_true rfl) rfl rfl (by decide) (e_X12_tell hp) (fun rv_ M_ hq_ => ?_)
        obtain ⟨rfl, rfl⟩ := hq_
        refine e_X12_gather_161 (fun h => ih h) h
noncomputable def f_X12_gather_117 (k64 : Int32 → Int32 → Int32 → Int32 → ST → Option ST) (x1 : Int32) (x2 : Int32) (x3 : Int32) (x4 : Int32) (sg : ST) : Option ST :=
    (rdI sg 257 16 x4).bind fun v12 =>
    f_X12_gather_126 (fun x1_39 x2_40 x3_41 x4_42 s43 =>
    k64 x1_39 x2_40 x3_41 (x4_42 + nI 1) s43) FU x1 x2 x3 x4 v12 sg
theorem e_X12_gather_117 {G : GP} {k64 : Int32 → Int32 → Int32 → Int32 → ST → Option ST} {x1 : Int32} {x2 : Int32} {x3 : Int32} {x4 : Int32} {sg : ST} {s : ST} (hk64 : ∀ {x1 : Int32} {x2 : Int32} {x3 : Int32} {x4 : Int32} {sg : ST}, k64 x1 x2 x3 x4 sg = some s → E G mX12_gather (1, 22) 64 [.ref 247, .int x1, .int x2, .int x3, .int x4, D0] [] (mem sg) (QV s)) (h : f_X12_gather_117 k64 x1 x2 x3 x4 sg = some s) : E G mX12_gather (1, 22) 117 [.ref 247, .int x1, .int x2, .int x3, .int x4, D0] [] (mem sg) (QV s) := by
  unfold f_X12_gather_117 at h
  refine E_aload_n (pc := 117) rfl dX12_gather_117 ?_
  refine R_getR (pc := 118) (b := 257) f12_37 dX12_gather_118 (ent_st MO247) (by decide) rfl rfl ?_
  refine E_iload (pc := 121) rfl dX12_gather_121 ?_
  refine T_iald (pc := 123) dX12_gather_123 (ent_st MA257) (by decide) h (fun v12 h => ?_)
  refine E_istore (pc := 124) (L2 := [_, _, _, _, _, _]) rfl rfl dX12_gather_124 ?_
  refine e_X12_gather_126 ?_ FU h
  · intro x1_39 x2_40 x3_41 x4_42 s43 h
    refine T_iinc (pc := 329) (m := 1) (L2 := [_, _, _, _, _, _]) rfl rfl rfl rfl dX12_gather_329 ?_
    refine E_goto (pc := 332) 64 (by decide) dX12_gather_332 ?_
    exact hk64 h
noncomputable def f_X12_gather_64 (k335 : Int32 → Int32 → ST → Option ST) : Nat → Int32 → Int32 → Int32 → Int32 → ST → Option ST
  | 0, _, _, _, _, _ => none
  | n + 1, x1, x2, x3, x4, sg =>
    if x4 < (sg.1 247 9) then
    (if ((x1 >>> (x4 &&& 31)) &&& (nI 1)) = 0 then
    ((f_X12_gather_64 k335 n) x1 x2 x3 (x4 + nI 1) sg)
    else ((rdI sg 255 16 x4).bind fun v11 =>
    if v11 = (nI 1) then
    ((wrI sg 275 2 (sg.1 247 36) x4).bind fun s44 =>
    (pfI s44 247 36 ((s44.1 247 36) + (nI 1))).bind fun s45 =>
    f_X12_gather_117 (f_X12_gather_64 k335 n) x1 x2 x3 x4 s45)
    else (f_X12_gather_117 (f_X12_gather_64 k335 n) x1 x2 x3 x4 sg)))
    else (k335 x2 x3 sg)
theorem e_X12_gather_64 {G : GP} {k335 : Int32 → Int32 → ST → Option ST} {s : ST} (hk335 : ∀ {x2 : Int32} {x3 : Int32} {sg : ST}, k335 x2 x3 sg = some s → E G mX12_gather (1, 22) 335 [.ref 247, D0, .int x2, .int x3, D0, D0] [] (mem sg) (QV s)) : ∀ (n : Nat) {x1 : Int32} {x2 : Int32} {x3 : Int32} {x4 : Int32} {sg : ST}, f_X12_gather_64 k335 n x1 x2 x3 x4 sg = some s → E G mX12_gather (1, 22) 64 [.ref 247, .int x1, .int x2, .int x3, .int x4, D0] [] (mem sg) (QV s) := by
  intro n
  induction n with
  | zero => intro _ _ _ _ _ h; rw [f_X12_gather_64] at h; cases h
  | succ n ih =>
    intro x1 x2 x3 x4 sg h
    rw [f_X12_gather_64] at h
    refine E_iload (pc := 64) rfl dX12_gather_64 ?_
    refine E_aload_n (pc := 66) rfl dX12_gather_66 ?_
    refine R_getI (pc := 67) f12_165 dX12_gather_67 (ent_st MO247) (by decide) rfl ?_
    refine T_icmp_ge (pc := 70) 335 dX12_gather_70 (by decide) h (fun h => ?_) (fun h => ?_)
    · refine E_kp [true, false, true, true, false, false] (L2 := [_, D0, _, _, D0, D0]) rfl rfl ?_
      exact hk335 h
    · refine E_iload_n (pc := 73) rfl dX12_gather_73 ?_
      refine E_iload (pc := 74) rfl dX12_gather_74 ?_
      refine E_ishr (pc := 76) dX12_gather_76 ?_
      refine E_iconst (pc := 77) 1 rfl dX12_gather_77 ?_
      refine E_iand (pc := 78) dX12_gather_78 ?_
      refine T_if_ne (pc := 79) 85 dX12_gather_79 (by decide) h (fun h => ?_) (fun h => ?_)
      · refine E_aload_n (pc := 85) rfl dX12_gather_85 ?_
        refine R_getR (pc := 86) (b := 255) f12_31 dX12_gather_86 (ent_st MO247) (by decide) rfl rfl ?_
        refine E_iload (pc := 89) rfl dX12_gather_89 ?_
        refine T_iald (pc := 91) dX12_gather_91 (ent_st MA255) (by decide) h (fun v11 h => ?_)
        refine E_iconst (pc := 92) 1 rfl dX12_gather_92 ?_
        refine T_icmp_ne (pc := 93) 117 dX12_gather_93 (by decide) h (fun h => ?_) (fun h => ?_)
        · refine e_X12_gather_117 (fun h => ih h) h
        · refine E_aload_n (pc := 96) rfl dX12_gather_96 ?_
          refine R_getR (pc := 97) (b := 275) f12_96 dX12_gather_97 (ent_st MO247) (by decide) rfl rfl ?_
          refine E_aload_n (pc := 100) rfl dX12_gather_100 ?_
          refine R_getI (pc := 101) f12_257 dX12_gather_101 (ent_st MO247) (by decide) rfl ?_
          refine E_iload (pc := 104) rfl dX12_gather_104 ?_
          refine T_iast (pc := 106) dX12_gather_106 (ent_st MA275) (by decide) h (fun s44 h => ?_)
          refine E_aload_n (pc := 107) rfl dX12_gather_107 ?_
          refine E_dup (pc := 108) rfl dX12_gather_108 ?_
          refine R_getI (pc := 109) f12_257 dX12_gather_109 (ent_st MO247) (by decide) rfl ?_
          refine E_iconst (pc := 112) 1 rfl dX12_gather_112 ?_
          refine E_iadd (pc := 113) dX12_gather_113 ?_
          refine T_putI (pc := 114) f12_257 dX12_gather_114 (ent_st MO247) (by decide) rfl (by decide +kernel) h (fun s45 h => ?_)
          refine e_X12_gather_117 (fun h => ih h) h
      · refine E_goto (pc := 82) 329 (by decide) dX12_gather_82 ?_
        refine T_iinc (pc := 329) (m := 1) (L2 := [_, _, _, _, _, _]) rfl rfl rfl rfl dX12_gather_329 ?_
        refine E_goto (pc := 332) 64 (by decide) dX12_gather_332 ?_
        exact ih h
noncomputable def f_X12_gather (x1 : Int32) (x2 : Int32) (x3 : Int32) (σ : ST) : Option ST :=
    (pfI σ 247 36 (nI 0)).bind fun s1 =>
    f_X12_gather_8 (fun x1_7 x2_8 x3_9 s10 =>
    f_X12_gather_64 (fun x2_46 x3_47 s48 =>
    if x2_46 < 0 then
    (some s48)
    else ((f_X12_tell x2_46 x3_47 s48).bind fun s49 =>
    some s49)) FU x1_7 x2_8 x3_9 (nI 0) s10) FU x1 x2 x3 (nI 0) s1
theorem e_X12_gather {G : GP} {x1 : Int32} {x2 : Int32} {x3 : Int32} {σ : ST} {s : ST}  (h : f_X12_gather x1 x2 x3 σ = some s) : E G mX12_gather (1, 22) 0 [.ref 247, .int x1, .int x2, .int x3, D0, D0] [] (mem σ) (QV s) := by
  unfold f_X12_gather at h
  refine E_aload_n (pc := 0) rfl dX12_gather_0 ?_
  refine E_iconst (pc := 1) 0 rfl dX12_gather_1 ?_
  refine T_putI (pc := 2) f12_257 dX12_gather_2 (ent_st MO247) (by decide) rfl (by decide +kernel) h (fun s1 h => ?_)
  refine E_iconst (pc := 5) 0 rfl dX12_gather_5 ?_
  refine E_istore (pc := 6) (L2 := [_, _, _, _, _, _]) rfl rfl dX12_gather_6 ?_
  refine e_X12_gather_8 ?_ FU h
  · intro x1_7 x2_8 x3_9 s10 h
    refine E_iconst (pc := 61) 0 rfl dX12_gather_61 ?_
    refine E_istore (pc := 62) (L2 := [_, _, _, _, _, _]) rfl rfl dX12_gather_62 ?_
    refine e_X12_gather_64 ?_ FU h
    · intro x2_46 x3_47 s48 h
      refine E_iload_n (pc := 335) rfl dX12_gather_335 ?_
      refine T_if_lt (pc := 336) 345 dX12_gather_336 (by decide) h (fun h => ?_) (fun h => ?_)
      · exact E_return (pc := 345) rfl dX12_gather_345 (QV_of h)
      · refine E_aload_n (pc := 339) rfl dX12_gather_339 ?_
        refine E_iload_n (pc := 340) rfl dX12_gather_340 ?_
        refine E_iload_n (pc := 341) rfl dX12_gather_341 ?_
        obtain ⟨s49, hp, h⟩ := bd_some h
        refine E_callV (pc := 342) (As := [_, _]) (fc := (0, 0)) s12_260_12 oX12_tell dX12_gather_342 (mem_ob (ent_st MO247)) rfl rfl (Nat.le_of_ble_eq_true rfl) rfl rfl (by decide) (e_X12_tell hp) (fun rv_ M_ hq_ => ?_)
        obtain ⟨rfl, rfl⟩ := hq_
        exact E_return (pc := 345) rfl dX12_gather_345 (QV_of h)
noncomputable def f_X12_edgesOf_260 (k327 : Int32 → Int32 → Int32 → Int32 → Int32 → Int32 → ST → Option ST) : Nat → Int32 → Int32 → Int32 → Int32 → Int32 → Int32 → Int32 → ST → Option ST
  | 0, _, _, _, _, _, _, _, _ => none
  | n + 1, x1, x2, x3, x4, x5, x6, x7, sg =>
    if x7 < (sg.1 247 36) then
    ((rdI sg 275 2 x7).bind fun v11 =>
    (rdI sg 256 16 v11).bind fun v12 =>
    if v12 = x5 then
    ((rdI sg 257 16 v11).bind fun v13 =>
    if x1 < v13 then
    ((f_X12_edgesOf_260 k327 n) x1 x2 x3 x4 x5 x6 (x7 + nI 1) sg)
    else ((rdI sg 258 16 v11).bind fun v14 =>
    if v14 < x1 then
    ((f_X12_edgesOf_260 k327 n) x1 x2 x3 x4 x5 x6 (x7 + nI 1) sg)
    else ((f_X12_edgesOf_260 k327 n) x1 x2 x3 x4 x5 (x6 ||| ((nI 1) <<< (x7 &&& 31))) (x7 + nI 1) sg)))
    else ((f_X12_edgesOf_260 k327 n) x1 x2 x3 x4 x5 x6 (x7 + nI 1) sg))
    else (k327 x1 x2 x3 x4 x5 x6 sg)
theorem e_X12_edgesOf_260 {G : GP} {k327 : Int32 → Int32 → Int32 → Int32 → Int32 → Int32 → ST → Option ST} {s : ST} (hk327 : ∀ {x1 : Int32} {x2 : Int32} {x3 : Int32} {x4 : Int32} {x5 : Int32} {x6 : Int32} {sg : ST}, k327 x1 x2 x3 x4 x5 x6 sg = some s → E G mX12_edgesOf (0, 0) 327 [.ref 247, .int x1, .int x2, .int x3, .int x4, .int x5, .int x6, D0, D0] [] (mem sg) (QV s)) : ∀ (n : Nat) {x1 : Int32} {x2 : Int32} {x3 : Int32} {x4 : Int32} {x5 : Int32} {x6 : Int32} {x7 : Int32} {sg : ST}, f_X12_edgesOf_260 k327 n x1 x2 x3 x4 x5 x6 x7 sg = some s → E G mX12_edgesOf (0, 0) 260 [.ref 247, .int x1, .int x2, .int x3, .int x4, .int x5, .int x6, .int x7, D0] [] (mem sg) (QV s) := by
  intro n
  induction n with
  | zero => intro _ _ _ _ _ _ _ _ h; rw [f_X12_edgesOf_260] at h; cases h
  | succ n ih =>
    intro x1 x2 x3 x4 x5 x6 x7 sg h
    rw [f_X12_edgesOf_260] at h
    refine E_iload (pc := 260) rfl dX12_edgesOf_260 ?_
    refine E_aload_n (pc := 262) rfl dX12_edgesOf_262 ?_
    refine R_getI (pc := 263) f12_257 dX12_edgesOf_263 (ent_st MO247) (by decide) rfl ?_
    refine T_icmp_ge (pc := 266) 327 dX12_edgesOf_266 (by decide) h (fun h => ?_) (fun h => ?_)
    · refine E_kp [true, true, true, true, true, true, true, false, false] (L2 := [_, _, _, _, _, _, _, D0, D0]) rfl rfl ?_
      exact hk327 h
    · refine E_aload_n (pc := 269) rfl dX12_edgesOf_269 ?_
      refine R_getR (pc := 270) (b := 275) f12_96 dX12_edgesOf_270 (ent_st MO247) (by decide) rfl rfl ?_
      refine E_iload (pc := 273) rfl dX12_edgesOf_273 ?_
      refine T_iald (pc := 275) dX12_edgesOf_275 (ent_st MA275) (by decide) h (fun v11 h => ?_)
      refine E_istore (pc := 276) (L2 := [_, _, _, _, _, _, _, _, _]) rfl rfl dX12_edgesOf_276 ?_
      refine E_aload_n (pc := 278) rfl dX12_edgesOf_278 ?_
      refine R_getR (pc := 279) (b := 256) f12_34 dX12_edgesOf_279 (ent_st MO247) (by decide) rfl rfl ?_
      refine E_iload (pc := 282) rfl dX12_edgesOf_282 ?_
      refine T_iald (pc := 284) dX12_edgesOf_284 (ent_st MA256) (by decide) h (fun v12 h => ?_)
      refine E_iload (pc := 285) rfl dX12_edgesOf_285 ?_
      refine T_icmp_ne (pc := 287) 321 dX12_edgesOf_287 (by decide) h (fun h => ?_) (fun h => ?_)
      · refine T_iinc (pc := 321) (m := 1) (L2 := [_, _, _, _, _, _, _, _, _]) rfl rfl rfl rfl dX12_edgesOf_321 ?_
        refine E_goto (pc := 324) 260 (by decide) dX12_edgesOf_324 ?_
        refine E_kp [true, true, true, true, true, true, true, true, false] (L2 := [_, _, _, _, _, _, _, _, D0]) rfl rfl ?_
        exact ih h
      · refine E_iload_n (pc := 290) rfl dX12_edgesOf_290 ?_
        refine E_aload_n (pc := 291) rfl dX12_edgesOf_291 ?_
        refine R_getR (pc := 292) (b := 257) f12_37 dX12_edgesOf_292 (ent_st MO247) (by decide) rfl rfl ?_
        refine E_iload (pc := 295) rfl dX12_edgesOf_295 ?_
        refine T_iald (pc := 297) dX12_edgesOf_297 (ent_st MA257) (by decide) h (fun v13 h => ?_)
        refine T_icmp_lt (pc := 298) 321 dX12_edgesOf_298 (by decide) h (fun h => ?_) (fun h => ?_)
        · refine T_iinc (pc := 321) (m := 1) (L2 := [_, _, _, _, _, _, _, _, _]) rfl rfl rfl rfl dX12_edgesOf_321 ?_
          refine E_goto (pc := 324) 260 (by decide) dX12_edgesOf_324 ?_
          refine E_kp [true, true, true, true, true, true, true, true, false] (L2 := [_, _, _, _, _, _, _, _, D0]) rfl rfl ?_
          exact ih h
        · refine E_iload_n (pc := 301) rfl dX12_edgesOf_301 ?_
          refine E_aload_n (pc := 302) rfl dX12_edgesOf_302 ?_
          refine R_getR (pc := 303) (b := 258) f12_40 dX12_edgesOf_303 (ent_st MO247) (by decide) rfl rfl ?_
          refine E_iload (pc := 306) rfl dX12_edgesOf_306 ?_
          refine T_iald (pc := 308) dX12_edgesOf_308 (ent_st MA258) (by decide) h (fun v14 h => ?_)
          refine T_icmp_gt (pc := 309) 321 dX12_edgesOf_309 (by decide) h (fun h => ?_) (fun h => ?_)
          · refine T_iinc (pc := 321) (m := 1) (L2 := [_, _, _, _, _, _, _, _, _]) rfl rfl rfl rfl dX12_edgesOf_321 ?_
            refine E_goto (pc := 324) 260 (by decide) dX12_edgesOf_324 ?_
            refine E_kp [true, true, true, true, true, true, true, true, false] (L2 := [_, _, _, _, _, _, _, _, D0]) rfl rfl ?_
            exact ih h
          · refine E_iload (pc := 312) rfl dX12_edgesOf_312 ?_
            refine E_iconst (pc := 314) 1 rfl dX12_edgesOf_314 ?_
            refine E_iload (pc := 315) rfl dX12_edgesOf_315 ?_
            refine E_ishl (pc := 317) dX12_edgesOf_317 ?_
            refine E_ior (pc := 318) dX12_edgesOf_318 ?_
            refine E_istore (pc := 319) (L2 := [_, _, _, _, _, _, _, _, _]) rfl rfl dX12_edgesOf_319 ?_
            refine T_iinc (pc := 321) (m := 1) (L2 := [_, _, _, _, _, _, _, _, _]) rfl rfl rfl rfl dX12_edgesOf_321 ?_
            refine E_goto (pc := 324) 260 (by decide) dX12_edgesOf_324 ?_
            refine E_kp [true, true, true, true, true, true, true, true, false] (L2 := [_, _, _, _, _, _, _, _, D0]) rfl rfl ?_
            exact ih h
noncomputable def f_X12_edgesOf_401 (k125 : Int32 → Int32 → Int32 → Int32 → Int32 → ST → Option ST) (x1 : Int32) (x2 : Int32) (x3 : Int32) (x4 : Int32) (x5 : Int32) (z1 : Int32) (sg : ST) : Option ST :=
    (wrI sg 281 28 z1 (nI 0)).bind fun s26 =>
    (pfI s26 247 40 ((s26.1 247 40) + (nI 1))).bind fun s27 =>
    k125 x1 x2 x3 x4 (x5 + nI 1) s27
theorem e_X12_edgesOf_401 {G : GP} {k125 : Int32 → Int32 → Int32 → Int32 → Int32 → ST → Option ST} {x1 : Int32} {x2 : Int32} {x3 : Int32} {x4 : Int32} {x5 : Int32} {z1 : Int32} {sg : ST} {s : ST} (hk125 : ∀ {x1 : Int32} {x2 : Int32} {x3 : Int32} {x4 : Int32} {x5 : Int32} {sg : ST}, k125 x1 x2 x3 x4 x5 sg = some s → E G mX12_edgesOf (0, 0) 125 [.ref 247, .int x1, .int x2, .int x3, .int x4, .int x5, D0, D0, D0] [] (mem sg) (QV s)) (h : f_X12_edgesOf_401 k125 x1 x2 x3 x4 x5 z1 sg = some s) : E G mX12_edgesOf (0, 0) 401 [.ref 247, .int x1, .int x2, .int x3, .int x4, .int x5, D0, D0, D0] [.int z1, .ref 281] (mem sg) (QV s) := by
  unfold f_X12_edgesOf_401 at h
  refine E_iconst (pc := 401) 0 rfl dX12_edgesOf_401 ?_
  refine E_goto (pc := 402) 412 (by decide) dX12_edgesOf_402 ?_
  refine T_iast (pc := 412) dX12_edgesOf_412 (ent_st MA281) (by decide) h (fun s26 h => ?_)
  refine E_aload_n (pc := 413) rfl dX12_edgesOf_413 ?_
  refine E_dup (pc := 414) rfl dX12_edgesOf_414 ?_
  refine R_getI (pc := 415) f12_264 dX12_edgesOf_415 (ent_st MO247) (by decide) rfl ?_
  refine E_iconst (pc := 418) 1 rfl dX12_edgesOf_418 ?_
  refine E_iadd (pc := 419) dX12_edgesOf_419 ?_
  refine T_putI (pc := 420) f12_264 dX12_edgesOf_420 (ent_st MO247) (by decide) rfl (by decide +kernel) h (fun s27 h => ?_)
  refine T_iinc (pc := 423) (m := 1) (L2 := [_, _, _, _, _, _, _, _, _]) rfl rfl rfl rfl dX12_edgesOf_423 ?_
  refine E_goto (pc := 426) 125 (by decide) dX12_edgesOf_426 ?_
  exact hk125 h
noncomputable def f_X12_edgesOf_251 (k125 : Int32 → Int32 → Int32 → Int32 → Int32 → ST → Option ST) (x1 : Int32) (x2 : Int32) (x3 : Int32) (x4 : Int32) (x5 : Int32) (sg : ST) : Option ST :=
    f_X12_edgesOf_260 (fun x1_15 x2_16 x3_17 x4_18 x5_19 x6_20 s21 =>
    (wrI s21 278 28 (s21.1 247 40) x4_18).bind fun s22 =>
    (wrI s22 279 28 (s22.1 247 40) x5_19).bind fun s23 =>
    (rdI s23 269 7168 (((nI 7) * x4_18) + x5_19)).bind fun v24 =>
    (wrI s23 280 28 (s23.1 247 40) (v24 ||| (x6_20 <<< ((nI 8) &&& 31)))).bind fun s25 =>
    if x5_19 = (nI 6) then
    (f_X12_edgesOf_401 k125 x1_15 x2_16 x3_17 x4_18 x5_19 (s25.1 247 40) s25)
    else ((rdI s25 270 12 x1_15).bind fun v28 =>
    if v28 < 0 then
    ((rdI s25 253 6 x5_19).bind fun v29 =>
    (wrI s25 281 28 (s25.1 247 40) v29).bind fun s30 =>
    (pfI s30 247 40 ((s30.1 247 40) + (nI 1))).bind fun s31 =>
    k125 x1_15 x2_16 x3_17 x4_18 (x5_19 + nI 1) s31)
    else (f_X12_edgesOf_401 k125 x1_15 x2_16 x3_17 x4_18 x5_19 (s25.1 247 40) s25))) FU x1 x2 x3 x4 x5 (x2 >>> ((nI 8) &&& 31)) (nI 0) sg
theorem e_X12_edgesOf_251 {G : GP} {k125 : Int32 → Int32 → Int32 → Int32 → Int32 → ST → Option ST} {x1 : Int32} {x2 : Int32} {x3 : Int32} {x4 : Int32} {x5 : Int32} {sg : ST} {s : ST} (hk125 : ∀ {x1 : Int32} {x2 : Int32} {x3 : Int32} {x4 : Int32} {x5 : Int32} {sg : ST}, k125 x1 x2 x3 x4 x5 sg = some s → E G mX12_edgesOf (0, 0) 125 [.ref 247, .int x1, .int x2, .int x3, .int x4, .int x5, D0, D0, D0] [] (mem sg) (QV s)) (h : f_X12_edgesOf_251 k125 x1 x2 x3 x4 x5 sg = some s) : E G mX12_edgesOf (0, 0) 251 [.ref 247, .int x1, .int x2, .int x3, .int x4, .int x5, D0, D0, D0] [] (mem sg) (QV s) := by
  unfold f_X12_edgesOf_251 at h
  refine E_iload_n (pc := 251) rfl dX12_edgesOf_251 ?_
  refine E_bipush (pc := 252) (nI 8) (by decide) dX12_edgesOf_252 ?_
  refine E_ishr (pc := 254) dX12_edgesOf_254 ?_
  refine E_istore (pc := 255) (L2 := [_, _, _, _, _, _, _, _, _]) rfl rfl dX12_edgesOf_255 ?_
  refine E_iconst (pc := 257) 0 rfl dX12_edgesOf_257 ?_
  refine E_istore (pc := 258) (L2 := [_, _, _, _, _, _, _, _, _]) rfl rfl dX12_edgesOf_258 ?_
  refine e_X12_edgesOf_260 ?_ FU h
  · intro x1_15 x2_16 x3_17 x4_18 x5_19 x6_20 s21 h
    refine E_aload_n (pc := 327) rfl dX12_edgesOf_327 ?_
    refine R_getR (pc := 328) (b := 278) f12_105 dX12_edgesOf_328 (ent_st MO247) (by decide) rfl rfl ?_
    refine E_aload_n (pc := 331) rfl dX12_edgesOf_331 ?_
    refine R_getI (pc := 332) f12_264 dX12_edgesOf_332 (ent_st MO247) (by decide) rfl ?_
    refine E_iload (pc := 335) rfl dX12_edgesOf_335 ?_
    refine T_iast (pc := 337) dX12_edgesOf_337 (ent_st MA278) (by decide) h (fun s22 h => ?_)
    refine E_aload_n (pc := 338) rfl dX12_edgesOf_338 ?_
    refine R_getR (pc := 339) (b := 279) f12_108 dX12_edgesOf_339 (ent_st MO247) (by decide) rfl rfl ?_
    refine E_aload_n (pc := 342) rfl dX12_edgesOf_342 ?_
    refine R_getI (pc := 343) f12_264 dX12_edgesOf_343 (ent_st MO247) (by decide) rfl ?_
    refine E_iload (pc := 346) rfl dX12_edgesOf_346 ?_
    refine T_iast (pc := 348) dX12_edgesOf_348 (ent_st MA279) (by decide) h (fun s23 h => ?_)
    refine E_aload_n (pc := 349) rfl dX12_edgesOf_349 ?_
    refine R_getR (pc := 350) (b := 280) f12_111 dX12_edgesOf_350 (ent_st MO247) (by decide) rfl rfl ?_
    refine E_aload_n (pc := 353) rfl dX12_edgesOf_353 ?_
    refine R_getI (pc := 354) f12_264 dX12_edgesOf_354 (ent_st MO247) (by decide) rfl ?_
    refine E_aload_n (pc := 357) rfl dX12_edgesOf_357 ?_
    refine R_getR (pc := 358) (b := 269) f12_78 dX12_edgesOf_358 (ent_st MO247) (by decide) rfl rfl ?_
    refine E_bipush (pc := 361) (nI 7) (by decide) dX12_edgesOf_361 ?_
    refine E_iload (pc := 363) rfl dX12_edgesOf_363 ?_
    refine E_imul (pc := 365) dX12_edgesOf_365 ?_
    refine E_iload (pc := 366) rfl dX12_edgesOf_366 ?_
    refine E_iadd (pc := 368) dX12_edgesOf_368 ?_
    refine T_iald (pc := 369) dX12_edgesOf_369 (ent_st MA269) (by decide) h (fun v24 h => ?_)
    refine E_iload (pc := 370) rfl dX12_edgesOf_370 ?_
    refine E_bipush (pc := 372) (nI 8) (by decide) dX12_edgesOf_372 ?_
    refine E_ishl (pc := 374) dX12_edgesOf_374 ?_
    refine E_ior (pc := 375) dX12_edgesOf_375 ?_
    refine T_iast (pc := 376) dX12_edgesOf_376 (ent_st MA280) (by decide) h (fun s25 h => ?_)
    refine E_aload_n (pc := 377) rfl dX12_edgesOf_377 ?_
    refine R_getR (pc := 378) (b := 281) f12_114 dX12_edgesOf_378 (ent_st MO247) (by decide) rfl rfl ?_
    refine E_aload_n (pc := 381) rfl dX12_edgesOf_381 ?_
    refine R_getI (pc := 382) f12_264 dX12_edgesOf_382 (ent_st MO247) (by decide) rfl ?_
    refine E_iload (pc := 385) rfl dX12_edgesOf_385 ?_
    refine E_bipush (pc := 387) (nI 6) (by decide) dX12_edgesOf_387 ?_
    refine T_icmp_eq (pc := 389) 401 dX12_edgesOf_389 (by decide) h (fun h => ?_) (fun h => ?_)
    · refine E_kp [true, true, true, true, true, true, false, false, false] (L2 := [_, _, _, _, _, _, D0, D0, D0]) rfl rfl ?_
      refine e_X12_edgesOf_401 (fun h => hk125 h) h
    · refine E_aload_n (pc := 392) rfl dX12_edgesOf_392 ?_
      refine R_getR (pc := 393) (b := 270) f12_81 dX12_edgesOf_393 (ent_st MO247) (by decide) rfl rfl ?_
      refine E_iload_n (pc := 396) rfl dX12_edgesOf_396 ?_
      refine T_iald (pc := 397) dX12_edgesOf_397 (ent_st MA270) (by decide) h (fun v28 h => ?_)
      refine T_if_lt (pc := 398) 405 dX12_edgesOf_398 (by decide) h (fun h => ?_) (fun h => ?_)
      · refine E_aload_n (pc := 405) rfl dX12_edgesOf_405 ?_
        refine R_getR (pc := 406) (b := 253) f12_25 dX12_edgesOf_406 (ent_st MO247) (by decide) rfl rfl ?_
        refine E_iload (pc := 409) rfl dX12_edgesOf_409 ?_
        refine T_iald (pc := 411) dX12_edgesOf_411 (ent_st MA253) (by decide) h (fun v29 h => ?_)
        refine T_iast (pc := 412) dX12_edgesOf_412 (ent_st MA281) (by decide) h (fun s30 h => ?_)
        refine E_aload_n (pc := 413) rfl dX12_edgesOf_413 ?_
        refine E_dup (pc := 414) rfl dX12_edgesOf_414 ?_
        refine R_getI (pc := 415) f12_264 dX12_edgesOf_415 (ent_st MO247) (by decide) rfl ?_
        refine E_iconst (pc := 418) 1 rfl dX12_edgesOf_418 ?_
        refine E_iadd (pc := 419) dX12_edgesOf_419 ?_
        refine T_putI (pc := 420) f12_264 dX12_edgesOf_420 (ent_st MO247) (by decide) rfl (by decide +kernel) h (fun s31 h => ?_)
        refine T_iinc (pc := 423) (m := 1) (L2 := [_, _, _, _, _, _, _, _, _]) rfl rfl rfl rfl dX12_edgesOf_423 ?_
        refine E_goto (pc := 426) 125 (by decide) dX12_edgesOf_426 ?_
        refine E_kp [true, true, true, true, true, true, false, false, false] (L2 := [_, _, _, _, _, _, D0, D0, D0]) rfl rfl ?_
        exact hk125 h
      · refine E_kp [true, true, true, true, true, true, false, false, false] (L2 := [_, _, _, _, _, _, D0, D0, D0]) rfl rfl ?_
        refine e_X12_edgesOf_401 (fun h => hk125 h) h
noncomputable def f_X12_edgesOf_197 (k125 : Int32 → Int32 → Int32 → Int32 → Int32 → ST → Option ST) (x1 : Int32) (x2 : Int32) (x3 : Int32) (x4 : Int32) (x5 : Int32) (sg : ST) : Option ST :=
    (rdI sg 271 12 x1).bind fun v10 =>
    if ((v10 >>> (x5 &&& 31)) &&& (nI 1)) = (nI 1) then
    (k125 x1 x2 x3 x4 (x5 + nI 1) sg)
    else (if x5 < (nI 6) then
    ((rdI sg 254 6 x5).bind fun v32 =>
    if v32 = (nI 1) then
    ((rdI sg 268 1024 x4).bind fun v33 =>
    if ((v33 >>> (x5 &&& 31)) &&& (nI 1)) = 0 then
    (k125 x1 x2 x3 x4 (x5 + nI 1) sg)
    else (f_X12_edgesOf_251 k125 x1 x2 x3 x4 x5 sg))
    else (f_X12_edgesOf_251 k125 x1 x2 x3 x4 x5 sg))
    else (f_X12_edgesOf_251 k125 x1 x2 x3 x4 x5 sg))
theorem e_X12_edgesOf_197 {G : GP} {k125 : Int32 → Int32 → Int32 → Int32 → Int32 → ST → Option ST} {x1 : Int32} {x2 : Int32} {x3 : Int32} {x4 : Int32} {x5 : Int32} {sg : ST} {s : ST} (hk125 : ∀ {x1 : Int32} {x2 : Int32} {x3 : Int32} {x4 : Int32} {x5 : Int32} {sg : ST}, k125 x1 x2 x3 x4 x5 sg = some s → E G mX12_edgesOf (0, 0) 125 [.ref 247, .int x1, .int x2, .int x3, .int x4, .int x5, D0, D0, D0] [] (mem sg) (QV s)) (h : f_X12_edgesOf_197 k125 x1 x2 x3 x4 x5 sg = some s) : E G mX12_edgesOf (0, 0) 197 [.ref 247, .int x1, .int x2, .int x3, .int x4, .int x5, D0, D0, D0] [] (mem sg) (QV s) := by
  unfold f_X12_edgesOf_197 at h
  refine E_aload_n (pc := 197) rfl dX12_edgesOf_197 ?_
  refine R_getR (pc := 198) (b := 271) f12_84 dX12_edgesOf_198 (ent_st MO247) (by decide) rfl rfl ?_
  refine E_iload_n (pc := 201) rfl dX12_edgesOf_201 ?_
  refine T_iald (pc := 202) dX12_edgesOf_202 (ent_st MA271) (by decide) h (fun v10 h => ?_)
  refine E_iload (pc := 203) rfl dX12_edgesOf_203 ?_
  refine E_ishr (pc := 205) dX12_edgesOf_205 ?_
  refine E_iconst (pc := 206) 1 rfl dX12_edgesOf_206 ?_
  refine E_iand (pc := 207) dX12_edgesOf_207 ?_
  refine E_iconst (pc := 208) 1 rfl dX12_edgesOf_208 ?_
  refine T_icmp_ne (pc := 209) 215 dX12_edgesOf_209 (by decide) h (fun h => ?_) (fun h => ?_)
  · refine E_iload (pc := 215) rfl dX12_edgesOf_215 ?_
    refine E_bipush (pc := 217) (nI 6) (by decide) dX12_edgesOf_217 ?_
    refine T_icmp_ge (pc := 219) 251 dX12_edgesOf_219 (by decide) h (fun h => ?_) (fun h => ?_)
    · refine e_X12_edgesOf_251 (fun h => hk125 h) h
    · refine E_aload_n (pc := 222) rfl dX12_edgesOf_222 ?_
      refine R_getR (pc := 223) (b := 254) f12_28 dX12_edgesOf_223 (ent_st MO247) (by decide) rfl rfl ?_
      refine E_iload (pc := 226) rfl dX12_edgesOf_226 ?_
      refine T_iald (pc := 228) dX12_edgesOf_228 (ent_st MA254) (by decide) h (fun v32 h => ?_)
      refine E_iconst (pc := 229) 1 rfl dX12_edgesOf_229 ?_
      refine T_icmp_ne (pc := 230) 251 dX12_edgesOf_230 (by decide) h (fun h => ?_) (fun h => ?_)
      · refine e_X12_edgesOf_251 (fun h => hk125 h) h
      · refine E_aload_n (pc := 233) rfl dX12_edgesOf_233 ?_
        refine R_getR (pc := 234) (b := 268) f12_75 dX12_edgesOf_234 (ent_st MO247) (by decide) rfl rfl ?_
        refine E_iload (pc := 237) rfl dX12_edgesOf_237 ?_
        refine T_iald (pc := 239) dX12_edgesOf_239 (ent_st MA268) (by decide) h (fun v33 h => ?_)
        refine E_iload (pc := 240) rfl dX12_edgesOf_240 ?_
        refine E_ishr (pc := 242) dX12_edgesOf_242 ?_
        refine E_iconst (pc := 243) 1 rfl dX12_edgesOf_243 ?_
        refine E_iand (pc := 244) dX12_edgesOf_244 ?_
        refine T_if_ne (pc := 245) 251 dX12_edgesOf_245 (by decide) h (fun h => ?_) (fun h => ?_)
        · refine e_X12_edgesOf_251 (fun h => hk125 h) h
        · refine E_goto (pc := 248) 423 (by decide) dX12_edgesOf_248 ?_
          refine T_iinc (pc := 423) (m := 1) (L2 := [_, _, _, _, _, _, _, _, _]) rfl rfl rfl rfl dX12_edgesOf_423 ?_
          refine E_goto (pc := 426) 125 (by decide) dX12_edgesOf_426 ?_
          exact hk125 h
  · refine E_goto (pc := 212) 423 (by decide) dX12_edgesOf_212 ?_
    refine T_iinc (pc := 423) (m := 1) (L2 := [_, _, _, _, _, _, _, _, _]) rfl rfl rfl rfl dX12_edgesOf_423 ?_
    refine E_goto (pc := 426) 125 (by decide) dX12_edgesOf_426 ?_
    exact hk125 h
noncomputable def f_X12_edgesOf_167 (k125 : Int32 → Int32 → Int32 → Int32 → Int32 → ST → Option ST) (x1 : Int32) (x2 : Int32) (x3 : Int32) (x4 : Int32) (x5 : Int32) (sg : ST) : Option ST :=
    if x5 < (nI 6) then
    ((rdI sg 270 12 x1).bind fun v34 =>
    if v34 < 0 then
    (f_X12_edgesOf_197 k125 x1 x2 x3 x4 x5 sg)
    else ((rdI sg 270 12 x1).bind fun v35 =>
    if x5 = v35 then
    (f_X12_edgesOf_197 k125 x1 x2 x3 x4 x5 sg)
    else (k125 x1 x2 x3 x4 (x5 + nI 1) sg)))
    else (f_X12_edgesOf_197 k125 x1 x2 x3 x4 x5 sg)
theorem e_X12_edgesOf_167 {G : GP} {k125 : Int32 → Int32 → Int32 → Int32 → Int32 → ST → Option ST} {x1 : Int32} {x2 : Int32} {x3 : Int32} {x4 : Int32} {x5 : Int32} {sg : ST} {s : ST} (hk125 : ∀ {x1 : Int32} {x2 : Int32} {x3 : Int32} {x4 : Int32} {x5 : Int32} {sg : ST}, k125 x1 x2 x3 x4 x5 sg = some s → E G mX12_edgesOf (0, 0) 125 [.ref 247, .int x1, .int x2, .int x3, .int x4, .int x5, D0, D0, D0] [] (mem sg) (QV s)) (h : f_X12_edgesOf_167 k125 x1 x2 x3 x4 x5 sg = some s) : E G mX12_edgesOf (0, 0) 167 [.ref 247, .int x1, .int x2, .int x3, .int x4, .int x5, D0, D0, D0] [] (mem sg) (QV s) := by
  unfold f_X12_edgesOf_167 at h
  refine E_iload (pc := 167) rfl dX12_edgesOf_167 ?_
  refine E_bipush (pc := 169) (nI 6) (by decide) dX12_edgesOf_169 ?_
  refine T_icmp_ge (pc := 171) 197 dX12_edgesOf_171 (by decide) h (fun h => ?_) (fun h => ?_)
  · refine e_X12_edgesOf_197 (fun h => hk125 h) h
  · refine E_aload_n (pc := 174) rfl dX12_edgesOf_174 ?_
    refine R_getR (pc := 175) (b := 270) f12_81 dX12_edgesOf_175 (ent_st MO247) (by decide) rfl rfl ?_
    refine E_iload_n (pc := 178) rfl dX12_edgesOf_178 ?_
    refine T_iald (pc := 179) dX12_edgesOf_179 (ent_st MA270) (by decide) h (fun v34 h => ?_)
    refine T_if_lt (pc := 180) 197 dX12_edgesOf_180 (by decide) h (fun h => ?_) (fun h => ?_)
    · refine e_X12_edgesOf_197 (fun h => hk125 h) h
    · refine E_iload (pc := 183) rfl dX12_edgesOf_183 ?_
      refine E_aload_n (pc := 185) rfl dX12_edgesOf_185 ?_
      refine R_getR (pc := 186) (b := 270) f12_81 dX12_edgesOf_186 (ent_st MO247) (by decide) rfl rfl ?_
      refine E_iload_n (pc := 189) rfl dX12_edgesOf_189 ?_
      refine T_iald (pc := 190) dX12_edgesOf_190 (ent_st MA270) (by decide) h (fun v35 h => ?_)
      refine T_icmp_eq (pc := 191) 197 dX12_edgesOf_191 (by decide) h (fun h => ?_) (fun h => ?_)
      · refine e_X12_edgesOf_197 (fun h => hk125 h) h
      · refine E_goto (pc := 194) 423 (by decide) dX12_edgesOf_194 ?_
        refine T_iinc (pc := 423) (m := 1) (L2 := [_, _, _, _, _, _, _, _, _]) rfl rfl rfl rfl dX12_edgesOf_423 ?_
        refine E_goto (pc := 426) 125 (by decide) dX12_edgesOf_426 ?_
        exact hk125 h
noncomputable def f_X12_edgesOf_148 (k125 : Int32 → Int32 → Int32 → Int32 → Int32 → ST → Option ST) (x1 : Int32) (x2 : Int32) (x3 : Int32) (x4 : Int32) (x5 : Int32) (sg : ST) : Option ST :=
    if x5 = (nI 6) then
    ((rdI sg 270 12 x1).bind fun v36 =>
    if v36 < 0 then
    (f_X12_edgesOf_167 k125 x1 x2 x3 x4 x5 sg)
    else (k125 x1 x2 x3 x4 (x5 + nI 1) sg))
    else (f_X12_edgesOf_167 k125 x1 x2 x3 x4 x5 sg)
theorem e_X12_edgesOf_148 {G : GP} {k125 : Int32 → Int32 → Int32 → Int32 → Int32 → ST → Option ST} {x1 : Int32} {x2 : Int32} {x3 : Int32} {x4 : Int32} {x5 : Int32} {sg : ST} {s : ST} (hk125 : ∀ {x1 : Int32} {x2 : Int32} {x3 : Int32} {x4 : Int32} {x5 : Int32} {sg : ST}, k125 x1 x2 x3 x4 x5 sg = some s → E G mX12_edgesOf (0, 0) 125 [.ref 247, .int x1, .int x2, .int x3, .int x4, .int x5, D0, D0, D0] [] (mem sg) (QV s)) (h : f_X12_edgesOf_148 k125 x1 x2 x3 x4 x5 sg = some s) : E G mX12_edgesOf (0, 0) 148 [.ref 247, .int x1, .int x2, .int x3, .int x4, .int x5, D0, D0, D0] [] (mem sg) (QV s) := by
  unfold f_X12_edgesOf_148 at h
  refine E_iload (pc := 148) rfl dX12_edgesOf_148 ?_
  refine E_bipush (pc := 150) (nI 6) (by decide) dX12_edgesOf_150 ?_
  refine T_icmp_ne (pc := 152) 167 dX12_edgesOf_152 (by decide) h (fun h => ?_) (fun h => ?_)
  · refine e_X12_edgesOf_167 (fun h => hk125 h) h
  · refine E_aload_n (pc := 155) rfl dX12_edgesOf_155 ?_
    refine R_getR (pc := 156) (b := 270) f12_81 dX12_edgesOf_156 (ent_st MO247) (by decide) rfl rfl ?_
    refine E_iload_n (pc := 159) rfl dX12_edgesOf_159 ?_
    refine T_iald (pc := 160) dX12_edgesOf_160 (ent_st MA270) (by decide) h (fun v36 h => ?_)
    refine T_if_lt (pc := 161) 167 dX12_edgesOf_161 (by decide) h (fun h => ?_) (fun h => ?_)
    · refine e_X12_edgesOf_167 (fun h => hk125 h) h
    · refine E_goto (pc := 164) 423 (by decide) dX12_edgesOf_164 ?_
      refine T_iinc (pc := 423) (m := 1) (L2 := [_, _, _, _, _, _, _, _, _]) rfl rfl rfl rfl dX12_edgesOf_423 ?_
      refine E_goto (pc := 426) 125 (by decide) dX12_edgesOf_426 ?_
      exact hk125 h
noncomputable def f_X12_edgesOf_125 (k429 : Int32 → Int32 → Int32 → ST → Option ST) : Nat → Int32 → Int32 → Int32 → Int32 → Int32 → ST → Option ST
  | 0, _, _, _, _, _, _ => none
  | n + 1, x1, x2, x3, x4, x5, sg =>
    if x5 < (nI 7) then
    (if x5 < (nI 6) then
    (if x5 < (sg.1 247 4) then
    (f_X12_edgesOf_148 (f_X12_edgesOf_125 k429 n) x1 x2 x3 x4 x5 sg)
    else ((f_X12_edgesOf_125 k429 n) x1 x2 x3 x4 (x5 + nI 1) sg))
    else (f_X12_edgesOf_148 (f_X12_edgesOf_125 k429 n) x1 x2 x3 x4 x5 sg))
    else (k429 x1 x2 x3 sg)
theorem e_X12_edgesOf_125 {G : GP} {k429 : Int32 → Int32 → Int32 → ST → Option ST} {s : ST} (hk429 : ∀ {x1 : Int32} {x2 : Int32} {x3 : Int32} {sg : ST}, k429 x1 x2 x3 sg = some s → E G mX12_edgesOf (0, 0) 429 [.ref 247, .int x1, .int x2, .int x3, D0, D0, D0, D0, D0] [] (mem sg) (QV s)) : ∀ (n : Nat) {x1 : Int32} {x2 : Int32} {x3 : Int32} {x4 : Int32} {x5 : Int32} {sg : ST}, f_X12_edgesOf_125 k429 n x1 x2 x3 x4 x5 sg = some s → E G mX12_edgesOf (0, 0) 125 [.ref 247, .int x1, .int x2, .int x3, .int x4, .int x5, D0, D0, D0] [] (mem sg) (QV s) := by
  intro n
  induction n with
  | zero => intro _ _ _ _ _ _ h; rw [f_X12_edgesOf_125] at h; cases h
  | succ n ih =>
    intro x1 x2 x3 x4 x5 sg h
    rw [f_X12_edgesOf_125] at h
    refine E_iload (pc := 125) rfl dX12_edgesOf_125 ?_
    refine E_bipush (pc := 127) (nI 7) (by decide) dX12_edgesOf_127 ?_
    refine T_icmp_ge (pc := 129) 429 dX12_edgesOf_129 (by decide) h (fun h => ?_) (fun h => ?_)
    · refine E_kp [true, true, true, true, false, false, false, false, false] (L2 := [_, _, _, _, D0, D0, D0, D0, D0]) rfl rfl ?_
      exact hk429 h
    · refine E_iload (pc := 132) rfl dX12_edgesOf_132 ?_
      refine E_bipush (pc := 134) (nI 6) (by decide) dX12_edgesOf_134 ?_
      refine T_icmp_ge (pc := 136) 148 dX12_edgesOf_136 (by decide) h (fun h => ?_) (fun h => ?_)
      · refine e_X12_edgesOf_148 (fun h => ih h) h
      · refine E_iload (pc := 139) rfl dX12_edgesOf_139 ?_
        refine E_aload_n (pc := 141) rfl dX12_edgesOf_141 ?_
        refine R_getI (pc := 142) f12_162 dX12_edgesOf_142 (ent_st MO247) (by decide) rfl ?_
        refine T_icmp_ge (pc := 145) 423 dX12_edgesOf_145 (by decide) h (fun h => ?_) (fun h => ?_)
        · refine T_iinc (pc := 423) (m := 1) (L2 := [_, _, _, _, _, _, _, _, _]) rfl rfl rfl rfl dX12_edgesOf_423 ?_
          refine E_goto (pc := 426) 125 (by decide) dX12_edgesOf_426 ?_
          exact ih h
        · refine e_X12_edgesOf_148 (fun h => ih h) h
noncomputable def f_X12_edgesOf_122 (k19 : Int32 → Int32 → Int32 → ST → Option ST) (x1 : Int32) (x2 : Int32) (x3 : Int32) (x4 : Int32) (sg : ST) : Option ST :=
    f_X12_edgesOf_125 (fun x1_37 x2_38 x3_39 s40 =>
    k19 x1_37 x2_38 (x3_39 + nI 1) s40) FU x1 x2 x3 x4 (nI 0) sg
theorem e_X12_edgesOf_122 {G : GP} {k19 : Int32 → Int32 → Int32 → ST → Option ST} {x1 : Int32} {x2 : Int32} {x3 : Int32} {x4 : Int32} {sg : ST} {s : ST} (hk19 : ∀ {x1 : Int32} {x2 : Int32} {x3 : Int32} {sg : ST}, k19 x1 x2 x3 sg = some s → E G mX12_edgesOf (0, 0) 19 [.ref 247, .int x1, .int x2, .int x3, D0, D0, D0, D0, D0] [] (mem sg) (QV s)) (h : f_X12_edgesOf_122 k19 x1 x2 x3 x4 sg = some s) : E G mX12_edgesOf (0, 0) 122 [.ref 247, .int x1, .int x2, .int x3, .int x4, D0, D0, D0, D0] [] (mem sg) (QV s) := by
  unfold f_X12_edgesOf_122 at h
  refine E_iconst (pc := 122) 0 rfl dX12_edgesOf_122 ?_
  refine E_istore (pc := 123) (L2 := [_, _, _, _, _, _, _, _, _]) rfl rfl dX12_edgesOf_123 ?_
  refine e_X12_edgesOf_125 ?_ FU h
  · intro x1_37 x2_38 x3_39 s40 h
    refine T_iinc (pc := 429) (m := 1) (L2 := [_, _, _, _, _, _, _, _, _]) rfl rfl rfl rfl dX12_edgesOf_429 ?_
    refine E_goto (pc := 432) 19 (by decide) dX12_edgesOf_432 ?_
    exact hk19 h
noncomputable def f_X12_edgesOf_19 : Nat → Int32 → Int32 → Int32 → ST → Option ST
  | 0, _, _, _, _ => none
  | n + 1, x1, x2, x3, sg =>
    if x3 < ((nI 1) <<< ((sg.1 247 29) &&& 31)) then
    ((rdI sg 267 1024 ((x2 &&& (nI 255)) ||| (x3 <<< ((nI 8) &&& 31)))).bind fun v3 =>
    if v3 < 0 then
    ((f_X12_edgesOf_19 n) x1 x2 (x3 + nI 1) sg)
    else ((rdI sg 267 1024 ((x2 &&& (nI 255)) ||| (x3 <<< ((nI 8) &&& 31)))).bind fun v4 =>
    (rdI sg 272 12 x1).bind fun v5 =>
    (rdI sg 272 12 x1).bind fun v6 =>
    if (v4 &&& v5) = v6 then
    ((rdI sg 267 1024 ((x2 &&& (nI 255)) ||| (x3 <<< ((nI 8) &&& 31)))).bind fun v7 =>
    (rdI sg 273 12 x1).bind fun v8 =>
    if (v7 &&& v8) = 0 then
    ((rdI sg 274 12 x1).bind fun v9 =>
    if v9 = (-1) then
    (f_X12_edgesOf_122 (f_X12_edgesOf_19 n) x1 x2 x3 ((x2 &&& (nI 255)) ||| (x3 <<< ((nI 8) &&& 31))) sg)
    else ((rdI sg 274 12 x1).bind fun v41 =>
    if v41 = ((x2 >>> ((nI 5) &&& 31)) &&& (nI 7)) then
    (f_X12_edgesOf_122 (f_X12_edgesOf_19 n) x1 x2 x3 ((x2 &&& (nI 255)) ||| (x3 <<< ((nI 8) &&& 31))) sg)
    else ((f_X12_edgesOf_19 n) x1 x2 (x3 + nI 1) sg)))
    else ((f_X12_edgesOf_19 n) x1 x2 (x3 + nI 1) sg))
    else ((f_X12_edgesOf_19 n) x1 x2 (x3 + nI 1) sg)))
    else (some sg)
theorem e_X12_edgesOf_19 {G : GP} {s : ST}  : ∀ (n : Nat) {x1 : Int32} {x2 : Int32} {x3 : Int32} {sg : ST}, f_X12_edgesOf_19 n x1 x2 x3 sg = some s → E G mX12_edgesOf (0, 0) 19 [.ref 247, .int x1, .int x2, .int x3, D0, D0, D0, D0, D0] [] (mem sg) (QV s) := by
  intro n
  induction n with
  | zero => intro _ _ _ _ h; rw [f_X12_edgesOf_19] at h; cases h
  | succ n ih =>
    intro x1 x2 x3 sg h
    rw [f_X12_edgesOf_19] at h
    refine E_iload_n (pc := 19) rfl dX12_edgesOf_19 ?_
    refine E_iconst (pc := 20) 1 rfl dX12_edgesOf_20 ?_
    refine E_aload_n (pc := 21) rfl dX12_edgesOf_21 ?_
    refine R_getI (pc := 22) f12_243 dX12_edgesOf_22 (ent_st MO247) (by decide) rfl ?_
    refine E_ishl (pc := 25) dX12_edgesOf_25 ?_
    refine T_icmp_ge (pc := 26) 435 dX12_edgesOf_26 (by decide) h (fun h => ?_) (fun h => ?_)
    · exact E_return (pc := 435) rfl dX12_edgesOf_435 (QV_of h)
    · refine E_iload_n (pc := 29) rfl dX12_edgesOf_29 ?_
      refine E_sipush (pc := 30) (nI 255) (by decide) dX12_edgesOf_30 ?_
      refine E_iand (pc := 33) dX12_edgesOf_33 ?_
      refine E_iload_n (pc := 34) rfl dX12_edgesOf_34 ?_
      refine E_bipush (pc := 35) (nI 8) (by decide) dX12_edgesOf_35 ?_
      refine E_ishl (pc := 37) dX12_edgesOf_37 ?_
      refine E_ior (pc := 38) dX12_edgesOf_38 ?_
      refine E_istore (pc := 39) (L2 := [_, _, _, _, _, _, _, _, _]) rfl rfl dX12_edgesOf_39 ?_
      refine E_aload_n (pc := 41) rfl dX12_edgesOf_41 ?_
      refine R_getR (pc := 42) (b := 267) f12_72 dX12_edgesOf_42 (ent_st MO247) (by decide) rfl rfl ?_
      refine E_iload (pc := 45) rfl dX12_edgesOf_45 ?_
      refine T_iald (pc := 47) dX12_edgesOf_47 (ent_st MA267) (by decide) h (fun v3 h => ?_)
      refine T_if_lt (pc := 48) 429 dX12_edgesOf_48 (by decide) h (fun h => ?_) (fun h => ?_)
      · refine T_iinc (pc := 429) (m := 1) (L2 := [_, _, _, _, _, _, _, _, _]) rfl rfl rfl rfl dX12_edgesOf_429 ?_
        refine E_goto (pc := 432) 19 (by decide) dX12_edgesOf_432 ?_
        refine E_kp [true, true, true, true, false, false, false, false, false] (L2 := [_, _, _, _, D0, D0, D0, D0, D0]) rfl rfl ?_
        exact ih h
      · refine E_aload_n (pc := 51) rfl dX12_edgesOf_51 ?_
        refine R_getR (pc := 52) (b := 267) f12_72 dX12_edgesOf_52 (ent_st MO247) (by decide) rfl rfl ?_
        refine E_iload (pc := 55) rfl dX12_edgesOf_55 ?_
        refine T_iald (pc := 57) dX12_edgesOf_57 (ent_st MA267) (by decide) h (fun v4 h => ?_)
        refine E_aload_n (pc := 58) rfl dX12_edgesOf_58 ?_
        refine R_getR (pc := 59) (b := 272) f12_87 dX12_edgesOf_59 (ent_st MO247) (by decide) rfl rfl ?_
        refine E_iload_n (pc := 62) rfl dX12_edgesOf_62 ?_
        refine T_iald (pc := 63) dX12_edgesOf_63 (ent_st MA272) (by decide) h (fun v5 h => ?_)
        refine E_iand (pc := 64) dX12_edgesOf_64 ?_
        refine E_aload_n (pc := 65) rfl dX12_edgesOf_65 ?_
        refine R_getR (pc := 66) (b := 272) f12_87 dX12_edgesOf_66 (ent_st MO247) (by decide) rfl rfl ?_
        refine E_iload_n (pc := 69) rfl dX12_edgesOf_69 ?_
        refine T_iald (pc := 70) dX12_edgesOf_70 (ent_st MA272) (by decide) h (fun v6 h => ?_)
        refine T_icmp_ne (pc := 71) 429 dX12_edgesOf_71 (by decide) h (fun h => ?_) (fun h => ?_)
        · refine T_iinc (pc := 429) (m := 1) (L2 := [_, _, _, _, _, _, _, _, _]) rfl rfl rfl rfl dX12_edgesOf_429 ?_
          refine E_goto (pc := 432) 19 (by decide) dX12_edgesOf_432 ?_
          refine E_kp [true, true, true, true, false, false, false, false, false] (L2 := [_, _, _, _, D0, D0, D0, D0, D0]) rfl rfl ?_
          exact ih h
        · refine E_aload_n (pc := 74) rfl dX12_edgesOf_74 ?_
          refine R_getR (pc := 75) (b := 267) f12_72 dX12_edgesOf_75 (ent_st MO247) (by decide) rfl rfl ?_
          refine E_iload (pc := 78) rfl dX12_edgesOf_78 ?_
          refine T_iald (pc := 80) dX12_edgesOf_80 (ent_st MA267) (by decide) h (fun v7 h => ?_)
          refine E_aload_n (pc := 81) rfl dX12_edgesOf_81 ?_
          refine R_getR (pc := 82) (b := 273) f12_90 dX12_edgesOf_82 (ent_st MO247) (by decide) rfl rfl ?_
          refine E_iload_n (pc := 85) rfl dX12_edgesOf_85 ?_
          refine T_iald (pc := 86) dX12_edgesOf_86 (ent_st MA273) (by decide) h (fun v8 h => ?_)
          refine E_iand (pc := 87) dX12_edgesOf_87 ?_
          refine T_if_eq (pc := 88) 94 dX12_edgesOf_88 (by decide) h (fun h => ?_) (fun h => ?_)
          · refine E_aload_n (pc := 94) rfl dX12_edgesOf_94 ?_
            refine R_getR (pc := 95) (b := 274) f12_93 dX12_edgesOf_95 (ent_st MO247) (by decide) rfl rfl ?_
            refine E_iload_n (pc := 98) rfl dX12_edgesOf_98 ?_
            refine T_iald (pc := 99) dX12_edgesOf_99 (ent_st MA274) (by decide) h (fun v9 h => ?_)
            refine E_im1 (pc := 100) dX12_edgesOf_100 ?_
            refine T_icmp_eq (pc := 101) 122 dX12_edgesOf_101 (by decide) h (fun h => ?_) (fun h => ?_)
            · refine e_X12_edgesOf_122 (fun h => ih h) h
            · refine E_aload_n (pc := 104) rfl dX12_edgesOf_104 ?_
              refine R_getR (pc := 105) (b := 274) f12_93 dX12_edgesOf_105 (ent_st MO247) (by decide) rfl rfl ?_
              refine E_iload_n (pc := 108) rfl dX12_edgesOf_108 ?_
              refine T_iald (pc := 109) dX12_edgesOf_109 (ent_st MA274) (by decide) h (fun v41 h => ?_)
              refine E_iload_n (pc := 110) rfl dX12_edgesOf_110 ?_
              refine E_iconst (pc := 111) 5 rfl dX12_edgesOf_111 ?_
              refine E_ishr (pc := 112) dX12_edgesOf_112 ?_
              refine E_bipush (pc := 113) (nI 7) (by decide) dX12_edgesOf_113 ?_
              refine E_iand (pc := 115) dX12_edgesOf_115 ?_
              refine T_icmp_eq (pc := 116) 122 dX12_edgesOf_116 (by decide) h (fun h => ?_) (fun h => ?_)
              · refine e_X12_edgesOf_122 (fun h => ih h) h
              · refine E_goto (pc := 119) 429 (by decide) dX12_edgesOf_119 ?_
                refine T_iinc (pc := 429) (m := 1) (L2 := [_, _, _, _, _, _, _, _, _]) rfl rfl rfl rfl dX12_edgesOf_429 ?_
                refine E_goto (pc := 432) 19 (by decide) dX12_edgesOf_432 ?_
                refine E_kp [true, true, true, true, false, false, false, false, false] (L2 := [_, _, _, _, D0, D0, D0, D0, D0]) rfl rfl ?_
                exact ih h
          · refine E_goto (pc := 91) 429 (by decide) dX12_edgesOf_91 ?_
            refine T_iinc (pc := 429) (m := 1) (L2 := [_, _, _, _, _, _, _, _, _]) rfl rfl rfl rfl dX12_edgesOf_429 ?_
            refine E_goto (pc := 432) 19 (by decide) dX12_edgesOf_432 ?_
            refine E_kp [true, true, true, true, false, false, false, false, false] (L2 := [_, _, _, _, D0, D0, D0, D0, D0]) rfl rfl ?_
            exact ih h
noncomputable def f_X12_edgesOf (x1 : Int32) (x2 : Int32) (σ : ST) : Option ST :=
    (pfI σ 247 40 (nI 0)).bind fun s1 =>
    (rdI s1 270 12 x1).bind fun v2 =>
    if v2 = (-2) then
    (some s1)
    else (f_X12_edgesOf_19 FU x1 x2 (nI 0) s1)
theorem e_X12_edgesOf {G : GP} {x1 : Int32} {x2 : Int32} {σ : ST} {s : ST}  (h : f_X12_edgesOf x1 x2 σ = some s) : E G mX12_edgesOf (0, 0) 0 [.ref 247, .int x1, .int x2, D0, D0, D0, D0, D0, D0] [] (mem σ) (QV s) := by
  unfold f_X12_edgesOf at h
  refine E_aload_n (pc := 0) rfl dX12_edgesOf_0 ?_
  refine E_iconst (pc := 1) 0 rfl dX12_edgesOf_1 ?_
  refine T_putI (pc := 2) f12_264 dX12_edgesOf_2 (ent_st MO247) (by decide) rfl (by decide +kernel) h (fun s1 h => ?_)
  refine E_aload_n (pc := 5) rfl dX12_edgesOf_5 ?_
  refine R_getR (pc := 6) (b := 270) f12_81 dX12_edgesOf_6 (ent_st MO247) (by decide) rfl rfl ?_
  refine E_iload_n (pc := 9) rfl dX12_edgesOf_9 ?_
  refine T_iald (pc := 10) dX12_edgesOf_10 (ent_st MA270) (by decide) h (fun v2 h => ?_)
  refine E_bipush (pc := 11) (-2) (by decide) dX12_edgesOf_11 ?_
  refine T_icmp_ne (pc := 13) 17 dX12_edgesOf_13 (by decide) h (fun h => ?_) (fun h => ?_)
  · refine E_iconst (pc := 17) 0 rfl dX12_edgesOf_17 ?_
    refine E_istore_n (pc := 18) (L2 := [_, _, _, _, _, _, _, _, _]) rfl rfl dX12_edgesOf_18 ?_
    refine e_X12_edgesOf_19  FU h
  · exact E_return (pc := 16) rfl dX12_edgesOf_16 (QV_of h)
noncomputable def f_X12_solve_14 (k48 : ST → Option (Int32 × ST)) : Nat → Int32 → ST → Option (Int32 × ST)
  | 0, _, _ => none
  | n + 1, x4, sg =>
    if x4 < (nI 13312) then
    ((wrI sg 276 13312 x4 (nI 100000000)).bind fun s3 =>
    (wrI s3 277 13312 x4 (nI 100000000)).bind fun s4 =>
    (f_X12_solve_14 k48 n) (x4 + nI 1) s4)
    else (k48 sg)
theorem e_X12_solve_14 {G : GP} {k48 : ST → Option (Int32 × ST)} {v : Int32} {s : ST} (hk48 : ∀ {sg : ST}, k48 sg = some (v, s) → E G mX12_solve (2, 61) 48 [.ref 247, D0, D0, D0, D0, D0, D0, D0, D0] [] (mem sg) (QI v s)) : ∀ (n : Nat) {x4 : Int32} {sg : ST}, f_X12_solve_14 k48 n x4 sg = some (v, s) → E G mX12_solve (2, 61) 14 [.ref 247, D0, D0, D0, .int x4, D0, D0, D0, D0] [] (mem sg) (QI v s) := by
  intro n
  induction n with
  | zero => intro _ _ h; rw [f_X12_solve_14] at h; cases h
  | succ n ih =>
    intro x4 sg h
    rw [f_X12_solve_14] at h
    refine E_iload (pc := 14) rfl dX12_solve_14 ?_
    refine E_sipush (pc := 16) (nI 13312) (by decide) dX12_solve_16 ?_
    refine T_icmp_ge (pc := 19) 48 dX12_solve_19 (by decide) h (fun h => ?_) (fun h => ?_)
    · refine E_kp [true, false, false, false, false, false, false, false, false] (L2 := [_, D0, D0, D0, D0, D0, D0, D0, D0]) rfl rfl ?_
      exact hk48 h
    · refine E_aload_n (pc := 22) rfl dX12_solve_22 ?_
      refine R_getR (pc := 23) (b := 276) f12_99 dX12_solve_23 (ent_st MO247) (by decide) rfl rfl ?_
      refine E_iload (pc := 26) rfl dX12_solve_26 ?_
      refine E_ldcw (pc := 28) (v := nI 100000000) q12_274 dX12_solve_28 ?_
      refine T_iast (pc := 31) dX12_solve_31 (ent_st MA276) (by decide) h (fun s3 h => ?_)
      refine E_aload_n (pc := 32) rfl dX12_solve_32 ?_
      refine R_getR (pc := 33) (b := 277) f12_102 dX12_solve_33 (ent_st MO247) (by decide) rfl rfl ?_
      refine E_iload (pc := 36) rfl dX12_solve_36 ?_
      refine E_ldcw (pc := 38) (v := nI 100000000) q12_274 dX12_solve_38 ?_
      refine T_iast (pc := 41) dX12_solve_41 (ent_st MA277) (by decide) h (fun s4 h => ?_)
      refine T_iinc (pc := 42) (m := 1) (L2 := [_, _, _, _, _, _, _, _, _]) rfl rfl rfl rfl dX12_solve_42 ?_
      refine E_goto (pc := 45) 14 (by decide) dX12_solve_45 ?_
      exact ih h
noncomputable def f_X12_solve_51 (k76 : ST → Option (Int32 × ST)) : Nat → Int32 → ST → Option (Int32 × ST)
  | 0, _, _ => none
  | n + 1, x4, sg =>
    if x4 < ((nI 1) <<< ((sg.1 247 28) &&& 31)) then
    ((wrI sg 276 13312 x4 (nI 0)).bind fun s6 =>
    (f_X12_solve_51 k76 n) (x4 + nI 1) s6)
    else (k76 sg)
theorem e_X12_solve_51 {G : GP} {k76 : ST → Option (Int32 × ST)} {v : Int32} {s : ST} (hk76 : ∀ {sg : ST}, k76 sg = some (v, s) → E G mX12_solve (2, 61) 76 [.ref 247, D0, D0, D0, D0, D0, D0, D0, D0] [] (mem sg) (QI v s)) : ∀ (n : Nat) {x4 : Int32} {sg : ST}, f_X12_solve_51 k76 n x4 sg = some (v, s) → E G mX12_solve (2, 61) 51 [.ref 247, D0, D0, D0, .int x4, D0, D0, D0, D0] [] (mem sg) (QI v s) := by
  intro n
  induction n with
  | zero => intro _ _ h; rw [f_X12_solve_51] at h; cases h
  | succ n ih =>
    intro x4 sg h
    rw [f_X12_solve_51] at h
    refine E_iload (pc := 51) rfl dX12_solve_51 ?_
    refine E_iconst (pc := 53) 1 rfl dX12_solve_53 ?_
    refine E_aload_n (pc := 54) rfl dX12_solve_54 ?_
    refine R_getI (pc := 55) f12_240 dX12_solve_55 (ent_st MO247) (by decide) rfl ?_
    refine E_ishl (pc := 58) dX12_solve_58 ?_
    refine T_icmp_ge (pc := 59) 76 dX12_solve_59 (by decide) h (fun h => ?_) (fun h => ?_)
    · refine E_kp [true, false, false, false, false, false, false, false, false] (L2 := [_, D0, D0, D0, D0, D0, D0, D0, D0]) rfl rfl ?_
      exact hk76 h
    · refine E_aload_n (pc := 62) rfl dX12_solve_62 ?_
      refine R_getR (pc := 63) (b := 276) f12_99 dX12_solve_63 (ent_st MO247) (by decide) rfl rfl ?_
      refine E_iload (pc := 66) rfl dX12_solve_66 ?_
      refine E_iconst (pc := 68) 0 rfl dX12_solve_68 ?_
      refine T_iast (pc := 69) dX12_solve_69 (ent_st MA276) (by decide) h (fun s6 h => ?_)
      refine T_iinc (pc := 70) (m := 1) (L2 := [_, _, _, _, _, _, _, _, _]) rfl rfl rfl rfl dX12_solve_70 ?_
      refine E_goto (pc := 73) 51 (by decide) dX12_solve_73 ?_
      exact ih h
noncomputable def f_X12_solve_135 (k195 : Int32 → Int32 → ST → Option (Int32 × ST)) : Nat → Int32 → Int32 → Int32 → Int32 → ST → Option (Int32 × ST)
  | 0, _, _, _, _, _ => none
  | n + 1, x4, x5, x6, x7, sg =>
    if x7 < (sg.1 247 40) then
    ((rdI sg 280 28 x7).bind fun v10 =>
    (rdI sg 276 13312 (((nI 1024) * (x4 + (nI 1))) + v10)).bind fun v11 =>
    (rdI sg 281 28 x7).bind fun v12 =>
    (wrI sg 276 13312 (((nI 1024) * (x4 + (nI 1))) + v10) (if (x6 + v12) < v11 then (x6 + v12) else v11)).bind fun s13 =>
    (f_X12_solve_135 k195 n) x4 x5 x6 (x7 + nI 1) s13)
    else (k195 x4 x5 sg)
theorem e_X12_solve_135 {G : GP} {k195 : Int32 → Int32 → ST → Option (Int32 × ST)} {v : Int32} {s : ST} (hk195 : ∀ {x4 : Int32} {x5 : Int32} {sg : ST}, k195 x4 x5 sg = some (v, s) → E G mX12_solve (2, 61) 195 [.ref 247, D0, D0, D0, .int x4, .int x5, D0, D0, D0] [] (mem sg) (QI v s)) : ∀ (n : Nat) {x4 : Int32} {x5 : Int32} {x6 : Int32} {x7 : Int32} {sg : ST}, f_X12_solve_135 k195 n x4 x5 x6 x7 sg = some (v, s) → E G mX12_solve (2, 61) 135 [.ref 247, D0, D0, D0, .int x4, .int x5, .int x6, .int x7, D0] [] (mem sg) (QI v s) := by
  intro n
  induction n with
  | zero => intro _ _ _ _ _ h; rw [f_X12_solve_135] at h; cases h
  | succ n ih =>
    intro x4 x5 x6 x7 sg h
    rw [f_X12_solve_135] at h
    refine E_iload (pc := 135) rfl dX12_solve_135 ?_
    refine E_aload_n (pc := 137) rfl dX12_solve_137 ?_
    refine R_getI (pc := 138) f12_264 dX12_solve_138 (ent_st MO247) (by decide) rfl ?_
    refine T_icmp_ge (pc := 141) 195 dX12_solve_141 (by decide) h (fun h => ?_) (fun h => ?_)
    · refine E_kp [true, false, false, false, true, true, false, false, false] (L2 := [_, D0, D0, D0, _, _, D0, D0, D0]) rfl rfl ?_
      exact hk195 h
    · refine E_sipush (pc := 144) (nI 1024) (by decide) dX12_solve_144 ?_
      refine E_iload (pc := 147) rfl dX12_solve_147 ?_
      refine E_iconst (pc := 149) 1 rfl dX12_solve_149 ?_
      refine E_iadd (pc := 150) dX12_solve_150 ?_
      refine E_imul (pc := 151) dX12_solve_151 ?_
      refine E_aload_n (pc := 152) rfl dX12_solve_152 ?_
      refine R_getR (pc := 153) (b := 280) f12_111 dX12_solve_153 (ent_st MO247) (by decide) rfl rfl ?_
      refine E_iload (pc := 156) rfl dX12_solve_156 ?_
      refine T_iald (pc := 158) dX12_solve_158 (ent_st MA280) (by decide) h (fun v10 h => ?_)
      refine E_iadd (pc := 159) dX12_solve_159 ?_
      refine E_istore (pc := 160) (L2 := [_, _, _, _, _, _, _, _, _]) rfl rfl dX12_solve_160 ?_
      refine E_aload_n (pc := 162) rfl dX12_solve_162 ?_
      refine R_getR (pc := 163) (b := 276) f12_99 dX12_solve_163 (ent_st MO247) (by decide) rfl rfl ?_
      refine E_iload (pc := 166) rfl dX12_solve_166 ?_
      refine E_aload_n (pc := 168) rfl dX12_solve_168 ?_
      refine R_getR (pc := 169) (b := 276) f12_99 dX12_solve_169 (ent_st MO247) (by decide) rfl rfl ?_
      refine E_iload (pc := 172) rfl dX12_solve_172 ?_
      refine T_iald (pc := 174) dX12_solve_174 (ent_st MA276) (by decide) h (fun v11 h => ?_)
      refine E_iload (pc := 175) rfl dX12_solve_175 ?_
      refine E_aload_n (pc := 177) rfl dX12_solve_177 ?_
      refine R_getR (pc := 178) (b := 281) f12_114 dX12_solve_178 (ent_st MO247) (by decide) rfl rfl ?_
      refine E_iload (pc := 181) rfl dX12_solve_181 ?_
      refine T_iald (pc := 183) dX12_solve_183 (ent_st MA281) (by decide) h (fun v12 h => ?_)
      refine E_iadd (pc := 184) dX12_solve_184 ?_
      refine E_mmin (pc := 185) (by decide +kernel) (by decide) (Nat.le_of_ble_eq_true rfl) dX12_solve_185 ?_
      refine T_iast (pc := 188) dX12_solve_188 (ent_st MA276) (by decide) h (fun s13 h => ?_)
      refine T_iinc (pc := 189) (m := 1) (L2 := [_, _, _, _, _, _, _, _, _]) rfl rfl rfl rfl dX12_solve_189 ?_
      refine E_goto (pc := 192) 135 (by decide) dX12_solve_192 ?_
      refine E_kp [true, false, false, false, true, true, true, true, false] (L2 := [_, D0, D0, D0, _, _, _, _, D0]) rfl rfl ?_
      exact ih h
noncomputable def f_X12_solve_89 (k201 : Int32 → ST → Option (Int32 × ST)) : Nat → Int32 → Int32 → ST → Option (Int32 × ST)
  | 0, _, _, _ => none
  | n + 1, x4, x5, sg =>
    if x5 < (nI 1024) then
    ((rdI sg 276 13312 (((nI 1024) * x4) + x5)).bind fun v8 =>
    if v8 = (nI 100000000) then
    ((f_X12_solve_89 k201 n) x4 (x5 + nI 1) sg)
    else ((f_X12_edgesOf x4 x5 sg).bind fun s9 =>
    f_X12_solve_135 (fun x4_14 x5_15 s16 =>
    (f_X12_solve_89 k201 n) x4_14 (x5_15 + nI 1) s16) FU x4 x5 v8 (nI 0) s9))
    else (k201 x4 sg)
theorem e_X12_solve_89 {G : GP} {k201 : Int32 → ST → Option (Int32 × ST)} {v : Int32} {s : ST} (hk201 : ∀ {x4 : Int32} {sg : ST}, k201 x4 sg = some (v, s) → E G mX12_solve (2, 61) 201 [.ref 247, D0, D0, D0, .int x4, D0, D0, D0, D0] [] (mem sg) (QI v s)) : ∀ (n : Nat) {x4 : Int32} {x5 : Int32} {sg : ST}, f_X12_solve_89 k201 n x4 x5 sg = some (v, s) → E G mX12_solve (2, 61) 89 [.ref 247, D0, D0, D0, .int x4, .int x5, D0, D0, D0] [] (mem sg) (QI v s) := by
  intro n
  induction n with
  | zero => intro _ _ _ h; rw [f_X12_solve_89] at h; cases h
  | succ n ih =>
    intro x4 x5 sg h
    rw [f_X12_solve_89] at h
    refine E_iload (pc := 89) rfl dX12_solve_89 ?_
    refine E_sipush (pc := 91) (nI 1024) (by decide) dX12_solve_91 ?_
    refine T_icmp_ge (pc := 94) 201 dX12_solve_94 (by decide) h (fun h => ?_) (fun h => ?_)
    · refine E_kp [true, false, false, false, true, false, false, false, false] (L2 := [_, D0, D0, D0, _, D0, D0, D0, D0]) rfl rfl ?_
      exact hk201 h
    · refine E_aload_n (pc := 97) rfl dX12_solve_97 ?_
      refine R_getR (pc := 98) (b := 276) f12_99 dX12_solve_98 (ent_st MO247) (by decide) rfl rfl ?_
      refine E_sipush (pc := 101) (nI 1024) (by decide) dX12_solve_101 ?_
      refine E_iload (pc := 104) rfl dX12_solve_104 ?_
      refine E_imul (pc := 106) dX12_solve_106 ?_
      refine E_iload (pc := 107) rfl dX12_solve_107 ?_
      refine E_iadd (pc := 109) dX12_solve_109 ?_
      refine T_iald (pc := 110) dX12_solve_110 (ent_st MA276) (by decide) h (fun v8 h => ?_)
      refine E_istore (pc := 111) (L2 := [_, _, _, _, _, _, _, _, _]) rfl rfl dX12_solve_111 ?_
      refine E_iload (pc := 113) rfl dX12_solve_113 ?_
      refine E_ldcw (pc := 115) (v := nI 100000000) q12_274 dX12_solve_115 ?_
      refine T_icmp_ne (pc := 118) 124 dX12_solve_118 (by decide) h (fun h => ?_) (fun h => ?_)
      · refine E_aload_n (pc := 124) rfl dX12_solve_124 ?_
        refine E_iload (pc := 125) rfl dX12_solve_125 ?_
        refine E_iload (pc := 127) rfl dX12_solve_127 ?_
        obtain ⟨s9, hp, h⟩ := bd_some h
        refine E_callV (pc := 129) (As := [_, _]) (fc := (0, 0)) s12_275_12 oX12_edgesOf dX12_solve_129 (mem_ob (ent_st MO247)) rfl rfl (Nat.le_of_ble_eq_true rfl) rfl rfl (by decide) (e_X12_edgesOf hp) (fun rv_ M_ hq_ => ?_)
        obtain ⟨rfl, rfl⟩ := hq_
        refine E_iconst (pc := 132) 0 rfl dX12_solve_132 ?_
        refine E_istore (pc := 133) (L2 := [_, _, _, _, _, _, _, _, _]) rfl rfl dX12_solve_133 ?_
        refine e_X12_solve_135 ?_ FU h
        · intro x4_14 x5_15 s16 h
          refine T_iinc (pc := 195) (m := 1) (L2 := [_, _, _, _, _, _, _, _, _]) rfl rfl rfl rfl dX12_solve_195 ?_
          refine E_goto (pc := 198) 89 (by decide) dX12_solve_198 ?_
          exact ih h
      · refine E_goto (pc := 121) 195 (by decide) dX12_solve_121 ?_
        refine T_iinc (pc := 195) (m := 1) (L2 := [_, _, _, _, _, _, _, _, _]) rfl rfl rfl rfl dX12_solve_195 ?_
        refine E_goto (pc := 198) 89 (by decide) dX12_solve_198 ?_
        refine E_kp [true, false, false, false, true, true, false, false, false] (L2 := [_, D0, D0, D0, _, _, D0, D0, D0]) rfl rfl ?_
        exact ih h
noncomputable def f_X12_solve_79 (k207 : ST → Option (Int32 × ST)) : Nat → Int32 → ST → Option (Int32 × ST)
  | 0, _, _ => none
  | n + 1, x4, sg =>
    if x4 < (nI 12) then
    (f_X12_solve_89 (fun x4_17 s18 =>
    (f_X12_solve_79 k207 n) (x4_17 + nI 1) s18) FU x4 (nI 0) sg)
    else (k207 sg)
theorem e_X12_solve_79 {G : GP} {k207 : ST → Option (Int32 × ST)} {v : Int32} {s : ST} (hk207 : ∀ {sg : ST}, k207 sg = some (v, s) → E G mX12_solve (2, 61) 207 [.ref 247, D0, D0, D0, D0, D0, D0, D0, D0] [] (mem sg) (QI v s)) : ∀ (n : Nat) {x4 : Int32} {sg : ST}, f_X12_solve_79 k207 n x4 sg = some (v, s) → E G mX12_solve (2, 61) 79 [.ref 247, D0, D0, D0, .int x4, D0, D0, D0, D0] [] (mem sg) (QI v s) := by
  intro n
  induction n with
  | zero => intro _ _ h; rw [f_X12_solve_79] at h; cases h
  | succ n ih =>
    intro x4 sg h
    rw [f_X12_solve_79] at h
    refine E_iload (pc := 79) rfl dX12_solve_79 ?_
    refine E_bipush (pc := 81) (nI 12) (by decide) dX12_solve_81 ?_
    refine T_icmp_ge (pc := 83) 207 dX12_solve_83 (by decide) h (fun h => ?_) (fun h => ?_)
    · refine E_kp [true, false, false, false, false, false, false, false, false] (L2 := [_, D0, D0, D0, D0, D0, D0, D0, D0]) rfl rfl ?_
      exact hk207 h
    · refine E_iconst (pc := 86) 0 rfl dX12_solve_86 ?_
      refine E_istore (pc := 87) (L2 := [_, _, _, _, _, _, _, _, _]) rfl rfl dX12_solve_87 ?_
      refine e_X12_solve_89 ?_ FU h
      · intro x4_17 s18 h
        refine T_iinc (pc := 201) (m := 1) (L2 := [_, _, _, _, _, _, _, _, _]) rfl rfl rfl rfl dX12_solve_201 ?_
        refine E_goto (pc := 204) 79 (by decide) dX12_solve_204 ?_
        exact ih h
noncomputable def f_X12_solve_227 (k288 : ST → Option (Int32 × ST)) : Nat → Int32 → Int32 → ST → Option (Int32 × ST)
  | 0, _, _, _ => none
  | n + 1, x4, x5, sg =>
    if x5 < (nI 1024) then
    (if (x5 >>> ((nI 8) &&& 31)) = x4 then
    ((wrI sg 277 13312 ((nI 12288) + x5) (nI 0)).bind fun s21 =>
    (rdI s21 276 13312 ((nI 12288) + x5)).bind fun v22 =>
    (pfI s21 247 39 (if v22 < (s21.1 247 39) then v22 else (s21.1 247 39))).bind fun s23 =>
    (f_X12_solve_227 k288 n) x4 (x5 + nI 1) s23)
    else ((f_X12_solve_227 k288 n) x4 (x5 + nI 1) sg))
    else (k288 sg)
theorem e_X12_solve_227 {G : GP} {k288 : ST → Option (Int32 × ST)} {v : Int32} {s : ST} (hk288 : ∀ {sg : ST}, k288 sg = some (v, s) → E G mX12_solve (2, 61) 288 [.ref 247, D0, D0, D0, D0, D0, D0, D0, D0] [] (mem sg) (QI v s)) : ∀ (n : Nat) {x4 : Int32} {x5 : Int32} {sg : ST}, f_X12_solve_227 k288 n x4 x5 sg = some (v, s) → E G mX12_solve (2, 61) 227 [.ref 247, D0, D0, D0, .int x4, .int x5, D0, D0, D0] [] (mem sg) (QI v s) := by
  intro n
  induction n with
  | zero => intro _ _ _ h; rw [f_X12_solve_227] at h; cases h
  | succ n ih =>
    intro x4 x5 sg h
    rw [f_X12_solve_227] at h
    refine E_iload (pc := 227) rfl dX12_solve_227 ?_
    refine E_sipush (pc := 229) (nI 1024) (by decide) dX12_solve_229 ?_
    refine T_icmp_ge (pc := 232) 288 dX12_solve_232 (by decide) h (fun h => ?_) (fun h => ?_)
    · refine E_kp [true, false, false, false, false, false, false, false, false] (L2 := [_, D0, D0, D0, D0, D0, D0, D0, D0]) rfl rfl ?_
      exact hk288 h
    · refine E_iload (pc := 235) rfl dX12_solve_235 ?_
      refine E_bipush (pc := 237) (nI 8) (by decide) dX12_solve_237 ?_
      refine E_ishr (pc := 239) dX12_solve_239 ?_
      refine E_iload (pc := 240) rfl dX12_solve_240 ?_
      refine T_icmp_eq (pc := 242) 248 dX12_solve_242 (by decide) h (fun h => ?_) (fun h => ?_)
      · refine E_aload_n (pc := 248) rfl dX12_solve_248 ?_
        refine R_getR (pc := 249) (b := 277) f12_102 dX12_solve_249 (ent_st MO247) (by decide) rfl rfl ?_
        refine E_sipush (pc := 252) (nI 12288) (by decide) dX12_solve_252 ?_
        refine E_iload (pc := 255) rfl dX12_solve_255 ?_
        refine E_iadd (pc := 257) dX12_solve_257 ?_
        refine E_iconst (pc := 258) 0 rfl dX12_solve_258 ?_
        refine T_iast (pc := 259) dX12_solve_259 (ent_st MA277) (by decide) h (fun s21 h => ?_)
        refine E_aload_n (pc := 260) rfl dX12_solve_260 ?_
        refine E_aload_n (pc := 261) rfl dX12_solve_261 ?_
        refine R_getI (pc := 262) f12_283 dX12_solve_262 (ent_st MO247) (by decide) rfl ?_
        refine E_aload_n (pc := 265) rfl dX12_solve_265 ?_
        refine R_getR (pc := 266) (b := 276) f12_99 dX12_solve_266 (ent_st MO247) (by decide) rfl rfl ?_
        refine E_sipush (pc := 269) (nI 12288) (by decide) dX12_solve_269 ?_
        refine E_iload (pc := 272) rfl dX12_solve_272 ?_
        refine E_iadd (pc := 274) dX12_solve_274 ?_
        refine T_iald (pc := 275) dX12_solve_275 (ent_st MA276) (by decide) h (fun v22 h => ?_)
        refine E_mmin (pc := 276) (by decide +kernel) (by decide) (Nat.le_of_ble_eq_true rfl) dX12_solve_276 ?_
        refine T_putI (pc := 279) f12_283 dX12_solve_279 (ent_st MO247) (by decide) rfl (by decide +kernel) h (fun s23 h => ?_)
        refine T_iinc (pc := 282) (m := 1) (L2 := [_, _, _, _, _, _, _, _, _]) rfl rfl rfl rfl dX12_solve_282 ?_
        refine E_goto (pc := 285) 227 (by decide) dX12_solve_285 ?_
        exact ih h
      · refine E_goto (pc := 245) 282 (by decide) dX12_solve_245 ?_
        refine T_iinc (pc := 282) (m := 1) (L2 := [_, _, _, _, _, _, _, _, _]) rfl rfl rfl rfl dX12_solve_282 ?_
        refine E_goto (pc := 285) 227 (by decide) dX12_solve_285 ?_
        exact ih h
noncomputable def f_X12_solve_354 (k435 : Int32 → Int32 → ST → Option (Int32 × ST)) : Nat → Int32 → Int32 → Int32 → ST → Option (Int32 × ST)
  | 0, _, _, _, _ => none
  | n + 1, x5, x6, x7, sg =>
    if x7 < (sg.1 247 40) then
    ((rdI sg 280 28 x7).bind fun v27 =>
    (rdI sg 277 13312 (((nI 1024) * (x5 + (nI 1))) + v27)).bind fun v28 =>
    (rdI sg 281 28 x7).bind fun v29 =>
    (rdI sg 277 13312 (((nI 1024) * x5) + x6)).bind fun v30 =>
    if (v28 + v29) < v30 then
    ((wrI sg 277 13312 (((nI 1024) * x5) + x6) (v28 + v29)).bind fun s31 =>
    (f_X12_solve_354 k435 n) x5 x6 (x7 + nI 1) s31)
    else ((f_X12_solve_354 k435 n) x5 x6 (x7 + nI 1) sg))
    else (k435 x5 x6 sg)
theorem e_X12_solve_354 {G : GP} {k435 : Int32 → Int32 → ST → Option (Int32 × ST)} {v : Int32} {s : ST} (hk435 : ∀ {x5 : Int32} {x6 : Int32} {sg : ST}, k435 x5 x6 sg = some (v, s) → E G mX12_solve (2, 61) 435 [.ref 247, D0, D0, D0, D0, .int x5, .int x6, D0, D0] [] (mem sg) (QI v s)) : ∀ (n : Nat) {x5 : Int32} {x6 : Int32} {x7 : Int32} {sg : ST}, f_X12_solve_354 k435 n x5 x6 x7 sg = some (v, s) → E G mX12_solve (2, 61) 354 [.ref 247, D0, D0, D0, D0, .int x5, .int x6, .int x7, D0] [] (mem sg) (QI v s) := by
  intro n
  induction n with
  | zero => intro _ _ _ _ h; rw [f_X12_solve_354] at h; cases h
  | succ n ih =>
    intro x5 x6 x7 sg h
    rw [f_X12_solve_354] at h
    refine E_iload (pc := 354) rfl dX12_solve_354 ?_
    refine E_aload_n (pc := 356) rfl dX12_solve_356 ?_
    refine R_getI (pc := 357) f12_264 dX12_solve_357 (ent_st MO247) (by decide) rfl ?_
    refine T_icmp_ge (pc := 360) 435 dX12_solve_360 (by decide) h (fun h => ?_) (fun h => ?_)
    · refine E_kp [true, false, false, false, false, true, true, false, false] (L2 := [_, D0, D0, D0, D0, _, _, D0, D0]) rfl rfl ?_
      exact hk435 h
    · refine E_aload_n (pc := 363) rfl dX12_solve_363 ?_
      refine R_getR (pc := 364) (b := 277) f12_102 dX12_solve_364 (ent_st MO247) (by decide) rfl rfl ?_
      refine E_sipush (pc := 367) (nI 1024) (by decide) dX12_solve_367 ?_
      refine E_iload (pc := 370) rfl dX12_solve_370 ?_
      refine E_iconst (pc := 372) 1 rfl dX12_solve_372 ?_
      refine E_iadd (pc := 373) dX12_solve_373 ?_
      refine E_imul (pc := 374) dX12_solve_374 ?_
      refine E_aload_n (pc := 375) rfl dX12_solve_375 ?_
      refine R_getR (pc := 376) (b := 280) f12_111 dX12_solve_376 (ent_st MO247) (by decide) rfl rfl ?_
      refine E_iload (pc := 379) rfl dX12_solve_379 ?_
      refine T_iald (pc := 381) dX12_solve_381 (ent_st MA280) (by decide) h (fun v27 h => ?_)
      refine E_iadd (pc := 382) dX12_solve_382 ?_
      refine T_iald (pc := 383) dX12_solve_383 (ent_st MA277) (by decide) h (fun v28 h => ?_)
      refine E_aload_n (pc := 384) rfl dX12_solve_384 ?_
      refine R_getR (pc := 385) (b := 281) f12_114 dX12_solve_385 (ent_st MO247) (by decide) rfl rfl ?_
      refine E_iload (pc := 388) rfl dX12_solve_388 ?_
      refine T_iald (pc := 390) dX12_solve_390 (ent_st MA281) (by decide) h (fun v29 h => ?_)
      refine E_iadd (pc := 391) dX12_solve_391 ?_
      refine E_istore (pc := 392) (L2 := [_, _, _, _, _, _, _, _, _]) rfl rfl dX12_solve_392 ?_
      refine E_iload (pc := 394) rfl dX12_solve_394 ?_
      refine E_aload_n (pc := 396) rfl dX12_solve_396 ?_
      refine R_getR (pc := 397) (b := 277) f12_102 dX12_solve_397 (ent_st MO247) (by decide) rfl rfl ?_
      refine E_sipush (pc := 400) (nI 1024) (by decide) dX12_solve_400 ?_
      refine E_iload (pc := 403) rfl dX12_solve_403 ?_
      refine E_imul (pc := 405) dX12_solve_405 ?_
      refine E_iload (pc := 406) rfl dX12_solve_406 ?_
      refine E_iadd (pc := 408) dX12_solve_408 ?_
      refine T_iald (pc := 409) dX12_solve_409 (ent_st MA277) (by decide) h (fun v30 h => ?_)
      refine T_icmp_ge (pc := 410) 429 dX12_solve_410 (by decide) h (fun h => ?_) (fun h => ?_)
      · refine T_iinc (pc := 429) (m := 1) (L2 := [_, _, _, _, _, _, _, _, _]) rfl rfl rfl rfl dX12_solve_429 ?_
        refine E_goto (pc := 432) 354 (by decide) dX12_solve_432 ?_
        refine E_kp [true, false, false, false, false, true, true, true, false] (L2 := [_, D0, D0, D0, D0, _, _, _, D0]) rfl rfl ?_
        exact ih h
      · refine E_aload_n (pc := 413) rfl dX12_solve_413 ?_
        refine R_getR (pc := 414) (b := 277) f12_102 dX12_solve_414 (ent_st MO247) (by decide) rfl rfl ?_
        refine E_sipush (pc := 417) (nI 1024) (by decide) dX12_solve_417 ?_
        refine E_iload (pc := 420) rfl dX12_solve_420 ?_
        refine E_imul (pc := 422) dX12_solve_422 ?_
        refine E_iload (pc := 423) rfl dX12_solve_423 ?_
        refine E_iadd (pc := 425) dX12_solve_425 ?_
        refine E_iload (pc := 426) rfl dX12_solve_426 ?_
        refine T_iast (pc := 428) dX12_solve_428 (ent_st MA277) (by decide) h (fun s31 h => ?_)
        refine T_iinc (pc := 429) (m := 1) (L2 := [_, _, _, _, _, _, _, _, _]) rfl rfl rfl rfl dX12_solve_429 ?_
        refine E_goto (pc := 432) 354 (by decide) dX12_solve_432 ?_
        refine E_kp [true, false, false, false, false, true, true, true, false] (L2 := [_, D0, D0, D0, D0, _, _, _, D0]) rfl rfl ?_
        exact ih h
noncomputable def f_X12_solve_312 (k441 : Int32 → ST → Option (Int32 × ST)) : Nat → Int32 → Int32 → ST → Option (Int32 × ST)
  | 0, _, _, _ => none
  | n + 1, x5, x6, sg =>
    if x6 < (nI 1024) then
    ((rdI sg 276 13312 (((nI 1024) * x5) + x6)).bind fun v25 =>
    if v25 = (nI 100000000) then
    ((f_X12_solve_312 k441 n) x5 (x6 + nI 1) sg)
    else ((f_X12_edgesOf x5 x6 sg).bind fun s26 =>
    f_X12_solve_354 (fun x5_32 x6_33 s34 =>
    (f_X12_solve_312 k441 n) x5_32 (x6_33 + nI 1) s34) FU x5 x6 (nI 0) s26))
    else (k441 x5 sg)
theorem e_X12_solve_312 {G : GP} {k441 : Int32 → ST → Option (Int32 × ST)} {v : Int32} {s : ST} (hk441 : ∀ {x5 : Int32} {sg : ST}, k441 x5 sg = some (v, s) → E G mX12_solve (2, 61) 441 [.ref 247, D0, D0, D0, D0, .int x5, D0, D0, D0] [] (mem sg) (QI v s)) : ∀ (n : Nat) {x5 : Int32} {x6 : Int32} {sg : ST}, f_X12_solve_312 k441 n x5 x6 sg = some (v, s) → E G mX12_solve (2, 61) 312 [.ref 247, D0, D0, D0, D0, .int x5, .int x6, D0, D0] [] (mem sg) (QI v s) := by
  intro n
  induction n with
  | zero => intro _ _ _ h; rw [f_X12_solve_312] at h; cases h
  | succ n ih =>
    intro x5 x6 sg h
    rw [f_X12_solve_312] at h
    refine E_iload (pc := 312) rfl dX12_solve_312 ?_
    refine E_sipush (pc := 314) (nI 1024) (by decide) dX12_solve_314 ?_
    refine T_icmp_ge (pc := 317) 441 dX12_solve_317 (by decide) h (fun h => ?_) (fun h => ?_)
    · refine E_kp [true, false, false, false, false, true, false, false, false] (L2 := [_, D0, D0, D0, D0, _, D0, D0, D0]) rfl rfl ?_
      exact hk441 h
    · refine E_aload_n (pc := 320) rfl dX12_solve_320 ?_
      refine R_getR (pc := 321) (b := 276) f12_99 dX12_solve_321 (ent_st MO247) (by decide) rfl rfl ?_
      refine E_sipush (pc := 324) (nI 1024) (by decide) dX12_solve_324 ?_
      refine E_iload (pc := 327) rfl dX12_solve_327 ?_
      refine E_imul (pc := 329) dX12_solve_329 ?_
      refine E_iload (pc := 330) rfl dX12_solve_330 ?_
      refine E_iadd (pc := 332) dX12_solve_332 ?_
      refine T_iald (pc := 333) dX12_solve_333 (ent_st MA276) (by decide) h (fun v25 h => ?_)
      refine E_ldcw (pc := 334) (v := nI 100000000) q12_274 dX12_solve_334 ?_
      refine T_icmp_ne (pc := 337) 343 dX12_solve_337 (by decide) h (fun h => ?_) (fun h => ?_)
      · refine E_aload_n (pc := 343) rfl dX12_solve_343 ?_
        refine E_iload (pc := 344) rfl dX12_solve_344 ?_
        refine E_iload (pc := 346) rfl dX12_solve_346 ?_
        obtain ⟨s26, hp, h⟩ := bd_some h
        refine E_callV (pc := 348) (As := [_, _]) (fc := (0, 0)) s12_275_12 oX12_edgesOf dX12_solve_348 (mem_ob (ent_st MO247)) rfl rfl (Nat.le_of_ble_eq_true rfl) rfl rfl (by decide) (e_X12_edgesOf hp) (fun rv_ M_ hq_ => ?_)
        obtain ⟨rfl, rfl⟩ := hq_
        refine E_iconst (pc := 351) 0 rfl dX12_solve_351 ?_
        refine E_istore (pc := 352) (L2 := [_, _, _, _, _, _, _, _, _]) rfl rfl dX12_solve_352 ?_
        refine e_X12_solve_354 ?_ FU h
        · intro x5_32 x6_33 s34 h
          refine T_iinc (pc := 435) (m := 1) (L2 := [_, _, _, _, _, _, _, _, _]) rfl rfl rfl rfl dX12_solve_435 ?_
          refine E_goto (pc := 438) 312 (by decide) dX12_solve_438 ?_
          exact ih h
      · refine E_goto (pc := 340) 435 (by decide) dX12_solve_340 ?_
        refine T_iinc (pc := 435) (m := 1) (L2 := [_, _, _, _, _, _, _, _, _]) rfl rfl rfl rfl dX12_solve_435 ?_
        refine E_goto (pc := 438) 312 (by decide) dX12_solve_438 ?_
        exact ih h
noncomputable def f_X12_solve_304 : Nat → Int32 → ST → Option (Int32 × ST)
  | 0, _, _ => none
  | n + 1, x5, sg =>
    if x5 < 0 then
    (some ((nI 1), sg))
    else (f_X12_solve_312 (fun x5_35 s36 =>
    (f_X12_solve_304 n) (x5_35 + (-1)) s36) FU x5 (nI 0) sg)
theorem e_X12_solve_304 {G : GP} {v : Int32} {s : ST}  : ∀ (n : Nat) {x5 : Int32} {sg : ST}, f_X12_solve_304 n x5 sg = some (v, s) → E G mX12_solve (2, 61) 304 [.ref 247, D0, D0, D0, D0, .int x5, D0, D0, D0] [] (mem sg) (QI v s) := by
  intro n
  induction n with
  | zero => intro _ _ h; rw [f_X12_solve_304] at h; cases h
  | succ n ih =>
    intro x5 sg h
    rw [f_X12_solve_304] at h
    refine E_iload (pc := 304) rfl dX12_solve_304 ?_
    refine T_if_lt (pc := 306) 447 dX12_solve_306 (by decide) h (fun h => ?_) (fun h => ?_)
    · refine E_iconst (pc := 447) 1 rfl dX12_solve_447 ?_
      exact E_ireturn (pc := 448) rfl (by decide) dX12_solve_448 (QI_of h)
    · refine E_iconst (pc := 309) 0 rfl dX12_solve_309 ?_
      refine E_istore (pc := 310) (L2 := [_, _, _, _, _, _, _, _, _]) rfl rfl dX12_solve_310 ?_
      refine e_X12_solve_312 ?_ FU h
      · intro x5_35 s36 h
        refine T_idec (pc := 441) (L2 := [_, _, _, _, _, _, _, _, _]) rfl rfl rfl dX12_solve_441 ?_
        refine E_goto (pc := 444) 304 (by decide) dX12_solve_444 ?_
        exact ih h
noncomputable def f_X12_solve (x1 : Int32) (x2 : Int32) (x3 : Int32) (σ : ST) : Option (Int32 × ST) :=
    (f_X12_makeMoments σ).bind fun s1 =>
    (f_X12_gather x1 x2 x3 s1).bind fun s2 =>
    f_X12_solve_14 (fun s5 =>
    f_X12_solve_51 (fun s7 =>
    f_X12_solve_79 (fun s19 =>
    (pfI s19 247 39 (nI 100000000)).bind fun s20 =>
    f_X12_solve_227 (fun s24 =>
    if (s24.1 247 39) = (nI 100000000) then
    (some ((nI 0), s24))
    else (f_X12_solve_304 FU (nI 11) s24)) FU (((nI 1) <<< ((s20.1 247 36) &&& 31)) - (nI 1)) (nI 0) s20) FU (nI 0) s7) FU (nI 0) s5) FU (nI 0) s2
theorem e_X12_solve {G : GP} {x1 : Int32} {x2 : Int32} {x3 : Int32} {σ : ST} {v : Int32} {s : ST}  (h : f_X12_solve x1 x2 x3 σ = some (v, s)) : E G mX12_solve (2, 61) 0 [.ref 247, .int x1, .int x2, .int x3, D0, D0, D0, D0, D0] [] (mem σ) (QI v s) := by
  unfold f_X12_solve at h
  refine E_aload_n (pc := 0) rfl dX12_solve_0 ?_
  obtain ⟨s1, hp, h⟩ := bd_some h
  refine E_callV (pc := 1) (As := []) (fc := (1, 31)) s12_267_12 oX12_makeMoments dX12_solve_1 (mem_ob (ent_st MO247)) rfl rfl (Nat.le_of_ble_eq_true rfl) rfl rfl (by decide) (e_X12_makeMoments hp) (fun rv_ M_ hq_ => ?_)
  obtain ⟨rfl, rfl⟩ := hq_
  refine E_aload_n (pc := 4) rfl dX12_solve_4 ?_
  refine E_iload_n (pc := 5) rfl dX12_solve_5 ?_
  refine E_iload_n (pc := 6) rfl dX12_solve_6 ?_
  refine E_iload_n (pc := 7) rfl dX12_solve_7 ?_
  obtain ⟨s2, hp, h⟩ := bd_some h
  refine E_callV (pc := 8) (As := [_, _, _]) (fc := (1, 22)) s12_270_12 oX12_gather dX12_solve_8 (mem_ob (ent_st MO247)) rfl rfl (Nat.le_of_ble_eq_true rfl) rfl rfl (by decide) (e_X12_gather hp) (fun rv_ M_ hq_ => ?_)
  obtain ⟨rfl, rfl⟩ := hq_
  refine E_iconst (pc := 11) 0 rfl dX12_solve_11 ?_
  refine E_istore (pc := 12) (L2 := [_, _, _, _, _, _, _, _, _]) rfl rfl dX12_solve_12 ?_
  refine E_kp [true, false, false, false, true, false, false, false, false] (L2 := [_, D0, D0, D0, _, D0, D0, D0, D0]) rfl rfl ?_
  refine e_X12_solve_14 ?_ FU h
  · intro s5 h
    refine E_iconst (pc := 48) 0 rfl dX12_solve_48 ?_
    refine E_istore (pc := 49) (L2 := [_, _, _, _, _, _, _, _, _]) rfl rfl dX12_solve_49 ?_
    refine e_X12_solve_51 ?_ FU h
    · intro s7 h
      refine E_iconst (pc := 76) 0 rfl dX12_solve_76 ?_
      refine E_istore (pc := 77) (L2 := [_, _, _, _, _, _, _, _, _]) rfl rfl dX12_solve_77 ?_
      refine e_X12_solve_79 ?_ FU h
      · intro s19 h
        refine E_aload_n (pc := 207) rfl dX12_solve_207 ?_
        refine E_ldcw (pc := 208) (v := nI 100000000) q12_274 dX12_solve_208 ?_
        refine T_putI (pc := 211) f12_283 dX12_solve_211 (ent_st MO247) (by decide) rfl (by decide +kernel) h (fun s20 h => ?_)
        refine E_iconst (pc := 214) 1 rfl dX12_solve_214 ?_
        refine E_aload_n (pc := 215) rfl dX12_solve_215 ?_
        refine R_getI (pc := 216) f12_257 dX12_solve_216 (ent_st MO247) (by decide) rfl ?_
        refine E_ishl (pc := 219) dX12_solve_219 ?_
        refine E_iconst (pc := 220) 1 rfl dX12_solve_220 ?_
        refine E_isub (pc := 221) dX12_solve_221 ?_
        refine E_istore (pc := 222) (L2 := [_, _, _, _, _, _, _, _, _]) rfl rfl dX12_solve_222 ?_
        refine E_iconst (pc := 224) 0 rfl dX12_solve_224 ?_
        refine E_istore (pc := 225) (L2 := [_, _, _, _, _, _, _, _, _]) rfl rfl dX12_solve_225 ?_
        refine e_X12_solve_227 ?_ FU h
        · intro s24 h
          refine E_aload_n (pc := 288) rfl dX12_solve_288 ?_
          refine R_getI (pc := 289) f12_283 dX12_solve_289 (ent_st MO247) (by decide) rfl ?_
          refine E_ldcw (pc := 292) (v := nI 100000000) q12_274 dX12_solve_292 ?_
          refine T_icmp_ne (pc := 295) 300 dX12_solve_295 (by decide) h (fun h => ?_) (fun h => ?_)
          · refine E_bipush (pc := 300) (nI 11) (by decide) dX12_solve_300 ?_
            refine E_istore (pc := 302) (L2 := [_, _, _, _, _, _, _, _, _]) rfl rfl dX12_solve_302 ?_
            refine e_X12_solve_304  FU h
          · refine E_iconst (pc := 298) 0 rfl dX12_solve_298 ?_
            exact E_ireturn (pc := 299) rfl (by decide) dX12_solve_299 (QI_of h)
noncomputable def f_X12_isLeast (x1 : Int32) (x2 : Int32) (x3 : Int32) (σ : ST) : Option (Int32 × ST) :=
    (rdI σ 276 13312 (((nI 1024) * x1) + x2)).bind fun v1 =>
    (rdI σ 281 28 x3).bind fun v2 =>
    (rdI σ 280 28 x3).bind fun v3 =>
    (rdI σ 277 13312 (((nI 1024) * (x1 + (nI 1))) + v3)).bind fun v4 =>
    if ((v1 + v2) + v4) = (σ.1 247 39) then
    (some ((nI 1), σ))
    else (some ((nI 0), σ))
theorem e_X12_isLeast {G : GP} {x1 : Int32} {x2 : Int32} {x3 : Int32} {σ : ST} {v : Int32} {s : ST}  (h : f_X12_isLeast x1 x2 x3 σ = some (v, s)) : E G mX12_isLeast (0, 0) 0 [.ref 247, .int x1, .int x2, .int x3] [] (mem σ) (QI v s) := by
  unfold f_X12_isLeast at h
  refine E_aload_n (pc := 0) rfl dX12_isLeast_0 ?_
  refine R_getR (pc := 1) (b := 276) f12_99 dX12_isLeast_1 (ent_st MO247) (by decide) rfl rfl ?_
  refine E_sipush (pc := 4) (nI 1024) (by decide) dX12_isLeast_4 ?_
  refine E_iload_n (pc := 7) rfl dX12_isLeast_7 ?_
  refine E_imul (pc := 8) dX12_isLeast_8 ?_
  refine E_iload_n (pc := 9) rfl dX12_isLeast_9 ?_
  refine E_iadd (pc := 10) dX12_isLeast_10 ?_
  refine T_iald (pc := 11) dX12_isLeast_11 (ent_st MA276) (by decide) h (fun v1 h => ?_)
  refine E_aload_n (pc := 12) rfl dX12_isLeast_12 ?_
  refine R_getR (pc := 13) (b := 281) f12_114 dX12_isLeast_13 (ent_st MO247) (by decide) rfl rfl ?_
  refine E_iload_n (pc := 16) rfl dX12_isLeast_16 ?_
  refine T_iald (pc := 17) dX12_isLeast_17 (ent_st MA281) (by decide) h (fun v2 h => ?_)
  refine E_iadd (pc := 18) dX12_isLeast_18 ?_
  refine E_aload_n (pc := 19) rfl dX12_isLeast_19 ?_
  refine R_getR (pc := 20) (b := 277) f12_102 dX12_isLeast_20 (ent_st MO247) (by decide) rfl rfl ?_
  refine E_sipush (pc := 23) (nI 1024) (by decide) dX12_isLeast_23 ?_
  refine E_iload_n (pc := 26) rfl dX12_isLeast_26 ?_
  refine E_iconst (pc := 27) 1 rfl dX12_isLeast_27 ?_
  refine E_iadd (pc := 28) dX12_isLeast_28 ?_
  refine E_imul (pc := 29) dX12_isLeast_29 ?_
  refine E_aload_n (pc := 30) rfl dX12_isLeast_30 ?_
  refine R_getR (pc := 31) (b := 280) f12_111 dX12_isLeast_31 (ent_st MO247) (by decide) rfl rfl ?_
  refine E_iload_n (pc := 34) rfl dX12_isLeast_34 ?_
  refine T_iald (pc := 35) dX12_isLeast_35 (ent_st MA280) (by decide) h (fun v3 h => ?_)
  refine E_iadd (pc := 36) dX12_isLeast_36 ?_
  refine T_iald (pc := 37) dX12_isLeast_37 (ent_st MA277) (by decide) h (fun v4 h => ?_)
  refine E_iadd (pc := 38) dX12_isLeast_38 ?_
  refine E_aload_n (pc := 39) rfl dX12_isLeast_39 ?_
  refine R_getI (pc := 40) f12_283 dX12_isLeast_40 (ent_st MO247) (by decide) rfl ?_
  refine T_icmp_ne (pc := 43) 50 dX12_isLeast_43 (by decide) h (fun h => ?_) (fun h => ?_)
  · refine E_iconst (pc := 50) 0 rfl dX12_isLeast_50 ?_
    exact E_ireturn (pc := 51) rfl (by decide) dX12_isLeast_51 (QI_of h)
  · refine E_iconst (pc := 46) 1 rfl dX12_isLeast_46 ?_
    refine E_goto (pc := 47) 51 (by decide) dX12_isLeast_47 ?_
    exact E_ireturn (pc := 51) rfl (by decide) dX12_isLeast_51 (QI_of h)
noncomputable def f_X12_all_4 : Nat → Int32 → Int32 → ST → Option (Int32 × ST)
  | 0, _, _, _ => none
  | n + 1, x1, x2, sg =>
    if x2 < (sg.1 247 9) then
    ((rdI sg 261 16 x2).bind fun v1 =>
    if v1 = 0 then
    ((f_X12_all_4 n) (x1 ||| ((nI 1) <<< (x2 &&& 31))) (x2 + nI 1) sg)
    else ((f_X12_all_4 n) x1 (x2 + nI 1) sg))
    else (some (x1, sg))
theorem e_X12_all_4 {G : GP} {v : Int32} {s : ST}  : ∀ (n : Nat) {x1 : Int32} {x2 : Int32} {sg : ST}, f_X12_all_4 n x1 x2 sg = some (v, s) → E G mX12_all (0, 0) 4 [.ref 247, .int x1, .int x2] [] (mem sg) (QI v s) := by
  intro n
  induction n with
  | zero => intro _ _ _ h; rw [f_X12_all_4] at h; cases h
  | succ n ih =>
    intro x1 x2 sg h
    rw [f_X12_all_4] at h
    refine E_iload_n (pc := 4) rfl dX12_all_4 ?_
    refine E_aload_n (pc := 5) rfl dX12_all_5 ?_
    refine R_getI (pc := 6) f12_165 dX12_all_6 (ent_st MO247) (by decide) rfl ?_
    refine T_icmp_ge (pc := 9) 33 dX12_all_9 (by decide) h (fun h => ?_) (fun h => ?_)
    · refine E_iload_n (pc := 33) rfl dX12_all_33 ?_
      exact E_ireturn (pc := 34) rfl rfl dX12_all_34 (QI_of h)
    · refine E_aload_n (pc := 12) rfl dX12_all_12 ?_
      refine R_getR (pc := 13) (b := 261) f12_49 dX12_all_13 (ent_st MO247) (by decide) rfl rfl ?_
      refine E_iload_n (pc := 16) rfl dX12_all_16 ?_
      refine T_iald (pc := 17) dX12_all_17 (ent_st MA261) (by decide) h (fun v1 h => ?_)
      refine T_if_ne (pc := 18) 27 dX12_all_18 (by decide) h (fun h => ?_) (fun h => ?_)
      · refine T_iinc (pc := 27) (m := 1) (L2 := [_, _, _]) rfl rfl rfl rfl dX12_all_27 ?_
        refine E_goto (pc := 30) 4 (by decide) dX12_all_30 ?_
        exact ih h
      · refine E_iload_n (pc := 21) rfl dX12_all_21 ?_
        refine E_iconst (pc := 22) 1 rfl dX12_all_22 ?_
        refine E_iload_n (pc := 23) rfl dX12_all_23 ?_
        refine E_ishl (pc := 24) dX12_all_24 ?_
        refine E_ior (pc := 25) dX12_all_25 ?_
        refine E_istore_n (pc := 26) (L2 := [_, _, _]) rfl rfl dX12_all_26 ?_
        refine T_iinc (pc := 27) (m := 1) (L2 := [_, _, _]) rfl rfl rfl rfl dX12_all_27 ?_
        refine E_goto (pc := 30) 4 (by decide) dX12_all_30 ?_
        exact ih h
noncomputable def f_X12_all (σ : ST) : Option (Int32 × ST) :=
    f_X12_all_4 FU (nI 0) (nI 0) σ
theorem e_X12_all {G : GP} {σ : ST} {v : Int32} {s : ST}  (h : f_X12_all σ = some (v, s)) : E G mX12_all (0, 0) 0 [.ref 247, D0, D0] [] (mem σ) (QI v s) := by
  unfold f_X12_all at h
  refine E_iconst (pc := 0) 0 rfl dX12_all_0 ?_
  refine E_istore_n (pc := 1) (L2 := [_, _, _]) rfl rfl dX12_all_1 ?_
  refine E_iconst (pc := 2) 0 rfl dX12_all_2 ?_
  refine E_istore_n (pc := 3) (L2 := [_, _, _]) rfl rfl dX12_all_3 ?_
  refine e_X12_all_4  FU h
noncomputable def f_X12_least (σ : ST) : Option (Int32 × ST) :=
    bd2 (f_X12_all σ) fun v2 s1 =>
    bd2 (f_X12_solve v2 (-1) (-1) s1) fun v4 s3 =>
    if v4 = 0 then
    (some ((-1), s3))
    else (some ((s3.1 247 39), s3))
theorem e_X12_least {G : GP} {σ : ST} {v : Int32} {s : ST}  (h : f_X12_least σ = some (v, s)) : E G mX12_least (3, 89) 0 [.ref 247] [] (mem σ) (QI v s) := by
  unfold f_X12_least at h
  refine E_aload_n (pc := 0) rfl dX12_least_0 ?_
  refine E_aload_n (pc := 1) rfl dX12_least_1 ?_
  obtain ⟨v2, s1, hp, h⟩ := bd2_some h
  refine E_callV (pc := 2) (As := []) (fc := (0, 0)) s12_286_12 oX12_all dX12_least_2 (mem_ob (ent_st MO247)) rfl rfl (Nat.le_of_ble_eq_true rfl) rfl rfl (by decide) (e_X12_all hp) (fun rv_ M_ hq_ => ?_)
  obtain ⟨rfl, rfl⟩ := hq_
  refine E_im1 (pc := 5) dX12_least_5 ?_
  refine E_im1 (pc := 6) dX12_least_6 ?_
  obtain ⟨v4, s3, hp, h⟩ := bd2_some h
  refine E_callV (pc := 7) (As := [_, _, _]) (fc := (2, 61)) s12_289_12 oX12_solve dX12_least_7 (mem_ob (ent_st MO247)) rfl rfl (Nat.le_of_ble_eq_true rfl) rfl rfl (by decide) (e_X12_solve hp) (fun rv_ M_ hq_ => ?_)
  obtain ⟨rfl, rfl⟩ := hq_
  refine T_if_eq (pc := 10) 20 dX12_least_10 (by decide) h (fun h => ?_) (fun h => ?_)
  · refine E_im1 (pc := 20) dX12_least_20 ?_
    exact E_ireturn (pc := 21) rfl rfl dX12_least_21 (QI_of h)
  · refine E_aload_n (pc := 13) rfl dX12_least_13 ?_
    refine R_getI (pc := 14) f12_283 dX12_least_14 (ent_st MO247) (by decide) rfl ?_
    refine E_goto (pc := 17) 21 (by decide) dX12_least_17 ?_
    exact E_ireturn (pc := 21) rfl rfl dX12_least_21 (QI_of h)
noncomputable def f_X12_courses_21 (k60 : Int64 → ST → Option (Int64 × ST)) : Nat → Int64 → Int32 → ST → Option (Int64 × ST)
  | 0, _, _, _ => none
  | n + 1, y1, x3, sg =>
    if x3 < (nI 1024) then
    ((rdI sg 276 13312 x3).bind fun v5 =>
    if v5 = 0 then
    (if x3 < (nI 32) then
    ((wrJ sg 286 1024 x3 (1)).bind fun s8 =>
    (f_X12_courses_21 k60 n) y1 (x3 + nI 1) s8)
    else ((wrJ sg 286 1024 x3 (0)).bind fun s7 =>
    (f_X12_courses_21 k60 n) y1 (x3 + nI 1) s7))
    else ((wrJ sg 286 1024 x3 (0)).bind fun s6 =>
    (f_X12_courses_21 k60 n) y1 (x3 + nI 1) s6))
    else (k60 y1 sg)
theorem e_X12_courses_21 {G : GP} {k60 : Int64 → ST → Option (Int64 × ST)} {v : Int64} {s : ST} (hk60 : ∀ {y1 : Int64} {sg : ST}, k60 y1 sg = some (v, s) → E G mX12_courses (3, 89) 60 [.ref 247, .long y1, D0, D0, D0, D0] [] (mem sg) (QJ v s)) : ∀ (n : Nat) {y1 : Int64} {x3 : Int32} {sg : ST}, f_X12_courses_21 k60 n y1 x3 sg = some (v, s) → E G mX12_courses (3, 89) 21 [.ref 247, .long y1, D0, .int x3, D0, D0] [] (mem sg) (QJ v s) := by
  intro n
  induction n with
  | zero => intro _ _ _ h; rw [f_X12_courses_21] at h; cases h
  | succ n ih =>
    intro y1 x3 sg h
    rw [f_X12_courses_21] at h
    refine E_iload_n (pc := 21) rfl dX12_courses_21 ?_
    refine E_sipush (pc := 22) (nI 1024) (by decide) dX12_courses_22 ?_
    refine T_icmp_ge (pc := 25) 60 dX12_courses_25 (by decide) h (fun h => ?_) (fun h => ?_)
    · refine E_kp [true, true, false, false, false, false] (L2 := [_, _, D0, D0, D0, D0]) rfl rfl ?_
      exact hk60 h
    · refine E_aload_n (pc := 28) rfl dX12_courses_28 ?_
      refine R_getR (pc := 29) (b := 286) f12_129 dX12_courses_29 (ent_st MO247) (by decide) rfl rfl ?_
      refine E_iload_n (pc := 32) rfl dX12_courses_32 ?_
      refine E_aload_n (pc := 33) rfl dX12_courses_33 ?_
      refine R_getR (pc := 34) (b := 276) f12_99 dX12_courses_34 (ent_st MO247) (by decide) rfl rfl ?_
      refine E_iload_n (pc := 37) rfl dX12_courses_37 ?_
      refine T_iald (pc := 38) dX12_courses_38 (ent_st MA276) (by decide) h (fun v5 h => ?_)
      refine T_if_ne (pc := 39) 52 dX12_courses_39 (by decide) h (fun h => ?_) (fun h => ?_)
      · refine E_lconst (pc := 52) 0 rfl dX12_courses_52 ?_
        refine T_jast (pc := 53) dX12_courses_53 (ent_st MA286) (by decide) h (fun s6 h => ?_)
        refine T_iinc (pc := 54) (m := 1) (L2 := [_, _, _, _, _, _]) rfl rfl rfl rfl dX12_courses_54 ?_
        refine E_goto (pc := 57) 21 (by decide) dX12_courses_57 ?_
        exact ih h
      · refine E_iload_n (pc := 42) rfl dX12_courses_42 ?_
        refine E_bipush (pc := 43) (nI 32) (by decide) dX12_courses_43 ?_
        refine T_icmp_ge (pc := 45) 52 dX12_courses_45 (by decide) h (fun h => ?_) (fun h => ?_)
        · refine E_lconst (pc := 52) 0 rfl dX12_courses_52 ?_
          refine T_jast (pc := 53) dX12_courses_53 (ent_st MA286) (by decide) h (fun s7 h => ?_)
          refine T_iinc (pc := 54) (m := 1) (L2 := [_, _, _, _, _, _]) rfl rfl rfl rfl dX12_courses_54 ?_
          refine E_goto (pc := 57) 21 (by decide) dX12_courses_57 ?_
          exact ih h
        · refine E_lconst (pc := 48) 1 rfl dX12_courses_48 ?_
          refine E_goto (pc := 49) 53 (by decide) dX12_courses_49 ?_
          refine T_jast (pc := 53) dX12_courses_53 (ent_st MA286) (by decide) h (fun s8 h => ?_)
          refine T_iinc (pc := 54) (m := 1) (L2 := [_, _, _, _, _, _]) rfl rfl rfl rfl dX12_courses_54 ?_
          refine E_goto (pc := 57) 21 (by decide) dX12_courses_57 ?_
          exact ih h
noncomputable def f_X12_courses_71 (k93 : Int64 → Int32 → ST → Option (Int64 × ST)) : Nat → Int64 → Int32 → Int32 → ST → Option (Int64 × ST)
  | 0, _, _, _, _ => none
  | n + 1, y1, x3, x4, sg =>
    if x4 < (nI 1024) then
    ((wrJ sg 287 1024 x4 (0)).bind fun s11 =>
    (f_X12_courses_71 k93 n) y1 x3 (x4 + nI 1) s11)
    else (k93 y1 x3 sg)
theorem e_X12_courses_71 {G : GP} {k93 : Int64 → Int32 → ST → Option (Int64 × ST)} {v : Int64} {s : ST} (hk93 : ∀ {y1 : Int64} {x3 : Int32} {sg : ST}, k93 y1 x3 sg = some (v, s) → E G mX12_courses (3, 89) 93 [.ref 247, .long y1, D0, .int x3, D0, D0] [] (mem sg) (QJ v s)) : ∀ (n : Nat) {y1 : Int64} {x3 : Int32} {x4 : Int32} {sg : ST}, f_X12_courses_71 k93 n y1 x3 x4 sg = some (v, s) → E G mX12_courses (3, 89) 71 [.ref 247, .long y1, D0, .int x3, .int x4, D0] [] (mem sg) (QJ v s) := by
  intro n
  induction n with
  | zero => intro _ _ _ _ h; rw [f_X12_courses_71] at h; cases h
  | succ n ih =>
    intro y1 x3 x4 sg h
    rw [f_X12_courses_71] at h
    refine E_iload (pc := 71) rfl dX12_courses_71 ?_
    refine E_sipush (pc := 73) (nI 1024) (by decide) dX12_courses_73 ?_
    refine T_icmp_ge (pc := 76) 93 dX12_courses_76 (by decide) h (fun h => ?_) (fun h => ?_)
    · refine E_kp [true, true, false, true, false, false] (L2 := [_, _, D0, _, D0, D0]) rfl rfl ?_
      exact hk93 h
    · refine E_aload_n (pc := 79) rfl dX12_courses_79 ?_
      refine R_getR (pc := 80) (b := 287) f12_132 dX12_courses_80 (ent_st MO247) (by decide) rfl rfl ?_
      refine E_iload (pc := 83) rfl dX12_courses_83 ?_
      refine E_lconst (pc := 85) 0 rfl dX12_courses_85 ?_
      refine T_jast (pc := 86) dX12_courses_86 (ent_st MA287) (by decide) h (fun s11 h => ?_)
      refine T_iinc (pc := 87) (m := 1) (L2 := [_, _, _, _, _, _]) rfl rfl rfl rfl dX12_courses_87 ?_
      refine E_goto (pc := 90) 71 (by decide) dX12_courses_90 ?_
      exact ih h
noncomputable def f_X12_courses_129 (k195 : Int64 → Int32 → Int32 → ST → Option (Int64 × ST)) : Nat → Int64 → Int32 → Int32 → Int32 → ST → Option (Int64 × ST)
  | 0, _, _, _, _, _ => none
  | n + 1, y1, x3, x4, x5, sg =>
    if x5 < (sg.1 247 40) then
    (bd2 (f_X12_isLeast x3 x4 x5 sg) fun v18 s17 =>
    if v18 = 0 then
    ((f_X12_courses_129 k195 n) y1 x3 x4 (x5 + nI 1) s17)
    else ((rdI s17 280 28 x5).bind fun v19 =>
    (rdI s17 280 28 x5).bind fun v20 =>
    (rdJ s17 287 1024 v20).bind fun v21 =>
    (rdJ s17 286 1024 x4).bind fun v22 =>
    (wrJ s17 287 1024 v19 (if (v21 + v22) < y1 then (v21 + v22) else y1)).bind fun s23 =>
    (f_X12_courses_129 k195 n) y1 x3 x4 (x5 + nI 1) s23))
    else (k195 y1 x3 x4 sg)
theorem e_X12_courses_129 {G : GP} {k195 : Int64 → Int32 → Int32 → ST → Option (Int64 × ST)} {v : Int64} {s : ST} (hk195 : ∀ {y1 : Int64} {x3 : Int32} {x4 : Int32} {sg : ST}, k195 y1 x3 x4 sg = some (v, s) → E G mX12_courses (3, 89) 195 [.ref 247, .long y1, D0, .int x3, .int x4, D0] [] (mem sg) (QJ v s)) : ∀ (n : Nat) {y1 : Int64} {x3 : Int32} {x4 : Int32} {x5 : Int32} {sg : ST}, f_X12_courses_129 k195 n y1 x3 x4 x5 sg = some (v, s) → E G mX12_courses (3, 89) 129 [.ref 247, .long y1, D0, .int x3, .int x4, .int x5] [] (mem sg) (QJ v s) := by
  intro n
  induction n with
  | zero => intro _ _ _ _ _ h; rw [f_X12_courses_129] at h; cases h
  | succ n ih =>
    intro y1 x3 x4 x5 sg h
    rw [f_X12_courses_129] at h
    refine E_iload (pc := 129) rfl dX12_courses_129 ?_
    refine E_aload_n (pc := 131) rfl dX12_courses_131 ?_
    refine R_getI (pc := 132) f12_264 dX12_courses_132 (ent_st MO247) (by decide) rfl ?_
    refine T_icmp_ge (pc := 135) 195 dX12_courses_135 (by decide) h (fun h => ?_) (fun h => ?_)
    · refine E_kp [true, true, false, true, true, false] (L2 := [_, _, D0, _, _, D0]) rfl rfl ?_
      exact hk195 h
    · refine E_aload_n (pc := 138) rfl dX12_courses_138 ?_
      refine E_iload_n (pc := 139) rfl dX12_courses_139 ?_
      refine E_iload (pc := 140) rfl dX12_courses_140 ?_
      refine E_iload (pc := 142) rfl dX12_courses_142 ?_
      obtain ⟨v18, s17, hp, h⟩ := bd2_some h
      refine E_callV (pc := 144) (As := [_, _, _]) (fc := (0, 0)) s12_295_12 oX12_isLeast dX12_courses_144 (mem_ob (ent_st MO247)) rfl rfl (Nat.le_of_ble_eq_true rfl) rfl rfl (by decide) (e_X12_isLeast hp) (fun rv_ M_ hq_ => ?_)
      obtain ⟨rfl, rfl⟩ := hq_
      refine T_if_ne (pc := 147) 153 dX12_courses_147 (by decide) h (fun h => ?_) (fun h => ?_)
      · refine E_aload_n (pc := 153) rfl dX12_courses_153 ?_
        refine R_getR (pc := 154) (b := 287) f12_132 dX12_courses_154 (ent_st MO247) (by decide) rfl rfl ?_
        refine E_aload_n (pc := 157) rfl dX12_courses_157 ?_
        refine R_getR (pc := 158) (b := 280) f12_111 dX12_courses_158 (ent_st MO247) (by decide) rfl rfl ?_
        refine E_iload (pc := 161) rfl dX12_courses_161 ?_
        refine T_iald (pc := 163) dX12_courses_163 (ent_st MA280) (by decide) h (fun v19 h => ?_)
        refine E_lload_n (pc := 164) rfl dX12_courses_164 ?_
        refine E_aload_n (pc := 165) rfl dX12_courses_165 ?_
        refine R_getR (pc := 166) (b := 287) f12_132 dX12_courses_166 (ent_st MO247) (by decide) rfl rfl ?_
        refine E_aload_n (pc := 169) rfl dX12_courses_169 ?_
        refine R_getR (pc := 170) (b := 280) f12_111 dX12_courses_170 (ent_st MO247) (by decide) rfl rfl ?_
        refine E_iload (pc := 173) rfl dX12_courses_173 ?_
        refine T_iald (pc := 175) dX12_courses_175 (ent_st MA280) (by decide) h (fun v20 h => ?_)
        refine T_jald (pc := 176) dX12_courses_176 (ent_st MA287) (by decide) h (fun v21 h => ?_)
        refine E_aload_n (pc := 177) rfl dX12_courses_177 ?_
        refine R_getR (pc := 178) (b := 286) f12_129 dX12_courses_178 (ent_st MO247) (by decide) rfl rfl ?_
        refine E_iload (pc := 181) rfl dX12_courses_181 ?_
        refine T_jald (pc := 183) dX12_courses_183 (ent_st MA286) (by decide) h (fun v22 h => ?_)
        refine E_ladd (pc := 184) dX12_courses_184 ?_
        refine E_mminL (pc := 185) (by decide +kernel) (by decide) (Nat.le_of_ble_eq_true rfl) dX12_courses_185 ?_
        refine T_jast (pc := 188) dX12_courses_188 (ent_st MA287) (by decide) h (fun s23 h => ?_)
        refine T_iinc (pc := 189) (m := 1) (L2 := [_, _, _, _, _, _]) rfl rfl rfl rfl dX12_courses_189 ?_
        refine E_goto (pc := 192) 129 (by decide) dX12_courses_192 ?_
        exact ih h
      · refine E_goto (pc := 150) 189 (by decide) dX12_courses_150 ?_
        refine T_iinc (pc := 189) (m := 1) (L2 := [_, _, _, _, _, _]) rfl rfl rfl rfl dX12_courses_189 ?_
        refine E_goto (pc := 192) 129 (by decide) dX12_courses_192 ?_
        exact ih h
noncomputable def f_X12_courses_96 (k201 : Int64 → Int32 → ST → Option (Int64 × ST)) : Nat → Int64 → Int32 → Int32 → ST → Option (Int64 × ST)
  | 0, _, _, _, _ => none
  | n + 1, y1, x3, x4, sg =>
    if x4 < (nI 1024) then
    ((rdJ sg 286 1024 x4).bind fun v15 =>
    if (lg_cmp v15 (0)) = 0 then
    ((f_X12_courses_96 k201 n) y1 x3 (x4 + nI 1) sg)
    else ((f_X12_edgesOf x3 x4 sg).bind fun s16 =>
    f_X12_courses_129 (fun y1_24 x3_25 x4_26 s27 =>
    (f_X12_courses_96 k201 n) y1_24 x3_25 (x4_26 + nI 1) s27) FU y1 x3 x4 (nI 0) s16))
    else (k201 y1 x3 sg)
theorem e_X12_courses_96 {G : GP} {k201 : Int64 → Int32 → ST → Option (Int64 × ST)} {v : Int64} {s : ST} (hk201 : ∀ {y1 : Int64} {x3 : Int32} {sg : ST}, k201 y1 x3 sg = some (v, s) → E G mX12_courses (3, 89) 201 [.ref 247, .long y1, D0, .int x3, D0, D0] [] (mem sg) (QJ v s)) : ∀ (n : Nat) {y1 : Int64} {x3 : Int32} {x4 : Int32} {sg : ST}, f_X12_courses_96 k201 n y1 x3 x4 sg = some (v, s) → E G mX12_courses (3, 89) 96 [.ref 247, .long y1, D0, .int x3, .int x4, D0] [] (mem sg) (QJ v s) := by
  intro n
  induction n with
  | zero => intro _ _ _ _ h; rw [f_X12_courses_96] at h; cases h
  | succ n ih =>
    intro y1 x3 x4 sg h
    rw [f_X12_courses_96] at h
    refine E_iload (pc := 96) rfl dX12_courses_96 ?_
    refine E_sipush (pc := 98) (nI 1024) (by decide) dX12_courses_98 ?_
    refine T_icmp_ge (pc := 101) 201 dX12_courses_101 (by decide) h (fun h => ?_) (fun h => ?_)
    · refine E_kp [true, true, false, true, false, false] (L2 := [_, _, D0, _, D0, D0]) rfl rfl ?_
      exact hk201 h
    · refine E_aload_n (pc := 104) rfl dX12_courses_104 ?_
      refine R_getR (pc := 105) (b := 286) f12_129 dX12_courses_105 (ent_st MO247) (by decide) rfl rfl ?_
      refine E_iload (pc := 108) rfl dX12_courses_108 ?_
      refine T_jald (pc := 110) dX12_courses_110 (ent_st MA286) (by decide) h (fun v15 h => ?_)
      refine E_lconst (pc := 111) 0 rfl dX12_courses_111 ?_
      refine E_lcmp (pc := 112) dX12_courses_112 ?_
      refine T_if_ne (pc := 113) 119 dX12_courses_113 (by decide) h (fun h => ?_) (fun h => ?_)
      · refine E_aload_n (pc := 119) rfl dX12_courses_119 ?_
        refine E_iload_n (pc := 120) rfl dX12_courses_120 ?_
        refine E_iload (pc := 121) rfl dX12_courses_121 ?_
        obtain ⟨s16, hp, h⟩ := bd_some h
        refine E_callV (pc := 123) (As := [_, _]) (fc := (0, 0)) s12_275_12 oX12_edgesOf dX12_courses_123 (mem_ob (ent_st MO247)) rfl rfl (Nat.le_of_ble_eq_true rfl) rfl rfl (by decide) (e_X12_edgesOf hp) (fun rv_ M_ hq_ => ?_)
        obtain ⟨rfl, rfl⟩ := hq_
        refine E_iconst (pc := 126) 0 rfl dX12_courses_126 ?_
        refine E_istore (pc := 127) (L2 := [_, _, _, _, _, _]) rfl rfl dX12_courses_127 ?_
        refine e_X12_courses_129 ?_ FU h
        · intro y1_24 x3_25 x4_26 s27 h
          refine T_iinc (pc := 195) (m := 1) (L2 := [_, _, _, _, _, _]) rfl rfl rfl rfl dX12_courses_195 ?_
          refine E_goto (pc := 198) 96 (by decide) dX12_courses_198 ?_
          exact ih h
      · refine E_goto (pc := 116) 195 (by decide) dX12_courses_116 ?_
        refine T_iinc (pc := 195) (m := 1) (L2 := [_, _, _, _, _, _]) rfl rfl rfl rfl dX12_courses_195 ?_
        refine E_goto (pc := 198) 96 (by decide) dX12_courses_198 ?_
        exact ih h
noncomputable def f_X12_courses_204 (k232 : Int64 → Int32 → ST → Option (Int64 × ST)) : Nat → Int64 → Int32 → Int32 → ST → Option (Int64 × ST)
  | 0, _, _, _, _ => none
  | n + 1, y1, x3, x4, sg =>
    if x4 < (nI 1024) then
    ((rdJ sg 287 1024 x4).bind fun v31 =>
    (wrJ sg 286 1024 x4 v31).bind fun s32 =>
    (f_X12_courses_204 k232 n) y1 x3 (x4 + nI 1) s32)
    else (k232 y1 x3 sg)
theorem e_X12_courses_204 {G : GP} {k232 : Int64 → Int32 → ST → Option (Int64 × ST)} {v : Int64} {s : ST} (hk232 : ∀ {y1 : Int64} {x3 : Int32} {sg : ST}, k232 y1 x3 sg = some (v, s) → E G mX12_courses (3, 89) 232 [.ref 247, .long y1, D0, .int x3, D0, D0] [] (mem sg) (QJ v s)) : ∀ (n : Nat) {y1 : Int64} {x3 : Int32} {x4 : Int32} {sg : ST}, f_X12_courses_204 k232 n y1 x3 x4 sg = some (v, s) → E G mX12_courses (3, 89) 204 [.ref 247, .long y1, D0, .int x3, .int x4, D0] [] (mem sg) (QJ v s) := by
  intro n
  induction n with
  | zero => intro _ _ _ _ h; rw [f_X12_courses_204] at h; cases h
  | succ n ih =>
    intro y1 x3 x4 sg h
    rw [f_X12_courses_204] at h
    refine E_iload (pc := 204) rfl dX12_courses_204 ?_
    refine E_sipush (pc := 206) (nI 1024) (by decide) dX12_courses_206 ?_
    refine T_icmp_ge (pc := 209) 232 dX12_courses_209 (by decide) h (fun h => ?_) (fun h => ?_)
    · refine E_kp [true, true, false, true, false, false] (L2 := [_, _, D0, _, D0, D0]) rfl rfl ?_
      exact hk232 h
    · refine E_aload_n (pc := 212) rfl dX12_courses_212 ?_
      refine R_getR (pc := 213) (b := 286) f12_129 dX12_courses_213 (ent_st MO247) (by decide) rfl rfl ?_
      refine E_iload (pc := 216) rfl dX12_courses_216 ?_
      refine E_aload_n (pc := 218) rfl dX12_courses_218 ?_
      refine R_getR (pc := 219) (b := 287) f12_132 dX12_courses_219 (ent_st MO247) (by decide) rfl rfl ?_
      refine E_iload (pc := 222) rfl dX12_courses_222 ?_
      refine T_jald (pc := 224) dX12_courses_224 (ent_st MA287) (by decide) h (fun v31 h => ?_)
      refine T_jast (pc := 225) dX12_courses_225 (ent_st MA286) (by decide) h (fun s32 h => ?_)
      refine T_iinc (pc := 226) (m := 1) (L2 := [_, _, _, _, _, _]) rfl rfl rfl rfl dX12_courses_226 ?_
      refine E_goto (pc := 229) 204 (by decide) dX12_courses_229 ?_
      exact ih h
noncomputable def f_X12_courses_62 (k238 : Int64 → ST → Option (Int64 × ST)) : Nat → Int64 → Int32 → ST → Option (Int64 × ST)
  | 0, _, _, _ => none
  | n + 1, y1, x3, sg =>
    if x3 < (nI 12) then
    (f_X12_courses_71 (fun y1_12 x3_13 s14 =>
    f_X12_courses_96 (fun y1_28 x3_29 s30 =>
    f_X12_courses_204 (fun y1_33 x3_34 s35 =>
    (f_X12_courses_62 k238 n) y1_33 (x3_34 + nI 1) s35) FU y1_28 x3_29 (nI 0) s30) FU y1_12 x3_13 (nI 0) s14) FU y1 x3 (nI 0) sg)
    else (k238 y1 sg)
theorem e_X12_courses_62 {G : GP} {k238 : Int64 → ST → Option (Int64 × ST)} {v : Int64} {s : ST} (hk238 : ∀ {y1 : Int64} {sg : ST}, k238 y1 sg = some (v, s) → E G mX12_courses (3, 89) 238 [.ref 247, .long y1, D0, D0, D0, D0] [] (mem sg) (QJ v s)) : ∀ (n : Nat) {y1 : Int64} {x3 : Int32} {sg : ST}, f_X12_courses_62 k238 n y1 x3 sg = some (v, s) → E G mX12_courses (3, 89) 62 [.ref 247, .long y1, D0, .int x3, D0, D0] [] (mem sg) (QJ v s) := by
  intro n
  induction n with
  | zero => intro _ _ _ h; rw [f_X12_courses_62] at h; cases h
  | succ n ih =>
    intro y1 x3 sg h
    rw [f_X12_courses_62] at h
    refine E_iload_n (pc := 62) rfl dX12_courses_62 ?_
    refine E_bipush (pc := 63) (nI 12) (by decide) dX12_courses_63 ?_
    refine T_icmp_ge (pc := 65) 238 dX12_courses_65 (by decide) h (fun h => ?_) (fun h => ?_)
    · refine E_kp [true, true, false, false, false, false] (L2 := [_, _, D0, D0, D0, D0]) rfl rfl ?_
      exact hk238 h
    · refine E_iconst (pc := 68) 0 rfl dX12_courses_68 ?_
      refine E_istore (pc := 69) (L2 := [_, _, _, _, _, _]) rfl rfl dX12_courses_69 ?_
      refine e_X12_courses_71 ?_ FU h
      · intro y1_12 x3_13 s14 h
        refine E_iconst (pc := 93) 0 rfl dX12_courses_93 ?_
        refine E_istore (pc := 94) (L2 := [_, _, _, _, _, _]) rfl rfl dX12_courses_94 ?_
        refine e_X12_courses_96 ?_ FU h
        · intro y1_28 x3_29 s30 h
          refine E_iconst (pc := 201) 0 rfl dX12_courses_201 ?_
          refine E_istore (pc := 202) (L2 := [_, _, _, _, _, _]) rfl rfl dX12_courses_202 ?_
          refine e_X12_courses_204 ?_ FU h
          · intro y1_33 x3_34 s35 h
            refine T_iinc (pc := 232) (m := 1) (L2 := [_, _, _, _, _, _]) rfl rfl rfl rfl dX12_courses_232 ?_
            refine E_goto (pc := 235) 62 (by decide) dX12_courses_235 ?_
            exact ih h
noncomputable def f_X12_courses_243 : Nat → Int64 → Int64 → Int32 → ST → Option (Int64 × ST)
  | 0, _, _, _, _ => none
  | n + 1, y1, y3, x5, sg =>
    if x5 < (nI 1024) then
    (if (x5 >>> ((nI 8) &&& 31)) = (((nI 1) <<< ((sg.1 247 36) &&& 31)) - (nI 1)) then
    ((rdJ sg 286 1024 x5).bind fun v38 =>
    (f_X12_courses_243 n) y1 (if (y3 + v38) < y1 then (y3 + v38) else y1) (x5 + nI 1) sg)
    else ((f_X12_courses_243 n) y1 y3 (x5 + nI 1) sg))
    else (some (y3, sg))
theorem e_X12_courses_243 {G : GP} {v : Int64} {s : ST}  : ∀ (n : Nat) {y1 : Int64} {y3 : Int64} {x5 : Int32} {sg : ST}, f_X12_courses_243 n y1 y3 x5 sg = some (v, s) → E G mX12_courses (3, 89) 243 [.ref 247, .long y1, D0, .long y3, D0, .int x5] [] (mem sg) (QJ v s) := by
  intro n
  induction n with
  | zero => intro _ _ _ _ h; rw [f_X12_courses_243] at h; cases h
  | succ n ih =>
    intro y1 y3 x5 sg h
    rw [f_X12_courses_243] at h
    refine E_iload (pc := 243) rfl dX12_courses_243 ?_
    refine E_sipush (pc := 245) (nI 1024) (by decide) dX12_courses_245 ?_
    refine T_icmp_ge (pc := 248) 287 dX12_courses_248 (by decide) h (fun h => ?_) (fun h => ?_)
    · refine E_lload_n (pc := 287) rfl dX12_courses_287 ?_
      exact E_lreturn (pc := 288) rfl dX12_courses_288 (QJ_of h)
    · refine E_iload (pc := 251) rfl dX12_courses_251 ?_
      refine E_bipush (pc := 253) (nI 8) (by decide) dX12_courses_253 ?_
      refine E_ishr (pc := 255) dX12_courses_255 ?_
      refine E_iconst (pc := 256) 1 rfl dX12_courses_256 ?_
      refine E_aload_n (pc := 257) rfl dX12_courses_257 ?_
      refine R_getI (pc := 258) f12_257 dX12_courses_258 (ent_st MO247) (by decide) rfl ?_
      refine E_ishl (pc := 261) dX12_courses_261 ?_
      refine E_iconst (pc := 262) 1 rfl dX12_courses_262 ?_
      refine E_isub (pc := 263) dX12_courses_263 ?_
      refine T_icmp_ne (pc := 264) 281 dX12_courses_264 (by decide) h (fun h => ?_) (fun h => ?_)
      · refine T_iinc (pc := 281) (m := 1) (L2 := [_, _, _, _, _, _]) rfl rfl rfl rfl dX12_courses_281 ?_
        refine E_goto (pc := 284) 243 (by decide) dX12_courses_284 ?_
        exact ih h
      · refine E_lload_n (pc := 267) rfl dX12_courses_267 ?_
        refine E_lload_n (pc := 268) rfl dX12_courses_268 ?_
        refine E_aload_n (pc := 269) rfl dX12_courses_269 ?_
        refine R_getR (pc := 270) (b := 286) f12_129 dX12_courses_270 (ent_st MO247) (by decide) rfl rfl ?_
        refine E_iload (pc := 273) rfl dX12_courses_273 ?_
        refine T_jald (pc := 275) dX12_courses_275 (ent_st MA286) (by decide) h (fun v38 h => ?_)
        refine E_ladd (pc := 276) dX12_courses_276 ?_
        refine E_mminL (pc := 277) (by decide +kernel) (by decide) (Nat.le_of_ble_eq_true rfl) dX12_courses_277 ?_
        refine E_lstore_n (pc := 280) (L2 := [_, _, _, _, _, _]) rfl rfl dX12_courses_280 ?_
        refine T_iinc (pc := 281) (m := 1) (L2 := [_, _, _, _, _, _]) rfl rfl rfl rfl dX12_courses_281 ?_
        refine E_goto (pc := 284) 243 (by decide) dX12_courses_284 ?_
        exact ih h
noncomputable def f_X12_courses (σ : ST) : Option (Int64 × ST) :=
    bd2 (f_X12_all σ) fun v2 s1 =>
    bd2 (f_X12_solve v2 (-1) (-1) s1) fun v4 s3 =>
    if v4 = 0 then
    (some ((0), s3))
    else (f_X12_courses_21 (fun y1_9 s10 =>
    f_X12_courses_62 (fun y1_36 s37 =>
    f_X12_courses_243 FU y1_36 (0) (nI 0) s37) FU y1_9 (nI 0) s10) FU (1000000000000000000) (nI 0) s3)
theorem e_X12_courses {G : GP} {σ : ST} {v : Int64} {s : ST}  (h : f_X12_courses σ = some (v, s)) : E G mX12_courses (3, 89) 0 [.ref 247, D0, D0, D0, D0, D0] [] (mem σ) (QJ v s) := by
  unfold f_X12_courses at h
  refine E_aload_n (pc := 0) rfl dX12_courses_0 ?_
  refine E_aload_n (pc := 1) rfl dX12_courses_1 ?_
  obtain ⟨v2, s1, hp, h⟩ := bd2_some h
  refine E_callV (pc := 2) (As := []) (fc := (0, 0)) s12_286_12 oX12_all dX12_courses_2 (mem_ob (ent_st MO247)) rfl rfl (Nat.le_of_ble_eq_true rfl) rfl rfl (by decide) (e_X12_all hp) (fun rv_ M_ hq_ => ?_)
  obtain ⟨rfl, rfl⟩ := hq_
  refine E_im1 (pc := 5) dX12_courses_5 ?_
  refine E_im1 (pc := 6) dX12_courses_6 ?_
  obtain ⟨v4, s3, hp, h⟩ := bd2_some h
  refine E_callV (pc := 7) (As := [_, _, _]) (fc := (2, 61)) s12_289_12 oX12_solve dX12_courses_7 (mem_ob (ent_st MO247)) rfl rfl (Nat.le_of_ble_eq_true rfl) rfl rfl (by decide) (e_X12_solve hp) (fun rv_ M_ hq_ => ?_)
  obtain ⟨rfl, rfl⟩ := hq_
  refine T_if_ne (pc := 10) 15 dX12_courses_10 (by decide) h (fun h => ?_) (fun h => ?_)
  · refine E_ldc2 (pc := 15) q12_293 dX12_courses_15 ?_
    refine E_lstore_n (pc := 18) (L2 := [_, _, _, _, _, _]) rfl rfl dX12_courses_18 ?_
    refine E_iconst (pc := 19) 0 rfl dX12_courses_19 ?_
    refine E_istore_n (pc := 20) (L2 := [_, _, _, _, _, _]) rfl rfl dX12_courses_20 ?_
    refine e_X12_courses_21 ?_ FU h
    · intro y1_9 s10 h
      refine E_iconst (pc := 60) 0 rfl dX12_courses_60 ?_
      refine E_istore_n (pc := 61) (L2 := [_, _, _, _, _, _]) rfl rfl dX12_courses_61 ?_
      refine e_X12_courses_62 ?_ FU h
      · intro y1_36 s37 h
        refine E_lconst (pc := 238) 0 rfl dX12_courses_238 ?_
        refine E_lstore_n (pc := 239) (L2 := [_, _, _, _, _, _]) rfl rfl dX12_courses_239 ?_
        refine E_iconst (pc := 240) 0 rfl dX12_courses_240 ?_
        refine E_istore (pc := 241) (L2 := [_, _, _, _, _, _]) rfl rfl dX12_courses_241 ?_
        refine e_X12_courses_243  FU h
  · refine E_lconst (pc := 13) 0 rfl dX12_courses_13 ?_
    exact E_lreturn (pc := 14) rfl dX12_courses_14 (QJ_of h)
noncomputable def f_X12_doIn_45 (k100 : Int32 → Int32 → Int32 → Int32 → ST → Option (Int32 × ST)) : Nat → Int32 → Int32 → Int32 → Int32 → Int32 → ST → Option (Int32 × ST)
  | 0, _, _, _, _, _, _ => none
  | n + 1, x1, x2, x3, x4, x5, sg =>
    if x5 < (sg.1 247 40) then
    (bd2 (f_X12_isLeast x2 x4 x5 sg) fun v4 s3 =>
    if v4 = 0 then
    ((f_X12_doIn_45 k100 n) x1 x2 x3 x4 (x5 + nI 1) s3)
    else ((rdI s3 278 28 x5).bind fun v5 =>
    (rdI s3 267 1024 v5).bind fun v6 =>
    if ((v6 >>> (x1 &&& 31)) &&& (nI 1)) = (nI 1) then
    ((f_X12_doIn_45 k100 n) x1 x2 (x3 ||| (nI 2)) x4 (x5 + nI 1) s3)
    else ((f_X12_doIn_45 k100 n) x1 x2 (x3 ||| (nI 1)) x4 (x5 + nI 1) s3)))
    else (k100 x1 x2 x3 x4 sg)
theorem e_X12_doIn_45 {G : GP} {k100 : Int32 → Int32 → Int32 → Int32 → ST → Option (Int32 × ST)} {v : Int32} {s : ST} (hk100 : ∀ {x1 : Int32} {x2 : Int32} {x3 : Int32} {x4 : Int32} {sg : ST}, k100 x1 x2 x3 x4 sg = some (v, s) → E G mX12_doIn (1, 28) 100 [.ref 247, .int x1, .int x2, .int x3, .int x4, D0] [] (mem sg) (QI v s)) : ∀ (n : Nat) {x1 : Int32} {x2 : Int32} {x3 : Int32} {x4 : Int32} {x5 : Int32} {sg : ST}, f_X12_doIn_45 k100 n x1 x2 x3 x4 x5 sg = some (v, s) → E G mX12_doIn (1, 28) 45 [.ref 247, .int x1, .int x2, .int x3, .int x4, .int x5] [] (mem sg) (QI v s) := by
  intro n
  induction n with
  | zero => intro _ _ _ _ _ _ h; rw [f_X12_doIn_45] at h; cases h
  | succ n ih =>
    intro x1 x2 x3 x4 x5 sg h
    rw [f_X12_doIn_45] at h
    refine E_iload (pc := 45) rfl dX12_doIn_45 ?_
    refine E_aload_n (pc := 47) rfl dX12_doIn_47 ?_
    refine R_getI (pc := 48) f12_264 dX12_doIn_48 (ent_st MO247) (by decide) rfl ?_
    refine T_icmp_ge (pc := 51) 100 dX12_doIn_51 (by decide) h (fun h => ?_) (fun h => ?_)
    · refine E_kp [true, true, true, true, true, false] (L2 := [_, _, _, _, _, D0]) rfl rfl ?_
      exact hk100 h
    · refine E_aload_n (pc := 54) rfl dX12_doIn_54 ?_
      refine E_iload_n (pc := 55) rfl dX12_doIn_55 ?_
      refine E_iload (pc := 56) rfl dX12_doIn_56 ?_
      refine E_iload (pc := 58) rfl dX12_doIn_58 ?_
      obtain ⟨v4, s3, hp, h⟩ := bd2_some h
      refine E_callV (pc := 60) (As := [_, _, _]) (fc := (0, 0)) s12_295_12 oX12_isLeast dX12_doIn_60 (mem_ob (ent_st MO247)) rfl rfl (Nat.le_of_ble_eq_true rfl) rfl rfl (by decide) (e_X12_isLeast hp) (fun rv_ M_ hq_ => ?_)
      obtain ⟨rfl, rfl⟩ := hq_
      refine T_if_eq (pc := 63) 94 dX12_doIn_63 (by decide) h (fun h => ?_) (fun h => ?_)
      · refine T_iinc (pc := 94) (m := 1) (L2 := [_, _, _, _, _, _]) rfl rfl rfl rfl dX12_doIn_94 ?_
        refine E_goto (pc := 97) 45 (by decide) dX12_doIn_97 ?_
        exact ih h
      · refine E_iload_n (pc := 66) rfl dX12_doIn_66 ?_
        refine E_aload_n (pc := 67) rfl dX12_doIn_67 ?_
        refine R_getR (pc := 68) (b := 267) f12_72 dX12_doIn_68 (ent_st MO247) (by decide) rfl rfl ?_
        refine E_aload_n (pc := 71) rfl dX12_doIn_71 ?_
        refine R_getR (pc := 72) (b := 278) f12_105 dX12_doIn_72 (ent_st MO247) (by decide) rfl rfl ?_
        refine E_iload (pc := 75) rfl dX12_doIn_75 ?_
        refine T_iald (pc := 77) dX12_doIn_77 (ent_st MA278) (by decide) h (fun v5 h => ?_)
        refine T_iald (pc := 78) dX12_doIn_78 (ent_st MA267) (by decide) h (fun v6 h => ?_)
        refine E_iload_n (pc := 79) rfl dX12_doIn_79 ?_
        refine E_ishr (pc := 80) dX12_doIn_80 ?_
        refine E_iconst (pc := 81) 1 rfl dX12_doIn_81 ?_
        refine E_iand (pc := 82) dX12_doIn_82 ?_
        refine E_iconst (pc := 83) 1 rfl dX12_doIn_83 ?_
        refine T_icmp_ne (pc := 84) 91 dX12_doIn_84 (by decide) h (fun h => ?_) (fun h => ?_)
        · refine E_iconst (pc := 91) 1 rfl dX12_doIn_91 ?_
          refine E_ior (pc := 92) dX12_doIn_92 ?_
          refine E_istore_n (pc := 93) (L2 := [_, _, _, _, _, _]) rfl rfl dX12_doIn_93 ?_
          refine T_iinc (pc := 94) (m := 1) (L2 := [_, _, _, _, _, _]) rfl rfl rfl rfl dX12_doIn_94 ?_
          refine E_goto (pc := 97) 45 (by decide) dX12_doIn_97 ?_
          exact ih h
        · refine E_iconst (pc := 87) 2 rfl dX12_doIn_87 ?_
          refine E_goto (pc := 88) 92 (by decide) dX12_doIn_88 ?_
          refine E_ior (pc := 92) dX12_doIn_92 ?_
          refine E_istore_n (pc := 93) (L2 := [_, _, _, _, _, _]) rfl rfl dX12_doIn_93 ?_
          refine T_iinc (pc := 94) (m := 1) (L2 := [_, _, _, _, _, _]) rfl rfl rfl rfl dX12_doIn_94 ?_
          refine E_goto (pc := 97) 45 (by decide) dX12_doIn_97 ?_
          exact ih h
noncomputable def f_X12_doIn_5 : Nat → Int32 → Int32 → Int32 → Int32 → ST → Option (Int32 × ST)
  | 0, _, _, _, _, _ => none
  | n + 1, x1, x2, x3, x4, sg =>
    if x4 < (nI 1024) then
    ((rdI sg 276 13312 (((nI 1024) * x2) + x4)).bind fun v1 =>
    if v1 = (nI 100000000) then
    ((f_X12_doIn_5 n) x1 x2 x3 (x4 + nI 1) sg)
    else ((f_X12_edgesOf x2 x4 sg).bind fun s2 =>
    f_X12_doIn_45 (fun x1_7 x2_8 x3_9 x4_10 s11 =>
    (f_X12_doIn_5 n) x1_7 x2_8 x3_9 (x4_10 + nI 1) s11) FU x1 x2 x3 x4 (nI 0) s2))
    else (some (x3, sg))
theorem e_X12_doIn_5 {G : GP} {v : Int32} {s : ST}  : ∀ (n : Nat) {x1 : Int32} {x2 : Int32} {x3 : Int32} {x4 : Int32} {sg : ST}, f_X12_doIn_5 n x1 x2 x3 x4 sg = some (v, s) → E G mX12_doIn (1, 28) 5 [.ref 247, .int x1, .int x2, .int x3, .int x4, D0] [] (mem sg) (QI v s) := by
  intro n
  induction n with
  | zero => intro _ _ _ _ _ h; rw [f_X12_doIn_5] at h; cases h
  | succ n ih =>
    intro x1 x2 x3 x4 sg h
    rw [f_X12_doIn_5] at h
    refine E_iload (pc := 5) rfl dX12_doIn_5 ?_
    refine E_sipush (pc := 7) (nI 1024) (by decide) dX12_doIn_7 ?_
    refine T_icmp_ge (pc := 10) 106 dX12_doIn_10 (by decide) h (fun h => ?_) (fun h => ?_)
    · refine E_iload_n (pc := 106) rfl dX12_doIn_106 ?_
      exact E_ireturn (pc := 107) rfl rfl dX12_doIn_107 (QI_of h)
    · refine E_aload_n (pc := 13) rfl dX12_doIn_13 ?_
      refine R_getR (pc := 14) (b := 276) f12_99 dX12_doIn_14 (ent_st MO247) (by decide) rfl rfl ?_
      refine E_sipush (pc := 17) (nI 1024) (by decide) dX12_doIn_17 ?_
      refine E_iload_n (pc := 20) rfl dX12_doIn_20 ?_
      refine E_imul (pc := 21) dX12_doIn_21 ?_
      refine E_iload (pc := 22) rfl dX12_doIn_22 ?_
      refine E_iadd (pc := 24) dX12_doIn_24 ?_
      refine T_iald (pc := 25) dX12_doIn_25 (ent_st MA276) (by decide) h (fun v1 h => ?_)
      refine E_ldcw (pc := 26) (v := nI 100000000) q12_274 dX12_doIn_26 ?_
      refine T_icmp_ne (pc := 29) 35 dX12_doIn_29 (by decide) h (fun h => ?_) (fun h => ?_)
      · refine E_aload_n (pc := 35) rfl dX12_doIn_35 ?_
        refine E_iload_n (pc := 36) rfl dX12_doIn_36 ?_
        refine E_iload (pc := 37) rfl dX12_doIn_37 ?_
        obtain ⟨s2, hp, h⟩ := bd_some h
        refine E_callV (pc := 39) (As := [_, _]) (fc := (0, 0)) s12_275_12 oX12_edgesOf dX12_doIn_39 (mem_ob (ent_st MO247)) rfl rfl (Nat.le_of_ble_eq_true rfl) rfl rfl (by decide) (e_X12_edgesOf hp) (fun rv_ M_ hq_ => ?_)
        obtain ⟨rfl, rfl⟩ := hq_
        refine E_iconst (pc := 42) 0 rfl dX12_doIn_42 ?_
        refine E_istore (pc := 43) (L2 := [_, _, _, _, _, _]) rfl rfl dX12_doIn_43 ?_
        refine e_X12_doIn_45 ?_ FU h
        · intro x1_7 x2_8 x3_9 x4_10 s11 h
          refine T_iinc (pc := 100) (m := 1) (L2 := [_, _, _, _, _, _]) rfl rfl rfl rfl dX12_doIn_100 ?_
          refine E_goto (pc := 103) 5 (by decide) dX12_doIn_103 ?_
          exact ih h
      · refine E_goto (pc := 32) 100 (by decide) dX12_doIn_32 ?_
        refine T_iinc (pc := 100) (m := 1) (L2 := [_, _, _, _, _, _]) rfl rfl rfl rfl dX12_doIn_100 ?_
        refine E_goto (pc := 103) 5 (by decide) dX12_doIn_103 ?_
        exact ih h
noncomputable def f_X12_doIn (x1 : Int32) (x2 : Int32) (σ : ST) : Option (Int32 × ST) :=
    f_X12_doIn_5 FU x1 x2 (nI 0) (nI 0) σ
theorem e_X12_doIn {G : GP} {x1 : Int32} {x2 : Int32} {σ : ST} {v : Int32} {s : ST}  (h : f_X12_doIn x1 x2 σ = some (v, s)) : E G mX12_doIn (1, 28) 0 [.ref 247, .int x1, .int x2, D0, D0, D0] [] (mem σ) (QI v s) := by
  unfold f_X12_doIn at h
  refine E_iconst (pc := 0) 0 rfl dX12_doIn_0 ?_
  refine E_istore_n (pc := 1) (L2 := [_, _, _, _, _, _]) rfl rfl dX12_doIn_1 ?_
  refine E_iconst (pc := 2) 0 rfl dX12_doIn_2 ?_
  refine E_istore (pc := 3) (L2 := [_, _, _, _, _, _]) rfl rfl dX12_doIn_3 ?_
  refine e_X12_doIn_5  FU h
noncomputable def f_X12_isOf (x1 : Int32) (x2 : Int32) (σ : ST) : Option (Int32 × ST) :=
    bd2 (f_X12_doIn x1 x2 σ) fun v2 s1 =>
    if v2 = (nI 3) then
    (some ((nI 2), s1))
    else (if v2 = (nI 2) then
    (some ((nI 1), s1))
    else (some ((nI 0), s1)))
theorem e_X12_isOf {G : GP} {x1 : Int32} {x2 : Int32} {σ : ST} {v : Int32} {s : ST}  (h : f_X12_isOf x1 x2 σ = some (v, s)) : E G mX12_isOf (2, 53) 0 [.ref 247, .int x1, .int x2, D0] [] (mem σ) (QI v s) := by
  unfold f_X12_isOf at h
  refine E_aload_n (pc := 0) rfl dX12_isOf_0 ?_
  refine E_iload_n (pc := 1) rfl dX12_isOf_1 ?_
  refine E_iload_n (pc := 2) rfl dX12_isOf_2 ?_
  obtain ⟨v2, s1, hp, h⟩ := bd2_some h
  refine E_callV (pc := 3) (As := [_, _]) (fc := (1, 28)) s12_301_12 oX12_doIn dX12_isOf_3 (mem_ob (ent_st MO247)) rfl rfl (Nat.le_of_ble_eq_true rfl) rfl rfl (by decide) (e_X12_doIn hp) (fun rv_ M_ hq_ => ?_)
  obtain ⟨rfl, rfl⟩ := hq_
  refine E_istore_n (pc := 6) (L2 := [_, _, _, _]) rfl rfl dX12_isOf_6 ?_
  refine E_iload_n (pc := 7) rfl dX12_isOf_7 ?_
  refine E_iconst (pc := 8) 3 rfl dX12_isOf_8 ?_
  refine T_icmp_ne (pc := 9) 16 dX12_isOf_9 (by decide) h (fun h => ?_) (fun h => ?_)
  · refine E_iload_n (pc := 16) rfl dX12_isOf_16 ?_
    refine E_iconst (pc := 17) 2 rfl dX12_isOf_17 ?_
    refine T_icmp_ne (pc := 18) 25 dX12_isOf_18 (by decide) h (fun h => ?_) (fun h => ?_)
    · refine E_iconst (pc := 25) 0 rfl dX12_isOf_25 ?_
      exact E_ireturn (pc := 26) rfl rfl dX12_isOf_26 (QI_of h)
    · refine E_iconst (pc := 21) 1 rfl dX12_isOf_21 ?_
      refine E_goto (pc := 22) 26 (by decide) dX12_isOf_22 ?_
      exact E_ireturn (pc := 26) rfl rfl dX12_isOf_26 (QI_of h)
  · refine E_iconst (pc := 12) 2 rfl dX12_isOf_12 ?_
    refine E_goto (pc := 13) 26 (by decide) dX12_isOf_13 ?_
    exact E_ireturn (pc := 26) rfl rfl dX12_isOf_26 (QI_of h)
noncomputable def f_X12_is (x1 : Int32) (x2 : Int32) (σ : ST) : Option (Int32 × ST) :=
    bd2 (f_X12_isThing x1 σ) fun v2 s1 =>
    if v2 = 0 then
    (some ((-1), s1))
    else (bd2 (f_X12_isHour x2 s1) fun v4 s3 =>
    if v4 = 0 then
    (some ((-1), s3))
    else (bd2 (f_X12_all s3) fun v6 s5 =>
    bd2 (f_X12_solve v6 (-1) (-1) s5) fun v8 s7 =>
    if v8 = 0 then
    (some ((-1), s7))
    else (bd2 (f_X12_isOf x1 x2 s7) fun v10 s9 =>
    some (v10, s9))))
theorem e_X12_is {G : GP} {x1 : Int32} {x2 : Int32} {σ : ST} {v : Int32} {s : ST}  (h : f_X12_is x1 x2 σ = some (v, s)) : E G mX12_is (3, 89) 0 [.ref 247, .int x1, .int x2] [] (mem σ) (QI v s) := by
  unfold f_X12_is at h
  refine E_aload_n (pc := 0) rfl dX12_is_0 ?_
  refine E_iload_n (pc := 1) rfl dX12_is_1 ?_
  obtain ⟨v2, s1, hp, h⟩ := bd2_some h
  refine E_callV (pc := 2) (As := [_]) (fc := (0, 0)) s12_191_12 oX12_isThing dX12_is_2 (mem_ob (ent_st MO247)) rfl rfl (Nat.le_of_ble_eq_true rfl) rfl rfl (by decide) (e_X12_isThing hp) (fun rv_ M_ hq_ => ?_)
  obtain ⟨rfl, rfl⟩ := hq_
  refine T_if_eq (pc := 5) 29 dX12_is_5 (by decide) h (fun h => ?_) (fun h => ?_)
  · refine E_im1 (pc := 29) dX12_is_29 ?_
    exact E_ireturn (pc := 30) rfl rfl dX12_is_30 (QI_of h)
  · refine E_aload_n (pc := 8) rfl dX12_is_8 ?_
    refine E_iload_n (pc := 9) rfl dX12_is_9 ?_
    obtain ⟨v4, s3, hp, h⟩ := bd2_some h
    refine E_callV (pc := 10) (As := [_]) (fc := (0, 0)) s12_168_12 oX12_isHour dX12_is_10 (mem_ob (ent_st MO247)) rfl rfl (Nat.le_of_ble_eq_true rfl) rfl rfl (by decide) (e_X12_isHour hp) (fun rv_ M_ hq_ => ?_)
    obtain ⟨rfl, rfl⟩ := hq_
    refine T_if_eq (pc := 13) 29 dX12_is_13 (by decide) h (fun h => ?_) (fun h => ?_)
    · refine E_im1 (pc := 29) dX12_is_29 ?_
      exact E_ireturn (pc := 30) rfl rfl dX12_is_30 (QI_of h)
    · refine E_aload_n (pc := 16) rfl dX12_is_16 ?_
      refine E_aload_n (pc := 17) rfl dX12_is_17 ?_
      obtain ⟨v6, s5, hp, h⟩ := bd2_some h
      refine E_callV (pc := 18) (As := []) (fc := (0, 0)) s12_286_12 oX12_all dX12_is_18 (mem_ob (ent_st MO247)) rfl rfl (Nat.le_of_ble_eq_true rfl) rfl rfl (by decide) (e_X12_all hp) (fun rv_ M_ hq_ => ?_)
      obtain ⟨rfl, rfl⟩ := hq_
      refine E_im1 (pc := 21) dX12_is_21 ?_
      refine E_im1 (pc := 22) dX12_is_22 ?_
      obtain ⟨v8, s7, hp, h⟩ := bd2_some h
      refine E_callV (pc := 23) (As := [_, _, _]) (fc := (2, 61)) s12_289_12 oX12_solve dX12_is_23 (mem_ob (ent_st MO247)) rfl rfl (Nat.le_of_ble_eq_true rfl) rfl rfl (by decide) (e_X12_solve hp) (fun rv_ M_ hq_ => ?_)
      obtain ⟨rfl, rfl⟩ := hq_
      refine T_if_ne (pc := 26) 31 dX12_is_26 (by decide) h (fun h => ?_) (fun h => ?_)
      · refine E_aload_n (pc := 31) rfl dX12_is_31 ?_
        refine E_iload_n (pc := 32) rfl dX12_is_32 ?_
        refine E_iload_n (pc := 33) rfl dX12_is_33 ?_
        obtain ⟨v10, s9, hp, h⟩ := bd2_some h
        refine E_callV (pc := 34) (As := [_, _]) (fc := (2, 53)) s12_304_12 oX12_isOf dX12_is_34 (mem_ob (ent_st MO247)) rfl rfl (Nat.le_of_ble_eq_true rfl) rfl rfl (by decide) (e_X12_isOf hp) (fun rv_ M_ hq_ => ?_)
        obtain ⟨rfl, rfl⟩ := hq_
        exact E_ireturn (pc := 37) rfl rfl dX12_is_37 (QI_of h)
      · refine E_im1 (pc := 29) dX12_is_29 ?_
        exact E_ireturn (pc := 30) rfl rfl dX12_is_30 (QI_of h)
noncomputable def f_X12_value_50 : Nat → Int32 → Int32 → Int32 → Int32 → ST → Option (Int32 × ST)
  | 0, _, _, _, _, _ => none
  | n + 1, x2, x3, x4, x5, sg =>
    if x5 < (nI 1024) then
    ((rdI sg 276 13312 (((nI 1024) * x2) + x5)).bind fun v10 =>
    if v10 = (nI 100000000) then
    ((f_X12_value_50 n) x2 x3 x4 (x5 + nI 1) sg)
    else ((rdI sg 276 13312 (((nI 1024) * x2) + x5)).bind fun v11 =>
    (rdI sg 277 13312 (((nI 1024) * x2) + x5)).bind fun v12 =>
    if (v11 + v12) = (sg.1 247 39) then
    ((f_X12_value_50 n) x2 (if x3 < ((x5 >>> ((nI 5) &&& 31)) &&& (nI 7)) then ((x5 >>> ((nI 5) &&& 31)) &&& (nI 7)) else x3) (if ((x5 >>> ((nI 5) &&& 31)) &&& (nI 7)) < x4 then ((x5 >>> ((nI 5) &&& 31)) &&& (nI 7)) else x4) (x5 + nI 1) sg)
    else ((f_X12_value_50 n) x2 x3 x4 (x5 + nI 1) sg)))
    else (some ((((nI 10) * x3) + x4), sg))
theorem e_X12_value_50 {G : GP} {v : Int32} {s : ST}  : ∀ (n : Nat) {x2 : Int32} {x3 : Int32} {x4 : Int32} {x5 : Int32} {sg : ST}, f_X12_value_50 n x2 x3 x4 x5 sg = some (v, s) → E G mX12_value (3, 89) 50 [.ref 247, D0, .int x2, .int x3, .int x4, .int x5] [] (mem sg) (QI v s) := by
  intro n
  induction n with
  | zero => intro _ _ _ _ _ h; rw [f_X12_value_50] at h; cases h
  | succ n ih =>
    intro x2 x3 x4 x5 sg h
    rw [f_X12_value_50] at h
    refine E_iload (pc := 50) rfl dX12_value_50 ?_
    refine E_sipush (pc := 52) (nI 1024) (by decide) dX12_value_52 ?_
    refine T_icmp_ge (pc := 55) 146 dX12_value_55 (by decide) h (fun h => ?_) (fun h => ?_)
    · refine E_bipush (pc := 146) (nI 10) (by decide) dX12_value_146 ?_
      refine E_iload_n (pc := 148) rfl dX12_value_148 ?_
      refine E_imul (pc := 149) dX12_value_149 ?_
      refine E_iload (pc := 150) rfl dX12_value_150 ?_
      refine E_iadd (pc := 152) dX12_value_152 ?_
      exact E_ireturn (pc := 153) rfl rfl dX12_value_153 (QI_of h)
    · refine E_aload_n (pc := 58) rfl dX12_value_58 ?_
      refine R_getR (pc := 59) (b := 276) f12_99 dX12_value_59 (ent_st MO247) (by decide) rfl rfl ?_
      refine E_sipush (pc := 62) (nI 1024) (by decide) dX12_value_62 ?_
      refine E_iload_n (pc := 65) rfl dX12_value_65 ?_
      refine E_imul (pc := 66) dX12_value_66 ?_
      refine E_iload (pc := 67) rfl dX12_value_67 ?_
      refine E_iadd (pc := 69) dX12_value_69 ?_
      refine T_iald (pc := 70) dX12_value_70 (ent_st MA276) (by decide) h (fun v10 h => ?_)
      refine E_ldcw (pc := 71) (v := nI 100000000) q12_274 dX12_value_71 ?_
      refine T_icmp_eq (pc := 74) 140 dX12_value_74 (by decide) h (fun h => ?_) (fun h => ?_)
      · refine T_iinc (pc := 140) (m := 1) (L2 := [_, _, _, _, _, _]) rfl rfl rfl rfl dX12_value_140 ?_
        refine E_goto (pc := 143) 50 (by decide) dX12_value_143 ?_
        exact ih h
      · refine E_aload_n (pc := 77) rfl dX12_value_77 ?_
        refine R_getR (pc := 78) (b := 276) f12_99 dX12_value_78 (ent_st MO247) (by decide) rfl rfl ?_
        refine E_sipush (pc := 81) (nI 1024) (by decide) dX12_value_81 ?_
        refine E_iload_n (pc := 84) rfl dX12_value_84 ?_
        refine E_imul (pc := 85) dX12_value_85 ?_
        refine E_iload (pc := 86) rfl dX12_value_86 ?_
        refine E_iadd (pc := 88) dX12_value_88 ?_
        refine T_iald (pc := 89) dX12_value_89 (ent_st MA276) (by decide) h (fun v11 h => ?_)
        refine E_aload_n (pc := 90) rfl dX12_value_90 ?_
        refine R_getR (pc := 91) (b := 277) f12_102 dX12_value_91 (ent_st MO247) (by decide) rfl rfl ?_
        refine E_sipush (pc := 94) (nI 1024) (by decide) dX12_value_94 ?_
        refine E_iload_n (pc := 97) rfl dX12_value_97 ?_
        refine E_imul (pc := 98) dX12_value_98 ?_
        refine E_iload (pc := 99) rfl dX12_value_99 ?_
        refine E_iadd (pc := 101) dX12_value_101 ?_
        refine T_iald (pc := 102) dX12_value_102 (ent_st MA277) (by decide) h (fun v12 h => ?_)
        refine E_iadd (pc := 103) dX12_value_103 ?_
        refine E_aload_n (pc := 104) rfl dX12_value_104 ?_
        refine R_getI (pc := 105) f12_283 dX12_value_105 (ent_st MO247) (by decide) rfl ?_
        refine T_icmp_eq (pc := 108) 114 dX12_value_108 (by decide) h (fun h => ?_) (fun h => ?_)
        · refine E_iload_n (pc := 114) rfl dX12_value_114 ?_
          refine E_iload (pc := 115) rfl dX12_value_115 ?_
          refine E_iconst (pc := 117) 5 rfl dX12_value_117 ?_
          refine E_ishr (pc := 118) dX12_value_118 ?_
          refine E_bipush (pc := 119) (nI 7) (by decide) dX12_value_119 ?_
          refine E_iand (pc := 121) dX12_value_121 ?_
          refine E_mmax (pc := 122) (by decide +kernel) (by decide) (Nat.le_of_ble_eq_true rfl) dX12_value_122 ?_
          refine E_istore_n (pc := 125) (L2 := [_, _, _, _, _, _]) rfl rfl dX12_value_125 ?_
          refine E_iload (pc := 126) rfl dX12_value_126 ?_
          refine E_iload (pc := 128) rfl dX12_value_128 ?_
          refine E_iconst (pc := 130) 5 rfl dX12_value_130 ?_
          refine E_ishr (pc := 131) dX12_value_131 ?_
          refine E_bipush (pc := 132) (nI 7) (by decide) dX12_value_132 ?_
          refine E_iand (pc := 134) dX12_value_134 ?_
          refine E_mmin (pc := 135) (by decide +kernel) (by decide) (Nat.le_of_ble_eq_true rfl) dX12_value_135 ?_
          refine E_istore (pc := 138) (L2 := [_, _, _, _, _, _]) rfl rfl dX12_value_138 ?_
          refine T_iinc (pc := 140) (m := 1) (L2 := [_, _, _, _, _, _]) rfl rfl rfl rfl dX12_value_140 ?_
          refine E_goto (pc := 143) 50 (by decide) dX12_value_143 ?_
          exact ih h
        · refine E_goto (pc := 111) 140 (by decide) dX12_value_111 ?_
          refine T_iinc (pc := 140) (m := 1) (L2 := [_, _, _, _, _, _]) rfl rfl rfl rfl dX12_value_140 ?_
          refine E_goto (pc := 143) 50 (by decide) dX12_value_143 ?_
          exact ih h
noncomputable def f_X12_value (x1 : Int32) (x2 : Int32) (σ : ST) : Option (Int32 × ST) :=
    bd2 (f_X12_isThing x1 σ) fun v2 s1 =>
    if v2 = 0 then
    (some ((-1), s1))
    else ((rdI s1 248 10 x1).bind fun v3 =>
    if v3 = (nI 3) then
    (bd2 (f_X12_isHour x2 s1) fun v5 s4 =>
    if v5 = 0 then
    (some ((-1), s4))
    else (bd2 (f_X12_all s4) fun v7 s6 =>
    bd2 (f_X12_solve v7 (-1) (-1) s6) fun v9 s8 =>
    if v9 = 0 then
    (some ((-1), s8))
    else (f_X12_value_50 FU x2 (-1) (nI 9) (nI 0) s8)))
    else (some ((-1), s1)))
theorem e_X12_value {G : GP} {x1 : Int32} {x2 : Int32} {σ : ST} {v : Int32} {s : ST}  (h : f_X12_value x1 x2 σ = some (v, s)) : E G mX12_value (3, 89) 0 [.ref 247, .int x1, .int x2, D0, D0, D0] [] (mem σ) (QI v s) := by
  unfold f_X12_value at h
  refine E_aload_n (pc := 0) rfl dX12_value_0 ?_
  refine E_iload_n (pc := 1) rfl dX12_value_1 ?_
  obtain ⟨v2, s1, hp, h⟩ := bd2_some h
  refine E_callV (pc := 2) (As := [_]) (fc := (0, 0)) s12_191_12 oX12_isThing dX12_value_2 (mem_ob (ent_st MO247)) rfl rfl (Nat.le_of_ble_eq_true rfl) rfl rfl (by decide) (e_X12_isThing hp) (fun rv_ M_ hq_ => ?_)
  obtain ⟨rfl, rfl⟩ := hq_
  refine T_if_eq (pc := 5) 39 dX12_value_5 (by decide) h (fun h => ?_) (fun h => ?_)
  · refine E_im1 (pc := 39) dX12_value_39 ?_
    exact E_ireturn (pc := 40) rfl rfl dX12_value_40 (QI_of h)
  · refine E_aload_n (pc := 8) rfl dX12_value_8 ?_
    refine R_getR (pc := 9) (b := 248) f12_7 dX12_value_9 (ent_st MO247) (by decide) rfl rfl ?_
    refine E_iload_n (pc := 12) rfl dX12_value_12 ?_
    refine T_iald (pc := 13) dX12_value_13 (ent_st MA248) (by decide) h (fun v3 h => ?_)
    refine E_iconst (pc := 14) 3 rfl dX12_value_14 ?_
    refine T_icmp_ne (pc := 15) 39 dX12_value_15 (by decide) h (fun h => ?_) (fun h => ?_)
    · refine E_im1 (pc := 39) dX12_value_39 ?_
      exact E_ireturn (pc := 40) rfl rfl dX12_value_40 (QI_of h)
    · refine E_aload_n (pc := 18) rfl dX12_value_18 ?_
      refine E_iload_n (pc := 19) rfl dX12_value_19 ?_
      obtain ⟨v5, s4, hp, h⟩ := bd2_some h
      refine E_callV (pc := 20) (As := [_]) (fc := (0, 0)) s12_168_12 oX12_isHour dX12_value_20 (mem_ob (ent_st MO247)) rfl rfl (Nat.le_of_ble_eq_true rfl) rfl rfl (by decide) (e_X12_isHour hp) (fun rv_ M_ hq_ => ?_)
      obtain ⟨rfl, rfl⟩ := hq_
      refine T_if_eq (pc := 23) 39 dX12_value_23 (by decide) h (fun h => ?_) (fun h => ?_)
      · refine E_im1 (pc := 39) dX12_value_39 ?_
        exact E_ireturn (pc := 40) rfl rfl dX12_value_40 (QI_of h)
      · refine E_aload_n (pc := 26) rfl dX12_value_26 ?_
        refine E_aload_n (pc := 27) rfl dX12_value_27 ?_
        obtain ⟨v7, s6, hp, h⟩ := bd2_some h
        refine E_callV (pc := 28) (As := []) (fc := (0, 0)) s12_286_12 oX12_all dX12_value_28 (mem_ob (ent_st MO247)) rfl rfl (Nat.le_of_ble_eq_true rfl) rfl rfl (by decide) (e_X12_all hp) (fun rv_ M_ hq_ => ?_)
        obtain ⟨rfl, rfl⟩ := hq_
        refine E_im1 (pc := 31) dX12_value_31 ?_
        refine E_im1 (pc := 32) dX12_value_32 ?_
        obtain ⟨v9, s8, hp, h⟩ := bd2_some h
        refine E_callV (pc := 33) (As := [_, _, _]) (fc := (2, 61)) s12_289_12 oX12_solve dX12_value_33 (mem_ob (ent_st MO247)) rfl rfl (Nat.le_of_ble_eq_true rfl) rfl rfl (by decide) (e_X12_solve hp) (fun rv_ M_ hq_ => ?_)
        obtain ⟨rfl, rfl⟩ := hq_
        refine T_if_ne (pc := 36) 41 dX12_value_36 (by decide) h (fun h => ?_) (fun h => ?_)
        · refine E_im1 (pc := 41) dX12_value_41 ?_
          refine E_istore_n (pc := 42) (L2 := [_, _, _, _, _, _]) rfl rfl dX12_value_42 ?_
          refine E_bipush (pc := 43) (nI 9) (by decide) dX12_value_43 ?_
          refine E_istore (pc := 45) (L2 := [_, _, _, _, _, _]) rfl rfl dX12_value_45 ?_
          refine E_iconst (pc := 47) 0 rfl dX12_value_47 ?_
          refine E_istore (pc := 48) (L2 := [_, _, _, _, _, _]) rfl rfl dX12_value_48 ?_
          refine E_kp [true, false, true, true, true, true] (L2 := [_, D0, _, _, _, _]) rfl rfl ?_
          refine e_X12_value_50  FU h
        · refine E_im1 (pc := 39) dX12_value_39 ?_
          exact E_ireturn (pc := 40) rfl rfl dX12_value_40 (QI_of h)
noncomputable def f_X12_why_27 : Nat → Int32 → Int32 → Int32 → Int32 → Int32 → ST → Option (Int32 × ST)
  | 0, _, _, _, _, _, _ => none
  | n + 1, x1, x2, x3, x4, x5, sg =>
    if x5 < (sg.1 247 9) then
    (if ((x4 >>> (x5 &&& 31)) &&& (nI 1)) = 0 then
    ((f_X12_why_27 n) x1 x2 x3 x4 (x5 + nI 1) sg)
    else (bd2 (f_X12_solve (x4 &&& (((nI 1) <<< (x5 &&& 31)) ^^^ (-1))) (-1) (-1) sg) fun v6 s5 =>
    if v6 = 0 then
    ((f_X12_why_27 n) x1 x2 x3 x4 (x5 + nI 1) s5)
    else (bd2 (f_X12_isOf x1 x2 s5) fun v8 s7 =>
    if v8 = x3 then
    ((f_X12_why_27 n) x1 x2 x3 (x4 &&& (((nI 1) <<< (x5 &&& 31)) ^^^ (-1))) (x5 + nI 1) s7)
    else ((f_X12_why_27 n) x1 x2 x3 x4 (x5 + nI 1) s7))))
    else (some (x4, sg))
theorem e_X12_why_27 {G : GP} {v : Int32} {s : ST}  : ∀ (n : Nat) {x1 : Int32} {x2 : Int32} {x3 : Int32} {x4 : Int32} {x5 : Int32} {sg : ST}, f_X12_why_27 n x1 x2 x3 x4 x5 sg = some (v, s) → E G mX12_why (4, 111) 27 [.ref 247, .int x1, .int x2, .int x3, .int x4, .int x5, D0] [] (mem sg) (QI v s) := by
  intro n
  induction n with
  | zero => intro _ _ _ _ _ _ h; rw [f_X12_why_27] at h; cases h
  | succ n ih =>
    intro x1 x2 x3 x4 x5 sg h
    rw [f_X12_why_27] at h
    refine E_iload (pc := 27) rfl dX12_why_27 ?_
    refine E_aload_n (pc := 29) rfl dX12_why_29 ?_
    refine R_getI (pc := 30) f12_165 dX12_why_30 (ent_st MO247) (by decide) rfl ?_
    refine T_icmp_ge (pc := 33) 91 dX12_why_33 (by decide) h (fun h => ?_) (fun h => ?_)
    · refine E_iload (pc := 91) rfl dX12_why_91 ?_
      exact E_ireturn (pc := 93) rfl rfl dX12_why_93 (QI_of h)
    · refine E_iload (pc := 36) rfl dX12_why_36 ?_
      refine E_iload (pc := 38) rfl dX12_why_38 ?_
      refine E_ishr (pc := 40) dX12_why_40 ?_
      refine E_iconst (pc := 41) 1 rfl dX12_why_41 ?_
      refine E_iand (pc := 42) dX12_why_42 ?_
      refine T_if_ne (pc := 43) 49 dX12_why_43 (by decide) h (fun h => ?_) (fun h => ?_)
      · refine E_iload (pc := 49) rfl dX12_why_49 ?_
        refine E_iconst (pc := 51) 1 rfl dX12_why_51 ?_
        refine E_iload (pc := 52) rfl dX12_why_52 ?_
        refine E_ishl (pc := 54) dX12_why_54 ?_
        refine E_im1 (pc := 55) dX12_why_55 ?_
        refine E_ixor (pc := 56) dX12_why_56 ?_
        refine E_iand (pc := 57) dX12_why_57 ?_
        refine E_istore (pc := 58) (L2 := [_, _, _, _, _, _, _]) rfl rfl dX12_why_58 ?_
        refine E_aload_n (pc := 60) rfl dX12_why_60 ?_
        refine E_iload (pc := 61) rfl dX12_why_61 ?_
        refine E_im1 (pc := 63) dX12_why_63 ?_
        refine E_im1 (pc := 64) dX12_why_64 ?_
        obtain ⟨v6, s5, hp, h⟩ := bd2_some h
        refine E_callV (pc := 65) (As := [_, _, _]) (fc := (2, 61)) s12_289_12 oX12_solve dX12_why_65 (mem_ob (ent_st MO247)) rfl rfl (Nat.le_of_ble_eq_true rfl) rfl rfl (by decide) (e_X12_solve hp) (fun rv_ M_ hq_ => ?_)
        obtain ⟨rfl, rfl⟩ := hq_
        refine T_if_eq (pc := 68) 85 dX12_why_68 (by decide) h (fun h => ?_) (fun h => ?_)
        · refine T_iinc (pc := 85) (m := 1) (L2 := [_, _, _, _, _, _, _]) rfl rfl rfl rfl dX12_why_85 ?_
          refine E_goto (pc := 88) 27 (by decide) dX12_why_88 ?_
          refine E_kp [true, true, true, true, true, true, false] (L2 := [_, _, _, _, _, _, D0]) rfl rfl ?_
          exact ih h
        · refine E_aload_n (pc := 71) rfl dX12_why_71 ?_
          refine E_iload_n (pc := 72) rfl dX12_why_72 ?_
          refine E_iload_n (pc := 73) rfl dX12_why_73 ?_
          obtain ⟨v8, s7, hp, h⟩ := bd2_some h
          refine E_callV (pc := 74) (As := [_, _]) (fc := (2, 53)) s12_304_12 oX12_isOf dX12_why_74 (mem_ob (ent_st MO247)) rfl rfl (Nat.le_of_ble_eq_true rfl) rfl rfl (by decide) (e_X12_isOf hp) (fun rv_ M_ hq_ => ?_)
          obtain ⟨rfl, rfl⟩ := hq_
          refine E_iload_n (pc := 77) rfl dX12_why_77 ?_
          refine T_icmp_ne (pc := 78) 85 dX12_why_78 (by decide) h (fun h => ?_) (fun h => ?_)
          · refine T_iinc (pc := 85) (m := 1) (L2 := [_, _, _, _, _, _, _]) rfl rfl rfl rfl dX12_why_85 ?_
            refine E_goto (pc := 88) 27 (by decide) dX12_why_88 ?_
            refine E_kp [true, true, true, true, true, true, false] (L2 := [_, _, _, _, _, _, D0]) rfl rfl ?_
            exact ih h
          · refine E_iload (pc := 81) rfl dX12_why_81 ?_
            refine E_istore (pc := 83) (L2 := [_, _, _, _, _, _, _]) rfl rfl dX12_why_83 ?_
            refine T_iinc (pc := 85) (m := 1) (L2 := [_, _, _, _, _, _, _]) rfl rfl rfl rfl dX12_why_85 ?_
            refine E_goto (pc := 88) 27 (by decide) dX12_why_88 ?_
            refine E_kp [true, true, true, true, true, true, false] (L2 := [_, _, _, _, _, _, D0]) rfl rfl ?_
            exact ih h
      · refine E_goto (pc := 46) 85 (by decide) dX12_why_46 ?_
        refine T_iinc (pc := 85) (m := 1) (L2 := [_, _, _, _, _, _, _]) rfl rfl rfl rfl dX12_why_85 ?_
        refine E_goto (pc := 88) 27 (by decide) dX12_why_88 ?_
        exact ih h
noncomputable def f_X12_why (x1 : Int32) (x2 : Int32) (σ : ST) : Option (Int32 × ST) :=
    bd2 (f_X12_is x1 x2 σ) fun v2 s1 =>
    if v2 < 0 then
    (some ((-1), s1))
    else (if v2 = (nI 2) then
    (some ((-1), s1))
    else (bd2 (f_X12_all s1) fun v4 s3 =>
    f_X12_why_27 FU x1 x2 v2 v4 (nI 0) s3))
theorem e_X12_why {G : GP} {x1 : Int32} {x2 : Int32} {σ : ST} {v : Int32} {s : ST}  (h : f_X12_why x1 x2 σ = some (v, s)) : E G mX12_why (4, 111) 0 [.ref 247, .int x1, .int x2, D0, D0, D0, D0] [] (mem σ) (QI v s) := by
  unfold f_X12_why at h
  refine E_aload_n (pc := 0) rfl dX12_why_0 ?_
  refine E_iload_n (pc := 1) rfl dX12_why_1 ?_
  refine E_iload_n (pc := 2) rfl dX12_why_2 ?_
  obtain ⟨v2, s1, hp, h⟩ := bd2_some h
  refine E_callV (pc := 3) (As := [_, _]) (fc := (3, 89)) s12_310_12 oX12_is dX12_why_3 (mem_ob (ent_st MO247)) rfl rfl (Nat.le_of_ble_eq_true rfl) rfl rfl (by decide) (e_X12_is hp) (fun rv_ M_ hq_ => ?_)
  obtain ⟨rfl, rfl⟩ := hq_
  refine E_istore_n (pc := 6) (L2 := [_, _, _, _, _, _, _]) rfl rfl dX12_why_6 ?_
  refine E_iload_n (pc := 7) rfl dX12_why_7 ?_
  refine T_if_lt (pc := 8) 16 dX12_why_8 (by decide) h (fun h => ?_) (fun h => ?_)
  · refine E_im1 (pc := 16) dX12_why_16 ?_
    exact E_ireturn (pc := 17) rfl rfl dX12_why_17 (QI_of h)
  · refine E_iload_n (pc := 11) rfl dX12_why_11 ?_
    refine E_iconst (pc := 12) 2 rfl dX12_why_12 ?_
    refine T_icmp_ne (pc := 13) 18 dX12_why_13 (by decide) h (fun h => ?_) (fun h => ?_)
    · refine E_aload_n (pc := 18) rfl dX12_why_18 ?_
      obtain ⟨v4, s3, hp, h⟩ := bd2_some h
      refine E_callV (pc := 19) (As := []) (fc := (0, 0)) s12_286_12 oX12_all dX12_why_19 (mem_ob (ent_st MO247)) rfl rfl (Nat.le_of_ble_eq_true rfl) rfl rfl (by decide) (e_X12_all hp) (fun rv_ M_ hq_ => ?_)
      obtain ⟨rfl, rfl⟩ := hq_
      refine E_istore (pc := 22) (L2 := [_, _, _, _, _, _, _]) rfl rfl dX12_why_22 ?_
      refine E_iconst (pc := 24) 0 rfl dX12_why_24 ?_
      refine E_istore (pc := 25) (L2 := [_, _, _, _, _, _, _]) rfl rfl dX12_why_25 ?_
      refine e_X12_why_27  FU h
    · refine E_im1 (pc := 16) dX12_why_16 ?_
      exact E_ireturn (pc := 17) rfl rfl dX12_why_17 (QI_of h)
noncomputable def f_X12_quarrel_19 : Nat → Int32 → Int32 → ST → Option (Int32 × ST)
  | 0, _, _, _ => none
  | n + 1, x1, x2, sg =>
    if x2 < (sg.1 247 9) then
    (if ((x1 >>> (x2 &&& 31)) &&& (nI 1)) = 0 then
    ((f_X12_quarrel_19 n) x1 (x2 + nI 1) sg)
    else (bd2 (f_X12_solve (x1 &&& (((nI 1) <<< (x2 &&& 31)) ^^^ (-1))) (-1) (-1) sg) fun v6 s5 =>
    if v6 = 0 then
    ((f_X12_quarrel_19 n) (x1 &&& (((nI 1) <<< (x2 &&& 31)) ^^^ (-1))) (x2 + nI 1) s5)
    else ((f_X12_quarrel_19 n) x1 (x2 + nI 1) s5)))
    else (some (x1, sg))
theorem e_X12_quarrel_19 {G : GP} {v : Int32} {s : ST}  : ∀ (n : Nat) {x1 : Int32} {x2 : Int32} {sg : ST}, f_X12_quarrel_19 n x1 x2 sg = some (v, s) → E G mX12_quarrel (3, 89) 19 [.ref 247, .int x1, .int x2, D0] [] (mem sg) (QI v s) := by
  intro n
  induction n with
  | zero => intro _ _ _ h; rw [f_X12_quarrel_19] at h; cases h
  | succ n ih =>
    intro x1 x2 sg h
    rw [f_X12_quarrel_19] at h
    refine E_iload_n (pc := 19) rfl dX12_quarrel_19 ?_
    refine E_aload_n (pc := 20) rfl dX12_quarrel_20 ?_
    refine R_getI (pc := 21) f12_165 dX12_quarrel_21 (ent_st MO247) (by decide) rfl ?_
    refine T_icmp_ge (pc := 24) 64 dX12_quarrel_24 (by decide) h (fun h => ?_) (fun h => ?_)
    · refine E_iload_n (pc := 64) rfl dX12_quarrel_64 ?_
      exact E_ireturn (pc := 65) rfl rfl dX12_quarrel_65 (QI_of h)
    · refine E_iload_n (pc := 27) rfl dX12_quarrel_27 ?_
      refine E_iload_n (pc := 28) rfl dX12_quarrel_28 ?_
      refine E_ishr (pc := 29) dX12_quarrel_29 ?_
      refine E_iconst (pc := 30) 1 rfl dX12_quarrel_30 ?_
      refine E_iand (pc := 31) dX12_quarrel_31 ?_
      refine T_if_ne (pc := 32) 38 dX12_quarrel_32 (by decide) h (fun h => ?_) (fun h => ?_)
      · refine E_iload_n (pc := 38) rfl dX12_quarrel_38 ?_
        refine E_iconst (pc := 39) 1 rfl dX12_quarrel_39 ?_
        refine E_iload_n (pc := 40) rfl dX12_quarrel_40 ?_
        refine E_ishl (pc := 41) dX12_quarrel_41 ?_
        refine E_im1 (pc := 42) dX12_quarrel_42 ?_
        refine E_ixor (pc := 43) dX12_quarrel_43 ?_
        refine E_iand (pc := 44) dX12_quarrel_44 ?_
        refine E_istore_n (pc := 45) (L2 := [_, _, _, _]) rfl rfl dX12_quarrel_45 ?_
        refine E_aload_n (pc := 46) rfl dX12_quarrel_46 ?_
        refine E_iload_n (pc := 47) rfl dX12_quarrel_47 ?_
        refine E_im1 (pc := 48) dX12_quarrel_48 ?_
        refine E_im1 (pc := 49) dX12_quarrel_49 ?_
        obtain ⟨v6, s5, hp, h⟩ := bd2_some h
        refine E_callV (pc := 50) (As := [_, _, _]) (fc := (2, 61)) s12_289_12 oX12_solve dX12_quarrel_50 (mem_ob (ent_st MO247)) rfl rfl (Nat.le_of_ble_eq_true rfl) rfl rfl (by decide) (e_X12_solve hp) (fun rv_ M_ hq_ => ?_)
        obtain ⟨rfl, rfl⟩ := hq_
        refine T_if_ne (pc := 53) 58 dX12_quarrel_53 (by decide) h (fun h => ?_) (fun h => ?_)
        · refine T_iinc (pc := 58) (m := 1) (L2 := [_, _, _, _]) rfl rfl rfl rfl dX12_quarrel_58 ?_
          refine E_goto (pc := 61) 19 (by decide) dX12_quarrel_61 ?_
          refine E_kp [true, true, true, false] (L2 := [_, _, _, D0]) rfl rfl ?_
          exact ih h
        · refine E_iload_n (pc := 56) rfl dX12_quarrel_56 ?_
          refine E_istore_n (pc := 57) (L2 := [_, _, _, _]) rfl rfl dX12_quarrel_57 ?_
          refine T_iinc (pc := 58) (m := 1) (L2 := [_, _, _, _]) rfl rfl rfl rfl dX12_quarrel_58 ?_
          refine E_goto (pc := 61) 19 (by decide) dX12_quarrel_61 ?_
          refine E_kp [true, true, true, false] (L2 := [_, _, _, D0]) rfl rfl ?_
          exact ih h
      · refine E_goto (pc := 35) 58 (by decide) dX12_quarrel_35 ?_
        refine T_iinc (pc := 58) (m := 1) (L2 := [_, _, _, _]) rfl rfl rfl rfl dX12_quarrel_58 ?_
        refine E_goto (pc := 61) 19 (by decide) dX12_quarrel_61 ?_
        exact ih h
noncomputable def f_X12_quarrel (σ : ST) : Option (Int32 × ST) :=
    bd2 (f_X12_all σ) fun v2 s1 =>
    bd2 (f_X12_solve v2 (-1) (-1) s1) fun v4 s3 =>
    if v4 = 0 then
    (f_X12_quarrel_19 FU v2 (nI 0) s3)
    else (some ((nI 0), s3))
theorem e_X12_quarrel {G : GP} {σ : ST} {v : Int32} {s : ST}  (h : f_X12_quarrel σ = some (v, s)) : E G mX12_quarrel (3, 89) 0 [.ref 247, D0, D0, D0] [] (mem σ) (QI v s) := by
  unfold f_X12_quarrel at h
  refine E_aload_n (pc := 0) rfl dX12_quarrel_0 ?_
  obtain ⟨v2, s1, hp, h⟩ := bd2_some h
  refine E_callV (pc := 1) (As := []) (fc := (0, 0)) s12_286_12 oX12_all dX12_quarrel_1 (mem_ob (ent_st MO247)) rfl rfl (Nat.le_of_ble_eq_true rfl) rfl rfl (by decide) (e_X12_all hp) (fun rv_ M_ hq_ => ?_)
  obtain ⟨rfl, rfl⟩ := hq_
  refine E_istore_n (pc := 4) (L2 := [_, _, _, _]) rfl rfl dX12_quarrel_4 ?_
  refine E_aload_n (pc := 5) rfl dX12_quarrel_5 ?_
  refine E_iload_n (pc := 6) rfl dX12_quarrel_6 ?_
  refine E_im1 (pc := 7) dX12_quarrel_7 ?_
  refine E_im1 (pc := 8) dX12_quarrel_8 ?_
  obtain ⟨v4, s3, hp, h⟩ := bd2_some h
  refine E_callV (pc := 9) (As := [_, _, _]) (fc := (2, 61)) s12_289_12 oX12_solve dX12_quarrel_9 (mem_ob (ent_st MO247)) rfl rfl (Nat.le_of_ble_eq_true rfl) rfl rfl (by decide) (e_X12_solve hp) (fun rv_ M_ hq_ => ?_)
  obtain ⟨rfl, rfl⟩ := hq_
  refine T_if_eq (pc := 12) 17 dX12_quarrel_12 (by decide) h (fun h => ?_) (fun h => ?_)
  · refine E_iconst (pc := 17) 0 rfl dX12_quarrel_17 ?_
    refine E_istore_n (pc := 18) (L2 := [_, _, _, _]) rfl rfl dX12_quarrel_18 ?_
    refine e_X12_quarrel_19  FU h
  · refine E_iconst (pc := 15) 0 rfl dX12_quarrel_15 ?_
    exact E_ireturn (pc := 16) rfl rfl dX12_quarrel_16 (QI_of h)
noncomputable def f_X12_out_69 (k21 : Int32 → Int32 → Int32 → ST → Option (Int32 × ST)) (x1 : Int32) (x2 : Int32) (x3 : Int32) (sg : ST) : Option (Int32 × ST) :=
    bd2 (f_X12_solve (x1 &&& (((nI 1) <<< (x3 &&& 31)) ^^^ (-1))) (-1) (-1) sg) fun v6 s5 =>
    if v6 = 0 then
    (k21 x1 x2 (x3 + nI 1) s5)
    else (k21 x1 x3 (x3 + nI 1) s5)
theorem e_X12_out_69 {G : GP} {k21 : Int32 → Int32 → Int32 → ST → Option (Int32 × ST)} {x1 : Int32} {x2 : Int32} {x3 : Int32} {sg : ST} {v : Int32} {s : ST} (hk21 : ∀ {x1 : Int32} {x2 : Int32} {x3 : Int32} {sg : ST}, k21 x1 x2 x3 sg = some (v, s) → E G mX12_out (3, 89) 21 [.ref 247, .int x1, .int x2, .int x3] [] (mem sg) (QI v s)) (h : f_X12_out_69 k21 x1 x2 x3 sg = some (v, s)) : E G mX12_out (3, 89) 69 [.ref 247, .int x1, .int x2, .int x3] [] (mem sg) (QI v s) := by
  unfold f_X12_out_69 at h
  refine E_aload_n (pc := 69) rfl dX12_out_69 ?_
  refine E_iload_n (pc := 70) rfl dX12_out_70 ?_
  refine E_iconst (pc := 71) 1 rfl dX12_out_71 ?_
  refine E_iload_n (pc := 72) rfl dX12_out_72 ?_
  refine E_ishl (pc := 73) dX12_out_73 ?_
  refine E_im1 (pc := 74) dX12_out_74 ?_
  refine E_ixor (pc := 75) dX12_out_75 ?_
  refine E_iand (pc := 76) dX12_out_76 ?_
  refine E_im1 (pc := 77) dX12_out_77 ?_
  refine E_im1 (pc := 78) dX12_out_78 ?_
  obtain ⟨v6, s5, hp, h⟩ := bd2_some h
  refine E_callV (pc := 79) (As := [_, _, _]) (fc := (2, 61)) s12_289_12 oX12_solve dX12_out_79 (mem_ob (ent_st MO247)) rfl rfl (Nat.le_of_ble_eq_true rfl) rfl rfl (by decide) (e_X12_solve hp) (fun rv_ M_ hq_ => ?_)
  obtain ⟨rfl, rfl⟩ := hq_
  refine T_if_eq (pc := 82) 87 dX12_out_82 (by decide) h (fun h => ?_) (fun h => ?_)
  · refine T_iinc (pc := 87) (m := 1) (L2 := [_, _, _, _]) rfl rfl rfl rfl dX12_out_87 ?_
    refine E_goto (pc := 90) 21 (by decide) dX12_out_90 ?_
    exact hk21 h
  · refine E_iload_n (pc := 85) rfl dX12_out_85 ?_
    refine E_istore_n (pc := 86) (L2 := [_, _, _, _]) rfl rfl dX12_out_86 ?_
    refine T_iinc (pc := 87) (m := 1) (L2 := [_, _, _, _]) rfl rfl rfl rfl dX12_out_87 ?_
    refine E_goto (pc := 90) 21 (by decide) dX12_out_90 ?_
    exact hk21 h
noncomputable def f_X12_out_21 : Nat → Int32 → Int32 → Int32 → ST → Option (Int32 × ST)
  | 0, _, _, _, _ => none
  | n + 1, x1, x2, x3, sg =>
    if x3 < (sg.1 247 9) then
    (if ((x1 >>> (x3 &&& 31)) &&& (nI 1)) = 0 then
    ((f_X12_out_21 n) x1 x2 (x3 + nI 1) sg)
    else (if x2 < 0 then
    (f_X12_out_69 (f_X12_out_21 n) x1 x2 x3 sg)
    else ((rdI sg 260 16 x3).bind fun v7 =>
    (rdI sg 262 6 v7).bind fun v8 =>
    (rdI sg 260 16 x2).bind fun v9 =>
    (rdI sg 262 6 v9).bind fun v10 =>
    if v8 < v10 then
    (f_X12_out_69 (f_X12_out_21 n) x1 x2 x3 sg)
    else ((f_X12_out_21 n) x1 x2 (x3 + nI 1) sg))))
    else (some (x2, sg))
theorem e_X12_out_21 {G : GP} {v : Int32} {s : ST}  : ∀ (n : Nat) {x1 : Int32} {x2 : Int32} {x3 : Int32} {sg : ST}, f_X12_out_21 n x1 x2 x3 sg = some (v, s) → E G mX12_out (3, 89) 21 [.ref 247, .int x1, .int x2, .int x3] [] (mem sg) (QI v s) := by
  intro n
  induction n with
  | zero => intro _ _ _ _ h; rw [f_X12_out_21] at h; cases h
  | succ n ih =>
    intro x1 x2 x3 sg h
    rw [f_X12_out_21] at h
    refine E_iload_n (pc := 21) rfl dX12_out_21 ?_
    refine E_aload_n (pc := 22) rfl dX12_out_22 ?_
    refine R_getI (pc := 23) f12_165 dX12_out_23 (ent_st MO247) (by decide) rfl ?_
    refine T_icmp_ge (pc := 26) 93 dX12_out_26 (by decide) h (fun h => ?_) (fun h => ?_)
    · refine E_iload_n (pc := 93) rfl dX12_out_93 ?_
      exact E_ireturn (pc := 94) rfl rfl dX12_out_94 (QI_of h)
    · refine E_iload_n (pc := 29) rfl dX12_out_29 ?_
      refine E_iload_n (pc := 30) rfl dX12_out_30 ?_
      refine E_ishr (pc := 31) dX12_out_31 ?_
      refine E_iconst (pc := 32) 1 rfl dX12_out_32 ?_
      refine E_iand (pc := 33) dX12_out_33 ?_
      refine T_if_eq (pc := 34) 87 dX12_out_34 (by decide) h (fun h => ?_) (fun h => ?_)
      · refine T_iinc (pc := 87) (m := 1) (L2 := [_, _, _, _]) rfl rfl rfl rfl dX12_out_87 ?_
        refine E_goto (pc := 90) 21 (by decide) dX12_out_90 ?_
        exact ih h
      · refine E_iload_n (pc := 37) rfl dX12_out_37 ?_
        refine T_if_lt (pc := 38) 69 dX12_out_38 (by decide) h (fun h => ?_) (fun h => ?_)
        · refine e_X12_out_69 (fun h => ih h) h
        · refine E_aload_n (pc := 41) rfl dX12_out_41 ?_
          refine R_getR (pc := 42) (b := 262) f12_52 dX12_out_42 (ent_st MO247) (by decide) rfl rfl ?_
          refine E_aload_n (pc := 45) rfl dX12_out_45 ?_
          refine R_getR (pc := 46) (b := 260) f12_46 dX12_out_46 (ent_st MO247) (by decide) rfl rfl ?_
          refine E_iload_n (pc := 49) rfl dX12_out_49 ?_
          refine T_iald (pc := 50) dX12_out_50 (ent_st MA260) (by decide) h (fun v7 h => ?_)
          refine T_iald (pc := 51) dX12_out_51 (ent_st MA262) (by decide) h (fun v8 h => ?_)
          refine E_aload_n (pc := 52) rfl dX12_out_52 ?_
          refine R_getR (pc := 53) (b := 262) f12_52 dX12_out_53 (ent_st MO247) (by decide) rfl rfl ?_
          refine E_aload_n (pc := 56) rfl dX12_out_56 ?_
          refine R_getR (pc := 57) (b := 260) f12_46 dX12_out_57 (ent_st MO247) (by decide) rfl rfl ?_
          refine E_iload_n (pc := 60) rfl dX12_out_60 ?_
          refine T_iald (pc := 61) dX12_out_61 (ent_st MA260) (by decide) h (fun v9 h => ?_)
          refine T_iald (pc := 62) dX12_out_62 (ent_st MA262) (by decide) h (fun v10 h => ?_)
          refine T_icmp_lt (pc := 63) 69 dX12_out_63 (by decide) h (fun h => ?_) (fun h => ?_)
          · refine e_X12_out_69 (fun h => ih h) h
          · refine E_goto (pc := 66) 87 (by decide) dX12_out_66 ?_
            refine T_iinc (pc := 87) (m := 1) (L2 := [_, _, _, _]) rfl rfl rfl rfl dX12_out_87 ?_
            refine E_goto (pc := 90) 21 (by decide) dX12_out_90 ?_
            exact ih h
noncomputable def f_X12_out (σ : ST) : Option (Int32 × ST) :=
    bd2 (f_X12_all σ) fun v2 s1 =>
    bd2 (f_X12_solve v2 (-1) (-1) s1) fun v4 s3 =>
    if v4 = 0 then
    (f_X12_out_21 FU v2 (-1) (nI 0) s3)
    else (some ((-1), s3))
theorem e_X12_out {G : GP} {σ : ST} {v : Int32} {s : ST}  (h : f_X12_out σ = some (v, s)) : E G mX12_out (3, 89) 0 [.ref 247, D0, D0, D0] [] (mem σ) (QI v s) := by
  unfold f_X12_out at h
  refine E_aload_n (pc := 0) rfl dX12_out_0 ?_
  obtain ⟨v2, s1, hp, h⟩ := bd2_some h
  refine E_callV (pc := 1) (As := []) (fc := (0, 0)) s12_286_12 oX12_all dX12_out_1 (mem_ob (ent_st MO247)) rfl rfl (Nat.le_of_ble_eq_true rfl) rfl rfl (by decide) (e_X12_all hp) (fun rv_ M_ hq_ => ?_)
  obtain ⟨rfl, rfl⟩ := hq_
  refine E_istore_n (pc := 4) (L2 := [_, _, _, _]) rfl rfl dX12_out_4 ?_
  refine E_aload_n (pc := 5) rfl dX12_out_5 ?_
  refine E_iload_n (pc := 6) rfl dX12_out_6 ?_
  refine E_im1 (pc := 7) dX12_out_7 ?_
  refine E_im1 (pc := 8) dX12_out_8 ?_
  obtain ⟨v4, s3, hp, h⟩ := bd2_some h
  refine E_callV (pc := 9) (As := [_, _, _]) (fc := (2, 61)) s12_289_12 oX12_solve dX12_out_9 (mem_ob (ent_st MO247)) rfl rfl (Nat.le_of_ble_eq_true rfl) rfl rfl (by decide) (e_X12_solve hp) (fun rv_ M_ hq_ => ?_)
  obtain ⟨rfl, rfl⟩ := hq_
  refine T_if_eq (pc := 12) 17 dX12_out_12 (by decide) h (fun h => ?_) (fun h => ?_)
  · refine E_im1 (pc := 17) dX12_out_17 ?_
    refine E_istore_n (pc := 18) (L2 := [_, _, _, _]) rfl rfl dX12_out_18 ?_
    refine E_iconst (pc := 19) 0 rfl dX12_out_19 ?_
    refine E_istore_n (pc := 20) (L2 := [_, _, _, _]) rfl rfl dX12_out_20 ?_
    refine e_X12_out_21  FU h
  · refine E_im1 (pc := 15) dX12_out_15 ?_
    exact E_ireturn (pc := 16) rfl rfl dX12_out_16 (QI_of h)
noncomputable def f_X12_often_53 (k3 : Int32 → Int32 → Int32 → Int32 → Int32 → ST → Option (Int32 × ST)) (x1 : Int32) (x2 : Int32) (x3 : Int32) (x4 : Int32) (x5 : Int32) (x6 : Int32) (z1 : Int32) (z2 : Int32) (sg : ST) : Option (Int32 × ST) :=
    (wrI sg 282 1024 z1 z2).bind fun s2 =>
    if x6 = 0 then
    ((wrI s2 283 1024 x5 (-1)).bind fun s3 =>
    k3 x1 x2 x3 x4 (x5 + nI 1) s3)
    else ((wrI s2 283 1024 x5 (nI 0)).bind fun s4 =>
    k3 x1 x2 x3 x4 (x5 + nI 1) s4)
theorem e_X12_often_53 {G : GP} {k3 : Int32 → Int32 → Int32 → Int32 → Int32 → ST → Option (Int32 × ST)} {x1 : Int32} {x2 : Int32} {x3 : Int32} {x4 : Int32} {x5 : Int32} {x6 : Int32} {z1 : Int32} {z2 : Int32} {sg : ST} {v : Int32} {s : ST} (hk3 : ∀ {x1 : Int32} {x2 : Int32} {x3 : Int32} {x4 : Int32} {x5 : Int32} {sg : ST}, k3 x1 x2 x3 x4 x5 sg = some (v, s) → E G mX12_often (1, 28) 3 [.ref 247, .int x1, .int x2, .int x3, .int x4, .int x5, D0, D0, D0, D0] [] (mem sg) (QI v s)) (h : f_X12_often_53 k3 x1 x2 x3 x4 x5 x6 z1 z2 sg = some (v, s)) : E G mX12_often (1, 28) 53 [.ref 247, .int x1, .int x2, .int x3, .int x4, .int x5, .int x6, D0, D0, D0] [.int z2, .int z1, .ref 282] (mem sg) (QI v s) := by
  unfold f_X12_often_53 at h
  refine T_iast (pc := 53) dX12_often_53 (ent_st MA282) (by decide) h (fun s2 h => ?_)
  refine E_aload_n (pc := 54) rfl dX12_often_54 ?_
  refine R_getR (pc := 55) (b := 283) f12_120 dX12_often_55 (ent_st MO247) (by decide) rfl rfl ?_
  refine E_iload (pc := 58) rfl dX12_often_58 ?_
  refine E_iload (pc := 60) rfl dX12_often_60 ?_
  refine T_if_eq (pc := 62) 69 dX12_often_62 (by decide) h (fun h => ?_) (fun h => ?_)
  · refine E_im1 (pc := 69) dX12_often_69 ?_
    refine T_iast (pc := 70) dX12_often_70 (ent_st MA283) (by decide) h (fun s3 h => ?_)
    refine T_iinc (pc := 71) (m := 1) (L2 := [_, _, _, _, _, _, _, _, _, _]) rfl rfl rfl rfl dX12_often_71 ?_
    refine E_goto (pc := 74) 3 (by decide) dX12_often_74 ?_
    refine E_kp [true, true, true, true, true, true, false, false, false, false] (L2 := [_, _, _, _, _, _, D0, D0, D0, D0]) rfl rfl ?_
    exact hk3 h
  · refine E_iconst (pc := 65) 0 rfl dX12_often_65 ?_
    refine E_goto (pc := 66) 70 (by decide) dX12_often_66 ?_
    refine T_iast (pc := 70) dX12_often_70 (ent_st MA283) (by decide) h (fun s4 h => ?_)
    refine T_iinc (pc := 71) (m := 1) (L2 := [_, _, _, _, _, _, _, _, _, _]) rfl rfl rfl rfl dX12_often_71 ?_
    refine E_goto (pc := 74) 3 (by decide) dX12_often_74 ?_
    refine E_kp [true, true, true, true, true, true, false, false, false, false] (L2 := [_, _, _, _, _, _, D0, D0, D0, D0]) rfl rfl ?_
    exact hk3 h
noncomputable def f_X12_often_33 (k3 : Int32 → Int32 → Int32 → Int32 → Int32 → ST → Option (Int32 × ST)) (x1 : Int32) (x2 : Int32) (x3 : Int32) (x4 : Int32) (x5 : Int32) (z0 : Int32) (sg : ST) : Option (Int32 × ST) :=
    if z0 = 0 then
    (f_X12_often_53 k3 x1 x2 x3 x4 x5 z0 x5 (nI 100000000) sg)
    else (f_X12_often_53 k3 x1 x2 x3 x4 x5 z0 x5 (nI 0) sg)
theorem e_X12_often_33 {G : GP} {k3 : Int32 → Int32 → Int32 → Int32 → Int32 → ST → Option (Int32 × ST)} {x1 : Int32} {x2 : Int32} {x3 : Int32} {x4 : Int32} {x5 : Int32} {z0 : Int32} {sg : ST} {v : Int32} {s : ST} (hk3 : ∀ {x1 : Int32} {x2 : Int32} {x3 : Int32} {x4 : Int32} {x5 : Int32} {sg : ST}, k3 x1 x2 x3 x4 x5 sg = some (v, s) → E G mX12_often (1, 28) 3 [.ref 247, .int x1, .int x2, .int x3, .int x4, .int x5, D0, D0, D0, D0] [] (mem sg) (QI v s)) (h : f_X12_often_33 k3 x1 x2 x3 x4 x5 z0 sg = some (v, s)) : E G mX12_often (1, 28) 33 [.ref 247, .int x1, .int x2, .int x3, .int x4, .int x5, D0, D0, D0, D0] [.int z0] (mem sg) (QI v s) := by
  unfold f_X12_often_33 at h
  refine E_istore (pc := 33) (L2 := [_, _, _, _, _, _, _, _, _, _]) rfl rfl dX12_often_33 ?_
  refine E_aload_n (pc := 35) rfl dX12_often_35 ?_
  refine R_getR (pc := 36) (b := 282) f12_117 dX12_often_36 (ent_st MO247) (by decide) rfl rfl ?_
  refine E_iload (pc := 39) rfl dX12_often_39 ?_
  refine E_iload (pc := 41) rfl dX12_often_41 ?_
  refine T_if_eq (pc := 43) 50 dX12_often_43 (by decide) h (fun h => ?_) (fun h => ?_)
  · refine E_ldcw (pc := 50) (v := nI 100000000) q12_274 dX12_often_50 ?_
    refine e_X12_often_53 (fun h => hk3 h) h
  · refine E_iconst (pc := 46) 0 rfl dX12_often_46 ?_
    refine E_goto (pc := 47) 53 (by decide) dX12_often_47 ?_
    refine e_X12_often_53 (fun h => hk3 h) h
noncomputable def f_X12_often_32 (k3 : Int32 → Int32 → Int32 → Int32 → Int32 → ST → Option (Int32 × ST)) (x1 : Int32) (x2 : Int32) (x3 : Int32) (x4 : Int32) (x5 : Int32) (sg : ST) : Option (Int32 × ST) :=
    f_X12_often_33 k3 x1 x2 x3 x4 x5 (nI 0) sg
theorem e_X12_often_32 {G : GP} {k3 : Int32 → Int32 → Int32 → Int32 → Int32 → ST → Option (Int32 × ST)} {x1 : Int32} {x2 : Int32} {x3 : Int32} {x4 : Int32} {x5 : Int32} {sg : ST} {v : Int32} {s : ST} (hk3 : ∀ {x1 : Int32} {x2 : Int32} {x3 : Int32} {x4 : Int32} {x5 : Int32} {sg : ST}, k3 x1 x2 x3 x4 x5 sg = some (v, s) → E G mX12_often (1, 28) 3 [.ref 247, .int x1, .int x2, .int x3, .int x4, .int x5, D0, D0, D0, D0] [] (mem sg) (QI v s)) (h : f_X12_often_32 k3 x1 x2 x3 x4 x5 sg = some (v, s)) : E G mX12_often (1, 28) 32 [.ref 247, .int x1, .int x2, .int x3, .int x4, .int x5, D0, D0, D0, D0] [] (mem sg) (QI v s) := by
  unfold f_X12_often_32 at h
  refine E_iconst (pc := 32) 0 rfl dX12_often_32 ?_
  refine e_X12_often_33 (fun h => hk3 h) h
noncomputable def f_X12_often_3 (k77 : Int32 → Int32 → Int32 → Int32 → ST → Option (Int32 × ST)) : Nat → Int32 → Int32 → Int32 → Int32 → Int32 → ST → Option (Int32 × ST)
  | 0, _, _, _, _, _, _ => none
  | n + 1, x1, x2, x3, x4, x5, sg =>
    if x5 < (nI 1024) then
    ((rdI sg 276 13312 x5).bind fun v1 =>
    if v1 = 0 then
    (if x5 < (nI 32) then
    (f_X12_often_33 (f_X12_often_3 k77 n) x1 x2 x3 x4 x5 (nI 1) sg)
    else (f_X12_often_32 (f_X12_often_3 k77 n) x1 x2 x3 x4 x5 sg))
    else (f_X12_often_32 (f_X12_often_3 k77 n) x1 x2 x3 x4 x5 sg))
    else (k77 x1 x2 x3 x4 sg)
theorem e_X12_often_3 {G : GP} {k77 : Int32 → Int32 → Int32 → Int32 → ST → Option (Int32 × ST)} {v : Int32} {s : ST} (hk77 : ∀ {x1 : Int32} {x2 : Int32} {x3 : Int32} {x4 : Int32} {sg : ST}, k77 x1 x2 x3 x4 sg = some (v, s) → E G mX12_often (1, 28) 77 [.ref 247, .int x1, .int x2, .int x3, .int x4, D0, D0, D0, D0, D0] [] (mem sg) (QI v s)) : ∀ (n : Nat) {x1 : Int32} {x2 : Int32} {x3 : Int32} {x4 : Int32} {x5 : Int32} {sg : ST}, f_X12_often_3 k77 n x1 x2 x3 x4 x5 sg = some (v, s) → E G mX12_often (1, 28) 3 [.ref 247, .int x1, .int x2, .int x3, .int x4, .int x5, D0, D0, D0, D0] [] (mem sg) (QI v s) := by
  intro n
  induction n with
  | zero => intro _ _ _ _ _ _ h; rw [f_X12_often_3] at h; cases h
  | succ n ih =>
    intro x1 x2 x3 x4 x5 sg h
    rw [f_X12_often_3] at h
    refine E_iload (pc := 3) rfl dX12_often_3 ?_
    refine E_sipush (pc := 5) (nI 1024) (by decide) dX12_often_5 ?_
    refine T_icmp_ge (pc := 8) 77 dX12_often_8 (by decide) h (fun h => ?_) (fun h => ?_)
    · refine E_kp [true, true, true, true, true, false, false, false, false, false] (L2 := [_, _, _, _, _, D0, D0, D0, D0, D0]) rfl rfl ?_
      exact hk77 h
    · refine E_aload_n (pc := 11) rfl dX12_often_11 ?_
      refine R_getR (pc := 12) (b := 276) f12_99 dX12_often_12 (ent_st MO247) (by decide) rfl rfl ?_
      refine E_iload (pc := 15) rfl dX12_often_15 ?_
      refine T_iald (pc := 17) dX12_often_17 (ent_st MA276) (by decide) h (fun v1 h => ?_)
      refine T_if_ne (pc := 18) 32 dX12_often_18 (by decide) h (fun h => ?_) (fun h => ?_)
      · refine e_X12_often_32 (fun h => ih h) h
      · refine E_iload (pc := 21) rfl dX12_often_21 ?_
        refine E_bipush (pc := 23) (nI 32) (by decide) dX12_often_23 ?_
        refine T_icmp_ge (pc := 25) 32 dX12_often_25 (by decide) h (fun h => ?_) (fun h => ?_)
        · refine e_X12_often_32 (fun h => ih h) h
        · refine E_iconst (pc := 28) 1 rfl dX12_often_28 ?_
          refine E_goto (pc := 29) 33 (by decide) dX12_often_29 ?_
          refine e_X12_often_33 (fun h => ih h) h
noncomputable def f_X12_often_90 (k122 : Int32 → Int32 → Int32 → Int32 → Int32 → ST → Option (Int32 × ST)) : Nat → Int32 → Int32 → Int32 → Int32 → Int32 → Int32 → ST → Option (Int32 × ST)
  | 0, _, _, _, _, _, _, _ => none
  | n + 1, x1, x2, x3, x4, x5, x6, sg =>
    if x6 < (nI 1024) then
    ((wrI sg 284 1024 x6 (nI 100000000)).bind fun s10 =>
    (wrI s10 285 1024 x6 (-1)).bind fun s11 =>
    (f_X12_often_90 k122 n) x1 x2 x3 x4 x5 (x6 + nI 1) s11)
    else (k122 x1 x2 x3 x4 x5 sg)
theorem e_X12_often_90 {G : GP} {k122 : Int32 → Int32 → Int32 → Int32 → Int32 → ST → Option (Int32 × ST)} {v : Int32} {s : ST} (hk122 : ∀ {x1 : Int32} {x2 : Int32} {x3 : Int32} {x4 : Int32} {x5 : Int32} {sg : ST}, k122 x1 x2 x3 x4 x5 sg = some (v, s) → E G mX12_often (1, 28) 122 [.ref 247, .int x1, .int x2, .int x3, .int x4, .int x5, D0, D0, D0, D0] [] (mem sg) (QI v s)) : ∀ (n : Nat) {x1 : Int32} {x2 : Int32} {x3 : Int32} {x4 : Int32} {x5 : Int32} {x6 : Int32} {sg : ST}, f_X12_often_90 k122 n x1 x2 x3 x4 x5 x6 sg = some (v, s) → E G mX12_often (1, 28) 90 [.ref 247, .int x1, .int x2, .int x3, .int x4, .int x5, .int x6, D0, D0, D0] [] (mem sg) (QI v s) := by
  intro n
  induction n with
  | zero => intro _ _ _ _ _ _ _ h; rw [f_X12_often_90] at h; cases h
  | succ n ih =>
    intro x1 x2 x3 x4 x5 x6 sg h
    rw [f_X12_often_90] at h
    refine E_iload (pc := 90) rfl dX12_often_90 ?_
    refine E_sipush (pc := 92) (nI 1024) (by decide) dX12_often_92 ?_
    refine T_icmp_ge (pc := 95) 122 dX12_often_95 (by decide) h (fun h => ?_) (fun h => ?_)
    · refine E_kp [true, true, true, true, true, true, false, false, false, false] (L2 := [_, _, _, _, _, _, D0, D0, D0, D0]) rfl rfl ?_
      exact hk122 h
    · refine E_aload_n (pc := 98) rfl dX12_often_98 ?_
      refine R_getR (pc := 99) (b := 284) f12_123 dX12_often_99 (ent_st MO247) (by decide) rfl rfl ?_
      refine E_iload (pc := 102) rfl dX12_often_102 ?_
      refine E_ldcw (pc := 104) (v := nI 100000000) q12_274 dX12_often_104 ?_
      refine T_iast (pc := 107) dX12_often_107 (ent_st MA284) (by decide) h (fun s10 h => ?_)
      refine E_aload_n (pc := 108) rfl dX12_often_108 ?_
      refine R_getR (pc := 109) (b := 285) f12_126 dX12_often_109 (ent_st MO247) (by decide) rfl rfl ?_
      refine E_iload (pc := 112) rfl dX12_often_112 ?_
      refine E_im1 (pc := 114) dX12_often_114 ?_
      refine T_iast (pc := 115) dX12_often_115 (ent_st MA285) (by decide) h (fun s11 h => ?_)
      refine T_iinc (pc := 116) (m := 1) (L2 := [_, _, _, _, _, _, _, _, _, _]) rfl rfl rfl rfl dX12_often_116 ?_
      refine E_goto (pc := 119) 90 (by decide) dX12_often_119 ?_
      exact ih h
noncomputable def f_X12_often_255 (k157 : Int32 → Int32 → Int32 → Int32 → Int32 → Int32 → Int32 → ST → Option (Int32 × ST)) (x1 : Int32) (x2 : Int32) (x3 : Int32) (x4 : Int32) (x5 : Int32) (x6 : Int32) (x7 : Int32) (z0 : Int32) (sg : ST) : Option (Int32 × ST) :=
    (rdI sg 280 28 x7).bind fun v23 =>
    (rdI sg 280 28 x7).bind fun v24 =>
    (rdI sg 284 1024 v24).bind fun v25 =>
    (rdI sg 282 1024 x6).bind fun v26 =>
    (wrI sg 284 1024 v23 (if (v26 + z0) < v25 then (v26 + z0) else v25)).bind fun s27 =>
    (rdI s27 280 28 x7).bind fun v28 =>
    (rdI s27 280 28 x7).bind fun v29 =>
    (rdI s27 285 1024 v29).bind fun v30 =>
    (rdI s27 283 1024 x6).bind fun v31 =>
    (wrI s27 285 1024 v28 (if v30 < (v31 + z0) then (v31 + z0) else v30)).bind fun s32 =>
    k157 x1 x2 x3 x4 x5 x6 (x7 + nI 1) s32
theorem e_X12_often_255 {G : GP} {k157 : Int32 → Int32 → Int32 → Int32 → Int32 → Int32 → Int32 → ST → Option (Int32 × ST)} {x1 : Int32} {x2 : Int32} {x3 : Int32} {x4 : Int32} {x5 : Int32} {x6 : Int32} {x7 : Int32} {z0 : Int32} {sg : ST} {v : Int32} {s : ST} (hk157 : ∀ {x1 : Int32} {x2 : Int32} {x3 : Int32} {x4 : Int32} {x5 : Int32} {x6 : Int32} {x7 : Int32} {sg : ST}, k157 x1 x2 x3 x4 x5 x6 x7 sg = some (v, s) → E G mX12_often (1, 28) 157 [.ref 247, .int x1, .int x2, .int x3, .int x4, .int x5, .int x6, .int x7, D0, D0] [] (mem sg) (QI v s)) (h : f_X12_often_255 k157 x1 x2 x3 x4 x5 x6 x7 z0 sg = some (v, s)) : E G mX12_often (1, 28) 255 [.ref 247, .int x1, .int x2, .int x3, .int x4, .int x5, .int x6, .int x7, D0, D0] [.int z0] (mem sg) (QI v s) := by
  unfold f_X12_often_255 at h
  refine E_istore (pc := 255) (L2 := [_, _, _, _, _, _, _, _, _, _]) rfl rfl dX12_often_255 ?_
  refine E_aload_n (pc := 257) rfl dX12_often_257 ?_
  refine R_getR (pc := 258) (b := 284) f12_123 dX12_often_258 (ent_st MO247) (by decide) rfl rfl ?_
  refine E_aload_n (pc := 261) rfl dX12_often_261 ?_
  refine R_getR (pc := 262) (b := 280) f12_111 dX12_often_262 (ent_st MO247) (by decide) rfl rfl ?_
  refine E_iload (pc := 265) rfl dX12_often_265 ?_
  refine T_iald (pc := 267) dX12_often_267 (ent_st MA280) (by decide) h (fun v23 h => ?_)
  refine E_aload_n (pc := 268) rfl dX12_often_268 ?_
  refine R_getR (pc := 269) (b := 284) f12_123 dX12_often_269 (ent_st MO247) (by decide) rfl rfl ?_
  refine E_aload_n (pc := 272) rfl dX12_often_272 ?_
  refine R_getR (pc := 273) (b := 280) f12_111 dX12_often_273 (ent_st MO247) (by decide) rfl rfl ?_
  refine E_iload (pc := 276) rfl dX12_often_276 ?_
  refine T_iald (pc := 278) dX12_often_278 (ent_st MA280) (by decide) h (fun v24 h => ?_)
  refine T_iald (pc := 279) dX12_often_279 (ent_st MA284) (by decide) h (fun v25 h => ?_)
  refine E_aload_n (pc := 280) rfl dX12_often_280 ?_
  refine R_getR (pc := 281) (b := 282) f12_117 dX12_often_281 (ent_st MO247) (by decide) rfl rfl ?_
  refine E_iload (pc := 284) rfl dX12_often_284 ?_
  refine T_iald (pc := 286) dX12_often_286 (ent_st MA282) (by decide) h (fun v26 h => ?_)
  refine E_iload (pc := 287) rfl dX12_often_287 ?_
  refine E_iadd (pc := 289) dX12_often_289 ?_
  refine E_mmin (pc := 290) (by decide +kernel) (by decide) (Nat.le_of_ble_eq_true rfl) dX12_often_290 ?_
  refine T_iast (pc := 293) dX12_often_293 (ent_st MA284) (by decide) h (fun s27 h => ?_)
  refine E_aload_n (pc := 294) rfl dX12_often_294 ?_
  refine R_getR (pc := 295) (b := 285) f12_126 dX12_often_295 (ent_st MO247) (by decide) rfl rfl ?_
  refine E_aload_n (pc := 298) rfl dX12_often_298 ?_
  refine R_getR (pc := 299) (b := 280) f12_111 dX12_often_299 (ent_st MO247) (by decide) rfl rfl ?_
  refine E_iload (pc := 302) rfl dX12_often_302 ?_
  refine T_iald (pc := 304) dX12_often_304 (ent_st MA280) (by decide) h (fun v28 h => ?_)
  refine E_aload_n (pc := 305) rfl dX12_often_305 ?_
  refine R_getR (pc := 306) (b := 285) f12_126 dX12_often_306 (ent_st MO247) (by decide) rfl rfl ?_
  refine E_aload_n (pc := 309) rfl dX12_often_309 ?_
  refine R_getR (pc := 310) (b := 280) f12_111 dX12_often_310 (ent_st MO247) (by decide) rfl rfl ?_
  refine E_iload (pc := 313) rfl dX12_often_313 ?_
  refine T_iald (pc := 315) dX12_often_315 (ent_st MA280) (by decide) h (fun v29 h => ?_)
  refine T_iald (pc := 316) dX12_often_316 (ent_st MA285) (by decide) h (fun v30 h => ?_)
  refine E_aload_n (pc := 317) rfl dX12_often_317 ?_
  refine R_getR (pc := 318) (b := 283) f12_120 dX12_often_318 (ent_st MO247) (by decide) rfl rfl ?_
  refine E_iload (pc := 321) rfl dX12_often_321 ?_
  refine T_iald (pc := 323) dX12_often_323 (ent_st MA283) (by decide) h (fun v31 h => ?_)
  refine E_iload (pc := 324) rfl dX12_often_324 ?_
  refine E_iadd (pc := 326) dX12_often_326 ?_
  refine E_mmax (pc := 327) (by decide +kernel) (by decide) (Nat.le_of_ble_eq_true rfl) dX12_often_327 ?_
  refine T_iast (pc := 330) dX12_often_330 (ent_st MA285) (by decide) h (fun s32 h => ?_)
  refine T_iinc (pc := 331) (m := 1) (L2 := [_, _, _, _, _, _, _, _, _, _]) rfl rfl rfl rfl dX12_often_331 ?_
  refine E_goto (pc := 334) 157 (by decide) dX12_often_334 ?_
  refine E_kp [true, true, true, true, true, true, true, true, false, false] (L2 := [_, _, _, _, _, _, _, _, D0, D0]) rfl rfl ?_
  exact hk157 h
noncomputable def f_X12_often_254 (k157 : Int32 → Int32 → Int32 → Int32 → Int32 → Int32 → Int32 → ST → Option (Int32 × ST)) (x1 : Int32) (x2 : Int32) (x3 : Int32) (x4 : Int32) (x5 : Int32) (x6 : Int32) (x7 : Int32) (sg : ST) : Option (Int32 × ST) :=
    f_X12_often_255 k157 x1 x2 x3 x4 x5 x6 x7 (nI 0) sg
theorem e_X12_often_254 {G : GP} {k157 : Int32 → Int32 → Int32 → Int32 → Int32 → Int32 → Int32 → ST → Option (Int32 × ST)} {x1 : Int32} {x2 : Int32} {x3 : Int32} {x4 : Int32} {x5 : Int32} {x6 : Int32} {x7 : Int32} {sg : ST} {v : Int32} {s : ST} (hk157 : ∀ {x1 : Int32} {x2 : Int32} {x3 : Int32} {x4 : Int32} {x5 : Int32} {x6 : Int32} {x7 : Int32} {sg : ST}, k157 x1 x2 x3 x4 x5 x6 x7 sg = some (v, s) → E G mX12_often (1, 28) 157 [.ref 247, .int x1, .int x2, .int x3, .int x4, .int x5, .int x6, .int x7, D0, D0] [] (mem sg) (QI v s)) (h : f_X12_often_254 k157 x1 x2 x3 x4 x5 x6 x7 sg = some (v, s)) : E G mX12_often (1, 28) 254 [.ref 247, .int x1, .int x2, .int x3, .int x4, .int x5, .int x6, .int x7, D0, D0] [] (mem sg) (QI v s) := by
  unfold f_X12_often_254 at h
  refine E_iconst (pc := 254) 0 rfl dX12_often_254 ?_
  refine e_X12_often_255 (fun h => hk157 h) h
noncomputable def f_X12_often_230 (k157 : Int32 → Int32 → Int32 → Int32 → Int32 → Int32 → Int32 → ST → Option (Int32 × ST)) (x1 : Int32) (x2 : Int32) (x3 : Int32) (x4 : Int32) (x5 : Int32) (x6 : Int32) (x7 : Int32) (z0 : Int32) (sg : ST) : Option (Int32 × ST) :=
    if z0 = 0 then
    (f_X12_often_254 k157 x1 x2 x3 x4 x5 x6 x7 sg)
    else (if x5 < x3 then
    (f_X12_often_254 k157 x1 x2 x3 x4 x5 x6 x7 sg)
    else (if x4 < x5 then
    (f_X12_often_254 k157 x1 x2 x3 x4 x5 x6 x7 sg)
    else (f_X12_often_255 k157 x1 x2 x3 x4 x5 x6 x7 (nI 1) sg)))
theorem e_X12_often_230 {G : GP} {k157 : Int32 → Int32 → Int32 → Int32 → Int32 → Int32 → Int32 → ST → Option (Int32 × ST)} {x1 : Int32} {x2 : Int32} {x3 : Int32} {x4 : Int32} {x5 : Int32} {x6 : Int32} {x7 : Int32} {z0 : Int32} {sg : ST} {v : Int32} {s : ST} (hk157 : ∀ {x1 : Int32} {x2 : Int32} {x3 : Int32} {x4 : Int32} {x5 : Int32} {x6 : Int32} {x7 : Int32} {sg : ST}, k157 x1 x2 x3 x4 x5 x6 x7 sg = some (v, s) → E G mX12_often (1, 28) 157 [.ref 247, .int x1, .int x2, .int x3, .int x4, .int x5, .int x6, .int x7, D0, D0] [] (mem sg) (QI v s)) (h : f_X12_often_230 k157 x1 x2 x3 x4 x5 x6 x7 z0 sg = some (v, s)) : E G mX12_often (1, 28) 230 [.ref 247, .int x1, .int x2, .int x3, .int x4, .int x5, .int x6, .int x7, D0, D0] [.int z0] (mem sg) (QI v s) := by
  unfold f_X12_often_230 at h
  refine E_istore (pc := 230) (L2 := [_, _, _, _, _, _, _, _, _, _]) rfl rfl dX12_often_230 ?_
  refine E_iload (pc := 232) rfl dX12_often_232 ?_
  refine T_if_eq (pc := 234) 254 dX12_often_234 (by decide) h (fun h => ?_) (fun h => ?_)
  · refine E_kp [true, true, true, true, true, true, true, true, false, false] (L2 := [_, _, _, _, _, _, _, _, D0, D0]) rfl rfl ?_
    refine e_X12_often_254 (fun h => hk157 h) h
  · refine E_iload (pc := 237) rfl dX12_often_237 ?_
    refine E_iload_n (pc := 239) rfl dX12_often_239 ?_
    refine T_icmp_lt (pc := 240) 254 dX12_often_240 (by decide) h (fun h => ?_) (fun h => ?_)
    · refine E_kp [true, true, true, true, true, true, true, true, false, false] (L2 := [_, _, _, _, _, _, _, _, D0, D0]) rfl rfl ?_
      refine e_X12_often_254 (fun h => hk157 h) h
    · refine E_iload (pc := 243) rfl dX12_often_243 ?_
      refine E_iload (pc := 245) rfl dX12_often_245 ?_
      refine T_icmp_gt (pc := 247) 254 dX12_often_247 (by decide) h (fun h => ?_) (fun h => ?_)
      · refine E_kp [true, true, true, true, true, true, true, true, false, false] (L2 := [_, _, _, _, _, _, _, _, D0, D0]) rfl rfl ?_
        refine e_X12_often_254 (fun h => hk157 h) h
      · refine E_iconst (pc := 250) 1 rfl dX12_often_250 ?_
        refine E_goto (pc := 251) 255 (by decide) dX12_often_251 ?_
        refine E_kp [true, true, true, true, true, true, true, true, false, false] (L2 := [_, _, _, _, _, _, _, _, D0, D0]) rfl rfl ?_
        refine e_X12_often_255 (fun h => hk157 h) h
noncomputable def f_X12_often_157 (k337 : Int32 → Int32 → Int32 → Int32 → Int32 → Int32 → ST → Option (Int32 × ST)) : Nat → Int32 → Int32 → Int32 → Int32 → Int32 → Int32 → Int32 → ST → Option (Int32 × ST)
  | 0, _, _, _, _, _, _, _, _ => none
  | n + 1, x1, x2, x3, x4, x5, x6, x7, sg =>
    if x7 < (sg.1 247 40) then
    (bd2 (f_X12_isLeast x5 x6 x7 sg) fun v21 s20 =>
    if v21 = 0 then
    ((f_X12_often_157 k337 n) x1 x2 x3 x4 x5 x6 (x7 + nI 1) s20)
    else (if x1 < 0 then
    ((rdI s20 279 28 x7).bind fun v22 =>
    if v22 = x2 then
    (f_X12_often_230 (f_X12_often_157 k337 n) x1 x2 x3 x4 x5 x6 x7 (nI 1) s20)
    else (f_X12_often_230 (f_X12_often_157 k337 n) x1 x2 x3 x4 x5 x6 x7 (nI 0) s20))
    else ((rdI s20 278 28 x7).bind fun v33 =>
    (rdI s20 267 1024 v33).bind fun v34 =>
    if ((v34 >>> (x1 &&& 31)) &&& (nI 1)) = (nI 1) then
    (f_X12_often_230 (f_X12_often_157 k337 n) x1 x2 x3 x4 x5 x6 x7 (nI 1) s20)
    else (f_X12_often_230 (f_X12_often_157 k337 n) x1 x2 x3 x4 x5 x6 x7 (nI 0) s20))))
    else (k337 x1 x2 x3 x4 x5 x6 sg)
theorem e_X12_often_157 {G : GP} {k337 : Int32 → Int32 → Int32 → Int32 → Int32 → Int32 → ST → Option (Int32 × ST)} {v : Int32} {s : ST} (hk337 : ∀ {x1 : Int32} {x2 : Int32} {x3 : Int32} {x4 : Int32} {x5 : Int32} {x6 : Int32} {sg : ST}, k337 x1 x2 x3 x4 x5 x6 sg = some (v, s) → E G mX12_often (1, 28) 337 [.ref 247, .int x1, .int x2, .int x3, .int x4, .int x5, .int x6, D0, D0, D0] [] (mem sg) (QI v s)) : ∀ (n : Nat) {x1 : Int32} {x2 : Int32} {x3 : Int32} {x4 : Int32} {x5 : Int32} {x6 : Int32} {x7 : Int32} {sg : ST}, f_X12_often_157 k337 n x1 x2 x3 x4 x5 x6 x7 sg = some (v, s) → E G mX12_often (1, 28) 157 [.ref 247, .int x1, .int x2, .int x3, .int x4, .int x5, .int x6, .int x7, D0, D0] [] (mem sg) (QI v s) := by
  intro n
  induction n with
  | zero => intro _ _ _ _ _ _ _ _ h; rw [f_X12_often_157] at h; cases h
  | succ n ih =>
    intro x1 x2 x3 x4 x5 x6 x7 sg h
    rw [f_X12_often_157] at h
    refine E_iload (pc := 157) rfl dX12_often_157 ?_
    refine E_aload_n (pc := 159) rfl dX12_often_159 ?_
    refine R_getI (pc := 160) f12_264 dX12_often_160 (ent_st MO247) (by decide) rfl ?_
    refine T_icmp_ge (pc := 163) 337 dX12_often_163 (by decide) h (fun h => ?_) (fun h => ?_)
    · refine E_kp [true, true, true, true, true, true, true, false, false, false] (L2 := [_, _, _, _, _, _, _, D0, D0, D0]) rfl rfl ?_
      exact hk337 h
    · refine E_aload_n (pc := 166) rfl dX12_often_166 ?_
      refine E_iload (pc := 167) rfl dX12_often_167 ?_
      refine E_iload (pc := 169) rfl dX12_often_169 ?_
      refine E_iload (pc := 171) rfl dX12_often_171 ?_
      obtain ⟨v21, s20, hp, h⟩ := bd2_some h
      refine E_callV (pc := 173) (As := [_, _, _]) (fc := (0, 0)) s12_295_12 oX12_isLeast dX12_often_173 (mem_ob (ent_st MO247)) rfl rfl (Nat.le_of_ble_eq_true rfl) rfl rfl (by decide) (e_X12_isLeast hp) (fun rv_ M_ hq_ => ?_)
      obtain ⟨rfl, rfl⟩ := hq_
      refine T_if_ne (pc := 176) 182 dX12_often_176 (by decide) h (fun h => ?_) (fun h => ?_)
      · refine E_iload_n (pc := 182) rfl dX12_often_182 ?_
        refine T_if_lt (pc := 183) 214 dX12_often_183 (by decide) h (fun h => ?_) (fun h => ?_)
        · refine E_aload_n (pc := 214) rfl dX12_often_214 ?_
          refine R_getR (pc := 215) (b := 279) f12_108 dX12_often_215 (ent_st MO247) (by decide) rfl rfl ?_
          refine E_iload (pc := 218) rfl dX12_often_218 ?_
          refine T_iald (pc := 220) dX12_often_220 (ent_st MA279) (by decide) h (fun v22 h => ?_)
          refine E_iload_n (pc := 221) rfl dX12_often_221 ?_
          refine T_icmp_ne (pc := 222) 229 dX12_often_222 (by decide) h (fun h => ?_) (fun h => ?_)
          · refine E_iconst (pc := 229) 0 rfl dX12_often_229 ?_
            refine e_X12_often_230 (fun h => ih h) h
          · refine E_iconst (pc := 225) 1 rfl dX12_often_225 ?_
            refine E_goto (pc := 226) 230 (by decide) dX12_often_226 ?_
            refine e_X12_often_230 (fun h => ih h) h
        · refine E_aload_n (pc := 186) rfl dX12_often_186 ?_
          refine R_getR (pc := 187) (b := 267) f12_72 dX12_often_187 (ent_st MO247) (by decide) rfl rfl ?_
          refine E_aload_n (pc := 190) rfl dX12_often_190 ?_
          refine R_getR (pc := 191) (b := 278) f12_105 dX12_often_191 (ent_st MO247) (by decide) rfl rfl ?_
          refine E_iload (pc := 194) rfl dX12_often_194 ?_
          refine T_iald (pc := 196) dX12_often_196 (ent_st MA278) (by decide) h (fun v33 h => ?_)
          refine T_iald (pc := 197) dX12_often_197 (ent_st MA267) (by decide) h (fun v34 h => ?_)
          refine E_iload_n (pc := 198) rfl dX12_often_198 ?_
          refine E_ishr (pc := 199) dX12_often_199 ?_
          refine E_iconst (pc := 200) 1 rfl dX12_often_200 ?_
          refine E_iand (pc := 201) dX12_often_201 ?_
          refine E_iconst (pc := 202) 1 rfl dX12_often_202 ?_
          refine T_icmp_ne (pc := 203) 210 dX12_often_203 (by decide) h (fun h => ?_) (fun h => ?_)
          · refine E_iconst (pc := 210) 0 rfl dX12_often_210 ?_
            refine E_goto (pc := 211) 230 (by decide) dX12_often_211 ?_
            refine e_X12_often_230 (fun h => ih h) h
          · refine E_iconst (pc := 206) 1 rfl dX12_often_206 ?_
            refine E_goto (pc := 207) 230 (by decide) dX12_often_207 ?_
            refine e_X12_often_230 (fun h => ih h) h
      · refine E_goto (pc := 179) 331 (by decide) dX12_often_179 ?_
        refine T_iinc (pc := 331) (m := 1) (L2 := [_, _, _, _, _, _, _, _, _, _]) rfl rfl rfl rfl dX12_often_331 ?_
        refine E_goto (pc := 334) 157 (by decide) dX12_often_334 ?_
        exact ih h
noncomputable def f_X12_often_125 (k343 : Int32 → Int32 → Int32 → Int32 → Int32 → ST → Option (Int32 × ST)) : Nat → Int32 → Int32 → Int32 → Int32 → Int32 → Int32 → ST → Option (Int32 × ST)
  | 0, _, _, _, _, _, _, _ => none
  | n + 1, x1, x2, x3, x4, x5, x6, sg =>
    if x6 < (nI 1024) then
    ((rdI sg 283 1024 x6).bind fun v18 =>
    if v18 < 0 then
    ((f_X12_often_125 k343 n) x1 x2 x3 x4 x5 (x6 + nI 1) sg)
    else ((f_X12_edgesOf x5 x6 sg).bind fun s19 =>
    f_X12_often_157 (fun x1_35 x2_36 x3_37 x4_38 x5_39 x6_40 s41 =>
    (f_X12_often_125 k343 n) x1_35 x2_36 x3_37 x4_38 x5_39 (x6_40 + nI 1) s41) FU x1 x2 x3 x4 x5 x6 (nI 0) s19))
    else (k343 x1 x2 x3 x4 x5 sg)
theorem e_X12_often_125 {G : GP} {k343 : Int32 → Int32 → Int32 → Int32 → Int32 → ST → Option (Int32 × ST)} {v : Int32} {s : ST} (hk343 : ∀ {x1 : Int32} {x2 : Int32} {x3 : Int32} {x4 : Int32} {x5 : Int32} {sg : ST}, k343 x1 x2 x3 x4 x5 sg = some (v, s) → E G mX12_often (1, 28) 343 [.ref 247, .int x1, .int x2, .int x3, .int x4, .int x5, D0, D0, D0, D0] [] (mem sg) (QI v s)) : ∀ (n : Nat) {x1 : Int32} {x2 : Int32} {x3 : Int32} {x4 : Int32} {x5 : Int32} {x6 : Int32} {sg : ST}, f_X12_often_125 k343 n x1 x2 x3 x4 x5 x6 sg = some (v, s) → E G mX12_often (1, 28) 125 [.ref 247, .int x1, .int x2, .int x3, .int x4, .int x5, .int x6, D0, D0, D0] [] (mem sg) (QI v s) := by
  intro n
  induction n with
  | zero => intro _ _ _ _ _ _ _ h; rw [f_X12_often_125] at h; cases h
  | succ n ih =>
    intro x1 x2 x3 x4 x5 x6 sg h
    rw [f_X12_often_125] at h
    refine E_iload (pc := 125) rfl dX12_often_125 ?_
    refine E_sipush (pc := 127) (nI 1024) (by decide) dX12_often_127 ?_
    refine T_icmp_ge (pc := 130) 343 dX12_often_130 (by decide) h (fun h => ?_) (fun h => ?_)
    · refine E_kp [true, true, true, true, true, true, false, false, false, false] (L2 := [_, _, _, _, _, _, D0, D0, D0, D0]) rfl rfl ?_
      exact hk343 h
    · refine E_aload_n (pc := 133) rfl dX12_often_133 ?_
      refine R_getR (pc := 134) (b := 283) f12_120 dX12_often_134 (ent_st MO247) (by decide) rfl rfl ?_
      refine E_iload (pc := 137) rfl dX12_often_137 ?_
      refine T_iald (pc := 139) dX12_often_139 (ent_st MA283) (by decide) h (fun v18 h => ?_)
      refine T_if_ge (pc := 140) 146 dX12_often_140 (by decide) h (fun h => ?_) (fun h => ?_)
      · refine E_aload_n (pc := 146) rfl dX12_often_146 ?_
        refine E_iload (pc := 147) rfl dX12_often_147 ?_
        refine E_iload (pc := 149) rfl dX12_often_149 ?_
        obtain ⟨s19, hp, h⟩ := bd_some h
        refine E_callV (pc := 151) (As := [_, _]) (fc := (0, 0)) s12_275_12 oX12_edgesOf dX12_often_151 (mem_ob (ent_st MO247)) rfl rfl (Nat.le_of_ble_eq_true rfl) rfl rfl (by decide) (e_X12_edgesOf hp) (fun rv_ M_ hq_ => ?_)
        obtain ⟨rfl, rfl⟩ := hq_
        refine E_iconst (pc := 154) 0 rfl dX12_often_154 ?_
        refine E_istore (pc := 155) (L2 := [_, _, _, _, _, _, _, _, _, _]) rfl rfl dX12_often_155 ?_
        refine e_X12_often_157 ?_ FU h
        · intro x1_35 x2_36 x3_37 x4_38 x5_39 x6_40 s41 h
          refine T_iinc (pc := 337) (m := 1) (L2 := [_, _, _, _, _, _, _, _, _, _]) rfl rfl rfl rfl dX12_often_337 ?_
          refine E_goto (pc := 340) 125 (by decide) dX12_often_340 ?_
          exact ih h
      · refine E_goto (pc := 143) 337 (by decide) dX12_often_143 ?_
        refine T_iinc (pc := 337) (m := 1) (L2 := [_, _, _, _, _, _, _, _, _, _]) rfl rfl rfl rfl dX12_often_337 ?_
        refine E_goto (pc := 340) 125 (by decide) dX12_often_340 ?_
        exact ih h
noncomputable def f_X12_often_346 (k388 : Int32 → Int32 → Int32 → Int32 → Int32 → ST → Option (Int32 × ST)) : Nat → Int32 → Int32 → Int32 → Int32 → Int32 → Int32 → ST → Option (Int32 × ST)
  | 0, _, _, _, _, _, _, _ => none
  | n + 1, x1, x2, x3, x4, x5, x6, sg =>
    if x6 < (nI 1024) then
    ((rdI sg 284 1024 x6).bind fun v48 =>
    (wrI sg 282 1024 x6 v48).bind fun s49 =>
    (rdI s49 285 1024 x6).bind fun v50 =>
    (wrI s49 283 1024 x6 v50).bind fun s51 =>
    (f_X12_often_346 k388 n) x1 x2 x3 x4 x5 (x6 + nI 1) s51)
    else (k388 x1 x2 x3 x4 x5 sg)
theorem e_X12_often_346 {G : GP} {k388 : Int32 → Int32 → Int32 → Int32 → Int32 → ST → Option (Int32 × ST)} {v : Int32} {s : ST} (hk388 : ∀ {x1 : Int32} {x2 : Int32} {x3 : Int32} {x4 : Int32} {x5 : Int32} {sg : ST}, k388 x1 x2 x3 x4 x5 sg = some (v, s) → E G mX12_often (1, 28) 388 [.ref 247, .int x1, .int x2, .int x3, .int x4, .int x5, D0, D0, D0, D0] [] (mem sg) (QI v s)) : ∀ (n : Nat) {x1 : Int32} {x2 : Int32} {x3 : Int32} {x4 : Int32} {x5 : Int32} {x6 : Int32} {sg : ST}, f_X12_often_346 k388 n x1 x2 x3 x4 x5 x6 sg = some (v, s) → E G mX12_often (1, 28) 346 [.ref 247, .int x1, .int x2, .int x3, .int x4, .int x5, .int x6, D0, D0, D0] [] (mem sg) (QI v s) := by
  intro n
  induction n with
  | zero => intro _ _ _ _ _ _ _ h; rw [f_X12_often_346] at h; cases h
  | succ n ih =>
    intro x1 x2 x3 x4 x5 x6 sg h
    rw [f_X12_often_346] at h
    refine E_iload (pc := 346) rfl dX12_often_346 ?_
    refine E_sipush (pc := 348) (nI 1024) (by decide) dX12_often_348 ?_
    refine T_icmp_ge (pc := 351) 388 dX12_often_351 (by decide) h (fun h => ?_) (fun h => ?_)
    · refine E_kp [true, true, true, true, true, true, false, false, false, false] (L2 := [_, _, _, _, _, _, D0, D0, D0, D0]) rfl rfl ?_
      exact hk388 h
    · refine E_aload_n (pc := 354) rfl dX12_often_354 ?_
      refine R_getR (pc := 355) (b := 282) f12_117 dX12_often_355 (ent_st MO247) (by decide) rfl rfl ?_
      refine E_iload (pc := 358) rfl dX12_often_358 ?_
      refine E_aload_n (pc := 360) rfl dX12_often_360 ?_
      refine R_getR (pc := 361) (b := 284) f12_123 dX12_often_361 (ent_st MO247) (by decide) rfl rfl ?_
      refine E_iload (pc := 364) rfl dX12_often_364 ?_
      refine T_iald (pc := 366) dX12_often_366 (ent_st MA284) (by decide) h (fun v48 h => ?_)
      refine T_iast (pc := 367) dX12_often_367 (ent_st MA282) (by decide) h (fun s49 h => ?_)
      refine E_aload_n (pc := 368) rfl dX12_often_368 ?_
      refine R_getR (pc := 369) (b := 283) f12_120 dX12_often_369 (ent_st MO247) (by decide) rfl rfl ?_
      refine E_iload (pc := 372) rfl dX12_often_372 ?_
      refine E_aload_n (pc := 374) rfl dX12_often_374 ?_
      refine R_getR (pc := 375) (b := 285) f12_126 dX12_often_375 (ent_st MO247) (by decide) rfl rfl ?_
      refine E_iload (pc := 378) rfl dX12_often_378 ?_
      refine T_iald (pc := 380) dX12_often_380 (ent_st MA285) (by decide) h (fun v50 h => ?_)
      refine T_iast (pc := 381) dX12_often_381 (ent_st MA283) (by decide) h (fun s51 h => ?_)
      refine T_iinc (pc := 382) (m := 1) (L2 := [_, _, _, _, _, _, _, _, _, _]) rfl rfl rfl rfl dX12_often_382 ?_
      refine E_goto (pc := 385) 346 (by decide) dX12_often_385 ?_
      exact ih h
noncomputable def f_X12_often_80 (k394 : ST → Option (Int32 × ST)) : Nat → Int32 → Int32 → Int32 → Int32 → Int32 → ST → Option (Int32 × ST)
  | 0, _, _, _, _, _, _ => none
  | n + 1, x1, x2, x3, x4, x5, sg =>
    if x5 < (nI 12) then
    (f_X12_often_90 (fun x1_12 x2_13 x3_14 x4_15 x5_16 s17 =>
    f_X12_often_125 (fun x1_42 x2_43 x3_44 x4_45 x5_46 s47 =>
    f_X12_often_346 (fun x1_52 x2_53 x3_54 x4_55 x5_56 s57 =>
    (f_X12_often_80 k394 n) x1_52 x2_53 x3_54 x4_55 (x5_56 + nI 1) s57) FU x1_42 x2_43 x3_44 x4_45 x5_46 (nI 0) s47) FU x1_12 x2_13 x3_14 x4_15 x5_16 (nI 0) s17) FU x1 x2 x3 x4 x5 (nI 0) sg)
    else (k394 sg)
theorem e_X12_often_80 {G : GP} {k394 : ST → Option (Int32 × ST)} {v : Int32} {s : ST} (hk394 : ∀ {sg : ST}, k394 sg = some (v, s) → E G mX12_often (1, 28) 394 [.ref 247, D0, D0, D0, D0, D0, D0, D0, D0, D0] [] (mem sg) (QI v s)) : ∀ (n : Nat) {x1 : Int32} {x2 : Int32} {x3 : Int32} {x4 : Int32} {x5 : Int32} {sg : ST}, f_X12_often_80 k394 n x1 x2 x3 x4 x5 sg = some (v, s) → E G mX12_often (1, 28) 80 [.ref 247, .int x1, .int x2, .int x3, .int x4, .int x5, D0, D0, D0, D0] [] (mem sg) (QI v s) := by
  intro n
  induction n with
  | zero => intro _ _ _ _ _ _ h; rw [f_X12_often_80] at h; cases h
  | succ n ih =>
    intro x1 x2 x3 x4 x5 sg h
    rw [f_X12_often_80] at h
    refine E_iload (pc := 80) rfl dX12_often_80 ?_
    refine E_bipush (pc := 82) (nI 12) (by decide) dX12_often_82 ?_
    refine T_icmp_ge (pc := 84) 394 dX12_often_84 (by decide) h (fun h => ?_) (fun h => ?_)
    · refine E_kp [true, false, false, false, false, false, false, false, false, false] (L2 := [_, D0, D0, D0, D0, D0, D0, D0, D0, D0]) rfl rfl ?_
      exact hk394 h
    · refine E_iconst (pc := 87) 0 rfl dX12_often_87 ?_
      refine E_istore (pc := 88) (L2 := [_, _, _, _, _, _, _, _, _, _]) rfl rfl dX12_often_88 ?_
      refine e_X12_often_90 ?_ FU h
      · intro x1_12 x2_13 x3_14 x4_15 x5_16 s17 h
        refine E_iconst (pc := 122) 0 rfl dX12_often_122 ?_
        refine E_istore (pc := 123) (L2 := [_, _, _, _, _, _, _, _, _, _]) rfl rfl dX12_often_123 ?_
        refine e_X12_often_125 ?_ FU h
        · intro x1_42 x2_43 x3_44 x4_45 x5_46 s47 h
          refine E_iconst (pc := 343) 0 rfl dX12_often_343 ?_
          refine E_istore (pc := 344) (L2 := [_, _, _, _, _, _, _, _, _, _]) rfl rfl dX12_often_344 ?_
          refine e_X12_often_346 ?_ FU h
          · intro x1_52 x2_53 x3_54 x4_55 x5_56 s57 h
            refine T_iinc (pc := 388) (m := 1) (L2 := [_, _, _, _, _, _, _, _, _, _]) rfl rfl rfl rfl dX12_often_388 ?_
            refine E_goto (pc := 391) 80 (by decide) dX12_often_391 ?_
            exact ih h
noncomputable def f_X12_often_405 : Nat → Int32 → Int32 → Int32 → ST → Option (Int32 × ST)
  | 0, _, _, _, _ => none
  | n + 1, x5, x6, x7, sg =>
    if x7 < (nI 1024) then
    (if (x7 >>> ((nI 8) &&& 31)) = (((nI 1) <<< ((sg.1 247 36) &&& 31)) - (nI 1)) then
    ((rdI sg 282 1024 x7).bind fun v59 =>
    (rdI sg 283 1024 x7).bind fun v60 =>
    (f_X12_often_405 n) (if v59 < x5 then v59 else x5) (if x6 < v60 then v60 else x6) (x7 + nI 1) sg)
    else ((f_X12_often_405 n) x5 x6 (x7 + nI 1) sg))
    else (some ((((nI 100) * x6) + x5), sg))
theorem e_X12_often_405 {G : GP} {v : Int32} {s : ST}  : ∀ (n : Nat) {x5 : Int32} {x6 : Int32} {x7 : Int32} {sg : ST}, f_X12_often_405 n x5 x6 x7 sg = some (v, s) → E G mX12_often (1, 28) 405 [.ref 247, D0, D0, D0, D0, .int x5, .int x6, .int x7, D0, D0] [] (mem sg) (QI v s) := by
  intro n
  induction n with
  | zero => intro _ _ _ _ h; rw [f_X12_often_405] at h; cases h
  | succ n ih =>
    intro x5 x6 x7 sg h
    rw [f_X12_often_405] at h
    refine E_iload (pc := 405) rfl dX12_often_405 ?_
    refine E_sipush (pc := 407) (nI 1024) (by decide) dX12_often_407 ?_
    refine T_icmp_ge (pc := 410) 466 dX12_often_410 (by decide) h (fun h => ?_) (fun h => ?_)
    · refine E_bipush (pc := 466) (nI 100) (by decide) dX12_often_466 ?_
      refine E_iload (pc := 468) rfl dX12_often_468 ?_
      refine E_imul (pc := 470) dX12_often_470 ?_
      refine E_iload (pc := 471) rfl dX12_often_471 ?_
      refine E_iadd (pc := 473) dX12_often_473 ?_
      exact E_ireturn (pc := 474) rfl rfl dX12_often_474 (QI_of h)
    · refine E_iload (pc := 413) rfl dX12_often_413 ?_
      refine E_bipush (pc := 415) (nI 8) (by decide) dX12_often_415 ?_
      refine E_ishr (pc := 417) dX12_often_417 ?_
      refine E_iconst (pc := 418) 1 rfl dX12_often_418 ?_
      refine E_aload_n (pc := 419) rfl dX12_often_419 ?_
      refine R_getI (pc := 420) f12_257 dX12_often_420 (ent_st MO247) (by decide) rfl ?_
      refine E_ishl (pc := 423) dX12_often_423 ?_
      refine E_iconst (pc := 424) 1 rfl dX12_often_424 ?_
      refine E_isub (pc := 425) dX12_often_425 ?_
      refine T_icmp_eq (pc := 426) 432 dX12_often_426 (by decide) h (fun h => ?_) (fun h => ?_)
      · refine E_iload (pc := 432) rfl dX12_often_432 ?_
        refine E_aload_n (pc := 434) rfl dX12_often_434 ?_
        refine R_getR (pc := 435) (b := 282) f12_117 dX12_often_435 (ent_st MO247) (by decide) rfl rfl ?_
        refine E_iload (pc := 438) rfl dX12_often_438 ?_
        refine T_iald (pc := 440) dX12_often_440 (ent_st MA282) (by decide) h (fun v59 h => ?_)
        refine E_mmin (pc := 441) (by decide +kernel) (by decide) (Nat.le_of_ble_eq_true rfl) dX12_often_441 ?_
        refine E_istore (pc := 444) (L2 := [_, _, _, _, _, _, _, _, _, _]) rfl rfl dX12_often_444 ?_
        refine E_iload (pc := 446) rfl dX12_often_446 ?_
        refine E_aload_n (pc := 448) rfl dX12_often_448 ?_
        refine R_getR (pc := 449) (b := 283) f12_120 dX12_often_449 (ent_st MO247) (by decide) rfl rfl ?_
        refine E_iload (pc := 452) rfl dX12_often_452 ?_
        refine T_iald (pc := 454) dX12_often_454 (ent_st MA283) (by decide) h (fun v60 h => ?_)
        refine E_mmax (pc := 455) (by decide +kernel) (by decide) (Nat.le_of_ble_eq_true rfl) dX12_often_455 ?_
        refine E_istore (pc := 458) (L2 := [_, _, _, _, _, _, _, _, _, _]) rfl rfl dX12_often_458 ?_
        refine T_iinc (pc := 460) (m := 1) (L2 := [_, _, _, _, _, _, _, _, _, _]) rfl rfl rfl rfl dX12_often_460 ?_
        refine E_goto (pc := 463) 405 (by decide) dX12_often_463 ?_
        exact ih h
      · refine E_goto (pc := 429) 460 (by decide) dX12_often_429 ?_
        refine T_iinc (pc := 460) (m := 1) (L2 := [_, _, _, _, _, _, _, _, _, _]) rfl rfl rfl rfl dX12_often_460 ?_
        refine E_goto (pc := 463) 405 (by decide) dX12_often_463 ?_
        exact ih h
noncomputable def f_X12_often (x1 : Int32) (x2 : Int32) (x3 : Int32) (x4 : Int32) (σ : ST) : Option (Int32 × ST) :=
    f_X12_often_3 (fun x1_5 x2_6 x3_7 x4_8 s9 =>
    f_X12_often_80 (fun s58 =>
    f_X12_often_405 FU (nI 100000000) (-1) (nI 0) s58) FU x1_5 x2_6 x3_7 x4_8 (nI 0) s9) FU x1 x2 x3 x4 (nI 0) σ
theorem e_X12_often {G : GP} {x1 : Int32} {x2 : Int32} {x3 : Int32} {x4 : Int32} {σ : ST} {v : Int32} {s : ST}  (h : f_X12_often x1 x2 x3 x4 σ = some (v, s)) : E G mX12_often (1, 28) 0 [.ref 247, .int x1, .int x2, .int x3, .int x4, D0, D0, D0, D0, D0] [] (mem σ) (QI v s) := by
  unfold f_X12_often at h
  refine E_iconst (pc := 0) 0 rfl dX12_often_0 ?_
  refine E_istore (pc := 1) (L2 := [_, _, _, _, _, _, _, _, _, _]) rfl rfl dX12_often_1 ?_
  refine e_X12_often_3 ?_ FU h
  · intro x1_5 x2_6 x3_7 x4_8 s9 h
    refine E_iconst (pc := 77) 0 rfl dX12_often_77 ?_
    refine E_istore (pc := 78) (L2 := [_, _, _, _, _, _, _, _, _, _]) rfl rfl dX12_often_78 ?_
    refine e_X12_often_80 ?_ FU h
    · intro s58 h
      refine E_ldcw (pc := 394) (v := nI 100000000) q12_274 dX12_often_394 ?_
      refine E_istore (pc := 397) (L2 := [_, _, _, _, _, _, _, _, _, _]) rfl rfl dX12_often_397 ?_
      refine E_im1 (pc := 399) dX12_often_399 ?_
      refine E_istore (pc := 400) (L2 := [_, _, _, _, _, _, _, _, _, _]) rfl rfl dX12_often_400 ?_
      refine E_iconst (pc := 402) 0 rfl dX12_often_402 ?_
      refine E_istore (pc := 403) (L2 := [_, _, _, _, _, _, _, _, _, _]) rfl rfl dX12_often_403 ?_
      refine e_X12_often_405  FU h
noncomputable def f_X12_told (x1 : Int32) (σ : ST) : Option (Int32 × ST) :=
    if (x1 / (nI 100)) = 0 then
    (some ((nI 0), σ))
    else (if 0 < (x1 - x1 / (nI 100) * (nI 100)) then
    (some ((nI 1), σ))
    else (some ((nI 2), σ)))
theorem e_X12_told {G : GP} {x1 : Int32} {σ : ST} {v : Int32} {s : ST}  (h : f_X12_told x1 σ = some (v, s)) : E G mX12_told (0, 0) 0 [.ref 247, .int x1] [] (mem σ) (QI v s) := by
  unfold f_X12_told at h
  refine E_iload_n (pc := 0) rfl dX12_told_0 ?_
  refine E_bipush (pc := 1) (nI 100) (by decide) dX12_told_1 ?_
  refine E_idiv (pc := 3) (by decide) dX12_told_3 ?_
  refine T_if_ne (pc := 4) 11 dX12_told_4 (by decide) h (fun h => ?_) (fun h => ?_)
  · refine E_iload_n (pc := 11) rfl dX12_told_11 ?_
    refine E_bipush (pc := 12) (nI 100) (by decide) dX12_told_12 ?_
    refine E_irem (pc := 14) (by decide) dX12_told_14 ?_
    refine T_if_le (pc := 15) 22 dX12_told_15 (by decide) h (fun h => ?_) (fun h => ?_)
    · refine E_iconst (pc := 22) 2 rfl dX12_told_22 ?_
      exact E_ireturn (pc := 23) rfl rfl dX12_told_23 (QI_of h)
    · refine E_iconst (pc := 18) 1 rfl dX12_told_18 ?_
      refine E_goto (pc := 19) 23 (by decide) dX12_told_19 ?_
      exact E_ireturn (pc := 23) rfl rfl dX12_told_23 (QI_of h)
  · refine E_iconst (pc := 7) 0 rfl dX12_told_7 ?_
    refine E_goto (pc := 8) 23 (by decide) dX12_told_8 ?_
    exact E_ireturn (pc := 23) rfl rfl dX12_told_23 (QI_of h)
noncomputable def f_X12_must (x1 : Int32) (x2 : Int32) (x3 : Int32) (σ : ST) : Option (Int32 × ST) :=
    bd2 (f_X12_isHappening x1 σ) fun v2 s1 =>
    if v2 = 0 then
    (some ((-1), s1))
    else (bd2 (f_X12_areHours x2 x3 s1) fun v4 s3 =>
    if v4 = 0 then
    (some ((-1), s3))
    else (bd2 (f_X12_all s3) fun v6 s5 =>
    bd2 (f_X12_solve v6 (-1) (-1) s5) fun v8 s7 =>
    if v8 = 0 then
    (some ((-1), s7))
    else (bd2 (f_X12_often (-1) x1 x2 x3 s7) fun v10 s9 =>
    bd2 (f_X12_told v10 s9) fun v12 s11 =>
    some (v12, s11))))
theorem e_X12_must {G : GP} {x1 : Int32} {x2 : Int32} {x3 : Int32} {σ : ST} {v : Int32} {s : ST}  (h : f_X12_must x1 x2 x3 σ = some (v, s)) : E G mX12_must (3, 89) 0 [.ref 247, .int x1, .int x2, .int x3] [] (mem σ) (QI v s) := by
  unfold f_X12_must at h
  refine E_aload_n (pc := 0) rfl dX12_must_0 ?_
  refine E_iload_n (pc := 1) rfl dX12_must_1 ?_
  obtain ⟨v2, s1, hp, h⟩ := bd2_some h
  refine E_callV (pc := 2) (As := [_]) (fc := (0, 0)) s12_220_12 oX12_isHappening dX12_must_2 (mem_ob (ent_st MO247)) rfl rfl (Nat.le_of_ble_eq_true rfl) rfl rfl (by decide) (e_X12_isHappening hp) (fun rv_ M_ hq_ => ?_)
  obtain ⟨rfl, rfl⟩ := hq_
  refine T_if_eq (pc := 5) 30 dX12_must_5 (by decide) h (fun h => ?_) (fun h => ?_)
  · refine E_im1 (pc := 30) dX12_must_30 ?_
    exact E_ireturn (pc := 31) rfl rfl dX12_must_31 (QI_of h)
  · refine E_aload_n (pc := 8) rfl dX12_must_8 ?_
    refine E_iload_n (pc := 9) rfl dX12_must_9 ?_
    refine E_iload_n (pc := 10) rfl dX12_must_10 ?_
    obtain ⟨v4, s3, hp, h⟩ := bd2_some h
    refine E_callV (pc := 11) (As := [_, _]) (fc := (1, 21)) s12_230_12 oX12_areHours dX12_must_11 (mem_ob (ent_st MO247)) rfl rfl (Nat.le_of_ble_eq_true rfl) rfl rfl (by decide) (e_X12_areHours hp) (fun rv_ M_ hq_ => ?_)
    obtain ⟨rfl, rfl⟩ := hq_
    refine T_if_eq (pc := 14) 30 dX12_must_14 (by decide) h (fun h => ?_) (fun h => ?_)
    · refine E_im1 (pc := 30) dX12_must_30 ?_
      exact E_ireturn (pc := 31) rfl rfl dX12_must_31 (QI_of h)
    · refine E_aload_n (pc := 17) rfl dX12_must_17 ?_
      refine E_aload_n (pc := 18) rfl dX12_must_18 ?_
      obtain ⟨v6, s5, hp, h⟩ := bd2_some h
      refine E_callV (pc := 19) (As := []) (fc := (0, 0)) s12_286_12 oX12_all dX12_must_19 (mem_ob (ent_st MO247)) rfl rfl (Nat.le_of_ble_eq_true rfl) rfl rfl (by decide) (e_X12_all hp) (fun rv_ M_ hq_ => ?_)
      obtain ⟨rfl, rfl⟩ := hq_
      refine E_im1 (pc := 22) dX12_must_22 ?_
      refine E_im1 (pc := 23) dX12_must_23 ?_
      obtain ⟨v8, s7, hp, h⟩ := bd2_some h
      refine E_callV (pc := 24) (As := [_, _, _]) (fc := (2, 61)) s12_289_12 oX12_solve dX12_must_24 (mem_ob (ent_st MO247)) rfl rfl (Nat.le_of_ble_eq_true rfl) rfl rfl (by decide) (e_X12_solve hp) (fun rv_ M_ hq_ => ?_)
      obtain ⟨rfl, rfl⟩ := hq_
      refine T_if_ne (pc := 27) 32 dX12_must_27 (by decide) h (fun h => ?_) (fun h => ?_)
      · refine E_aload_n (pc := 32) rfl dX12_must_32 ?_
        refine E_aload_n (pc := 33) rfl dX12_must_33 ?_
        refine E_im1 (pc := 34) dX12_must_34 ?_
        refine E_iload_n (pc := 35) rfl dX12_must_35 ?_
        refine E_iload_n (pc := 36) rfl dX12_must_36 ?_
        refine E_iload_n (pc := 37) rfl dX12_must_37 ?_
        obtain ⟨v10, s9, hp, h⟩ := bd2_some h
        refine E_callV (pc := 38) (As := [_, _, _, _]) (fc := (1, 28)) s12_313_12 oX12_often dX12_must_38 (mem_ob (ent_st MO247)) rfl rfl (Nat.le_of_ble_eq_true rfl) rfl rfl (by decide) (e_X12_often hp) (fun rv_ M_ hq_ => ?_)
        obtain ⟨rfl, rfl⟩ := hq_
        obtain ⟨v12, s11, hp, h⟩ := bd2_some h
        refine E_callV (pc := 41) (As := [_]) (fc := (0, 0)) s12_317_12 oX12_told dX12_must_41 (mem_ob (ent_st MO247)) rfl rfl (Nat.le_of_ble_eq_true rfl) rfl rfl (by decide) (e_X12_told hp) (fun rv_ M_ hq_ => ?_)
        obtain ⟨rfl, rfl⟩ := hq_
        exact E_ireturn (pc := 44) rfl rfl dX12_must_44 (QI_of h)
      · refine E_im1 (pc := 30) dX12_must_30 ?_
        exact E_ireturn (pc := 31) rfl rfl dX12_must_31 (QI_of h)
noncomputable def f_X12_could_64 (k102 : Int32 → Int32 → Int32 → ST → Option (Int32 × ST)) : Nat → Int32 → Int32 → Int32 → Int32 → ST → Option (Int32 × ST)
  | 0, _, _, _, _, _ => none
  | n + 1, x1, x2, x3, x4, sg =>
    if x4 < (sg.1 247 40) then
    (bd2 (f_X12_isLeast x1 x3 x4 sg) fun v10 s9 =>
    if v10 = 0 then
    ((f_X12_could_64 k102 n) x1 x2 x3 (x4 + nI 1) s9)
    else ((rdI s9 279 28 x4).bind fun v11 =>
    (f_X12_could_64 k102 n) x1 (x2 ||| ((nI 1) <<< (v11 &&& 31))) x3 (x4 + nI 1) s9))
    else (k102 x1 x2 x3 sg)
theorem e_X12_could_64 {G : GP} {k102 : Int32 → Int32 → Int32 → ST → Option (Int32 × ST)} {v : Int32} {s : ST} (hk102 : ∀ {x1 : Int32} {x2 : Int32} {x3 : Int32} {sg : ST}, k102 x1 x2 x3 sg = some (v, s) → E G mX12_could (3, 89) 102 [.ref 247, .int x1, .int x2, .int x3, D0] [] (mem sg) (QI v s)) : ∀ (n : Nat) {x1 : Int32} {x2 : Int32} {x3 : Int32} {x4 : Int32} {sg : ST}, f_X12_could_64 k102 n x1 x2 x3 x4 sg = some (v, s) → E G mX12_could (3, 89) 64 [.ref 247, .int x1, .int x2, .int x3, .int x4] [] (mem sg) (QI v s) := by
  intro n
  induction n with
  | zero => intro _ _ _ _ _ h; rw [f_X12_could_64] at h; cases h
  | succ n ih =>
    intro x1 x2 x3 x4 sg h
    rw [f_X12_could_64] at h
    refine E_iload (pc := 64) rfl dX12_could_64 ?_
    refine E_aload_n (pc := 66) rfl dX12_could_66 ?_
    refine R_getI (pc := 67) f12_264 dX12_could_67 (ent_st MO247) (by decide) rfl ?_
    refine T_icmp_ge (pc := 70) 102 dX12_could_70 (by decide) h (fun h => ?_) (fun h => ?_)
    · refine E_kp [true, true, true, true, false] (L2 := [_, _, _, _, D0]) rfl rfl ?_
      exact hk102 h
    · refine E_aload_n (pc := 73) rfl dX12_could_73 ?_
      refine E_iload_n (pc := 74) rfl dX12_could_74 ?_
      refine E_iload_n (pc := 75) rfl dX12_could_75 ?_
      refine E_iload (pc := 76) rfl dX12_could_76 ?_
      obtain ⟨v10, s9, hp, h⟩ := bd2_some h
      refine E_callV (pc := 78) (As := [_, _, _]) (fc := (0, 0)) s12_295_12 oX12_isLeast dX12_could_78 (mem_ob (ent_st MO247)) rfl rfl (Nat.le_of_ble_eq_true rfl) rfl rfl (by decide) (e_X12_isLeast hp) (fun rv_ M_ hq_ => ?_)
      obtain ⟨rfl, rfl⟩ := hq_
      refine T_if_eq (pc := 81) 96 dX12_could_81 (by decide) h (fun h => ?_) (fun h => ?_)
      · refine T_iinc (pc := 96) (m := 1) (L2 := [_, _, _, _, _]) rfl rfl rfl rfl dX12_could_96 ?_
        refine E_goto (pc := 99) 64 (by decide) dX12_could_99 ?_
        exact ih h
      · refine E_iload_n (pc := 84) rfl dX12_could_84 ?_
        refine E_iconst (pc := 85) 1 rfl dX12_could_85 ?_
        refine E_aload_n (pc := 86) rfl dX12_could_86 ?_
        refine R_getR (pc := 87) (b := 279) f12_108 dX12_could_87 (ent_st MO247) (by decide) rfl rfl ?_
        refine E_iload (pc := 90) rfl dX12_could_90 ?_
        refine T_iald (pc := 92) dX12_could_92 (ent_st MA279) (by decide) h (fun v11 h => ?_)
        refine E_ishl (pc := 93) dX12_could_93 ?_
        refine E_ior (pc := 94) dX12_could_94 ?_
        refine E_istore_n (pc := 95) (L2 := [_, _, _, _, _]) rfl rfl dX12_could_95 ?_
        refine T_iinc (pc := 96) (m := 1) (L2 := [_, _, _, _, _]) rfl rfl rfl rfl dX12_could_96 ?_
        refine E_goto (pc := 99) 64 (by decide) dX12_could_99 ?_
        exact ih h
noncomputable def f_X12_could_27 : Nat → Int32 → Int32 → Int32 → ST → Option (Int32 × ST)
  | 0, _, _, _, _ => none
  | n + 1, x1, x2, x3, sg =>
    if x3 < (nI 1024) then
    ((rdI sg 276 13312 (((nI 1024) * x1) + x3)).bind fun v7 =>
    if v7 = (nI 100000000) then
    ((f_X12_could_27 n) x1 x2 (x3 + nI 1) sg)
    else ((f_X12_edgesOf x1 x3 sg).bind fun s8 =>
    f_X12_could_64 (fun x1_12 x2_13 x3_14 s15 =>
    (f_X12_could_27 n) x1_12 x2_13 (x3_14 + nI 1) s15) FU x1 x2 x3 (nI 0) s8))
    else (some (x2, sg))
theorem e_X12_could_27 {G : GP} {v : Int32} {s : ST}  : ∀ (n : Nat) {x1 : Int32} {x2 : Int32} {x3 : Int32} {sg : ST}, f_X12_could_27 n x1 x2 x3 sg = some (v, s) → E G mX12_could (3, 89) 27 [.ref 247, .int x1, .int x2, .int x3, D0] [] (mem sg) (QI v s) := by
  intro n
  induction n with
  | zero => intro _ _ _ _ h; rw [f_X12_could_27] at h; cases h
  | succ n ih =>
    intro x1 x2 x3 sg h
    rw [f_X12_could_27] at h
    refine E_iload_n (pc := 27) rfl dX12_could_27 ?_
    refine E_sipush (pc := 28) (nI 1024) (by decide) dX12_could_28 ?_
    refine T_icmp_ge (pc := 31) 108 dX12_could_31 (by decide) h (fun h => ?_) (fun h => ?_)
    · refine E_iload_n (pc := 108) rfl dX12_could_108 ?_
      exact E_ireturn (pc := 109) rfl rfl dX12_could_109 (QI_of h)
    · refine E_aload_n (pc := 34) rfl dX12_could_34 ?_
      refine R_getR (pc := 35) (b := 276) f12_99 dX12_could_35 (ent_st MO247) (by decide) rfl rfl ?_
      refine E_sipush (pc := 38) (nI 1024) (by decide) dX12_could_38 ?_
      refine E_iload_n (pc := 41) rfl dX12_could_41 ?_
      refine E_imul (pc := 42) dX12_could_42 ?_
      refine E_iload_n (pc := 43) rfl dX12_could_43 ?_
      refine E_iadd (pc := 44) dX12_could_44 ?_
      refine T_iald (pc := 45) dX12_could_45 (ent_st MA276) (by decide) h (fun v7 h => ?_)
      refine E_ldcw (pc := 46) (v := nI 100000000) q12_274 dX12_could_46 ?_
      refine T_icmp_ne (pc := 49) 55 dX12_could_49 (by decide) h (fun h => ?_) (fun h => ?_)
      · refine E_aload_n (pc := 55) rfl dX12_could_55 ?_
        refine E_iload_n (pc := 56) rfl dX12_could_56 ?_
        refine E_iload_n (pc := 57) rfl dX12_could_57 ?_
        obtain ⟨s8, hp, h⟩ := bd_some h
        refine E_callV (pc := 58) (As := [_, _]) (fc := (0, 0)) s12_275_12 oX12_edgesOf dX12_could_58 (mem_ob (ent_st MO247)) rfl rfl (Nat.le_of_ble_eq_true rfl) rfl rfl (by decide) (e_X12_edgesOf hp) (fun rv_ M_ hq_ => ?_)
        obtain ⟨rfl, rfl⟩ := hq_
        refine E_iconst (pc := 61) 0 rfl dX12_could_61 ?_
        refine E_istore (pc := 62) (L2 := [_, _, _, _, _]) rfl rfl dX12_could_62 ?_
        refine e_X12_could_64 ?_ FU h
        · intro x1_12 x2_13 x3_14 s15 h
          refine T_iinc (pc := 102) (m := 1) (L2 := [_, _, _, _, _]) rfl rfl rfl rfl dX12_could_102 ?_
          refine E_goto (pc := 105) 27 (by decide) dX12_could_105 ?_
          exact ih h
      · refine E_goto (pc := 52) 102 (by decide) dX12_could_52 ?_
        refine T_iinc (pc := 102) (m := 1) (L2 := [_, _, _, _, _]) rfl rfl rfl rfl dX12_could_102 ?_
        refine E_goto (pc := 105) 27 (by decide) dX12_could_105 ?_
        exact ih h
noncomputable def f_X12_could (x1 : Int32) (σ : ST) : Option (Int32 × ST) :=
    bd2 (f_X12_isHour x1 σ) fun v2 s1 =>
    if v2 = 0 then
    (some ((-1), s1))
    else (bd2 (f_X12_all s1) fun v4 s3 =>
    bd2 (f_X12_solve v4 (-1) (-1) s3) fun v6 s5 =>
    if v6 = 0 then
    (some ((-1), s5))
    else (f_X12_could_27 FU x1 (nI 0) (nI 0) s5))
theorem e_X12_could {G : GP} {x1 : Int32} {σ : ST} {v : Int32} {s : ST}  (h : f_X12_could x1 σ = some (v, s)) : E G mX12_could (3, 89) 0 [.ref 247, .int x1, D0, D0, D0] [] (mem σ) (QI v s) := by
  unfold f_X12_could at h
  refine E_aload_n (pc := 0) rfl dX12_could_0 ?_
  refine E_iload_n (pc := 1) rfl dX12_could_1 ?_
  obtain ⟨v2, s1, hp, h⟩ := bd2_some h
  refine E_callV (pc := 2) (As := [_]) (fc := (0, 0)) s12_168_12 oX12_isHour dX12_could_2 (mem_ob (ent_st MO247)) rfl rfl (Nat.le_of_ble_eq_true rfl) rfl rfl (by decide) (e_X12_isHour hp) (fun rv_ M_ hq_ => ?_)
  obtain ⟨rfl, rfl⟩ := hq_
  refine T_if_eq (pc := 5) 21 dX12_could_5 (by decide) h (fun h => ?_) (fun h => ?_)
  · refine E_im1 (pc := 21) dX12_could_21 ?_
    exact E_ireturn (pc := 22) rfl rfl dX12_could_22 (QI_of h)
  · refine E_aload_n (pc := 8) rfl dX12_could_8 ?_
    refine E_aload_n (pc := 9) rfl dX12_could_9 ?_
    obtain ⟨v4, s3, hp, h⟩ := bd2_some h
    refine E_callV (pc := 10) (As := []) (fc := (0, 0)) s12_286_12 oX12_all dX12_could_10 (mem_ob (ent_st MO247)) rfl rfl (Nat.le_of_ble_eq_true rfl) rfl rfl (by decide) (e_X12_all hp) (fun rv_ M_ hq_ => ?_)
    obtain ⟨rfl, rfl⟩ := hq_
    refine E_im1 (pc := 13) dX12_could_13 ?_
    refine E_im1 (pc := 14) dX12_could_14 ?_
    obtain ⟨v6, s5, hp, h⟩ := bd2_some h
    refine E_callV (pc := 15) (As := [_, _, _]) (fc := (2, 61)) s12_289_12 oX12_solve dX12_could_15 (mem_ob (ent_st MO247)) rfl rfl (Nat.le_of_ble_eq_true rfl) rfl rfl (by decide) (e_X12_solve hp) (fun rv_ M_ hq_ => ?_)
    obtain ⟨rfl, rfl⟩ := hq_
    refine T_if_ne (pc := 18) 23 dX12_could_18 (by decide) h (fun h => ?_) (fun h => ?_)
    · refine E_iconst (pc := 23) 0 rfl dX12_could_23 ?_
      refine E_istore_n (pc := 24) (L2 := [_, _, _, _, _]) rfl rfl dX12_could_24 ?_
      refine E_iconst (pc := 25) 0 rfl dX12_could_25 ?_
      refine E_istore_n (pc := 26) (L2 := [_, _, _, _, _]) rfl rfl dX12_could_26 ?_
      refine e_X12_could_27  FU h
    · refine E_im1 (pc := 21) dX12_could_21 ?_
      exact E_ireturn (pc := 22) rfl rfl dX12_could_22 (QI_of h)
noncomputable def f_X12_ever (x1 : Int32) (x2 : Int32) (x3 : Int32) (σ : ST) : Option (Int32 × ST) :=
    bd2 (f_X12_isThing x1 σ) fun v2 s1 =>
    if v2 = 0 then
    (some ((-1), s1))
    else (bd2 (f_X12_areHours x2 x3 s1) fun v4 s3 =>
    if v4 = 0 then
    (some ((-1), s3))
    else (bd2 (f_X12_all s3) fun v6 s5 =>
    bd2 (f_X12_solve v6 (-1) (-1) s5) fun v8 s7 =>
    if v8 = 0 then
    (some ((-1), s7))
    else (bd2 (f_X12_often x1 (-1) x2 x3 s7) fun v10 s9 =>
    bd2 (f_X12_told v10 s9) fun v12 s11 =>
    some (v12, s11))))
theorem e_X12_ever {G : GP} {x1 : Int32} {x2 : Int32} {x3 : Int32} {σ : ST} {v : Int32} {s : ST}  (h : f_X12_ever x1 x2 x3 σ = some (v, s)) : E G mX12_ever (3, 89) 0 [.ref 247, .int x1, .int x2, .int x3] [] (mem σ) (QI v s) := by
  unfold f_X12_ever at h
  refine E_aload_n (pc := 0) rfl dX12_ever_0 ?_
  refine E_iload_n (pc := 1) rfl dX12_ever_1 ?_
  obtain ⟨v2, s1, hp, h⟩ := bd2_some h
  refine E_callV (pc := 2) (As := [_]) (fc := (0, 0)) s12_191_12 oX12_isThing dX12_ever_2 (mem_ob (ent_st MO247)) rfl rfl (Nat.le_of_ble_eq_true rfl) rfl rfl (by decide) (e_X12_isThing hp) (fun rv_ M_ hq_ => ?_)
  obtain ⟨rfl, rfl⟩ := hq_
  refine T_if_eq (pc := 5) 30 dX12_ever_5 (by decide) h (fun h => ?_) (fun h => ?_)
  · refine E_im1 (pc := 30) dX12_ever_30 ?_
    exact E_ireturn (pc := 31) rfl rfl dX12_ever_31 (QI_of h)
  · refine E_aload_n (pc := 8) rfl dX12_ever_8 ?_
    refine E_iload_n (pc := 9) rfl dX12_ever_9 ?_
    refine E_iload_n (pc := 10) rfl dX12_ever_10 ?_
    obtain ⟨v4, s3, hp, h⟩ := bd2_some h
    refine E_callV (pc := 11) (As := [_, _]) (fc := (1, 21)) s12_230_12 oX12_areHours dX12_ever_11 (mem_ob (ent_st MO247)) rfl rfl (Nat.le_of_ble_eq_true rfl) rfl rfl (by decide) (e_X12_areHours hp) (fun rv_ M_ hq_ => ?_)
    obtain ⟨rfl, rfl⟩ := hq_
    refine T_if_eq (pc := 14) 30 dX12_ever_14 (by decide) h (fun h => ?_) (fun h => ?_)
    · refine E_im1 (pc := 30) dX12_ever_30 ?_
      exact E_ireturn (pc := 31) rfl rfl dX12_ever_31 (QI_of h)
    · refine E_aload_n (pc := 17) rfl dX12_ever_17 ?_
      refine E_aload_n (pc := 18) rfl dX12_ever_18 ?_
      obtain ⟨v6, s5, hp, h⟩ := bd2_some h
      refine E_callV (pc := 19) (As := []) (fc := (0, 0)) s12_286_12 oX12_all dX12_ever_19 (mem_ob (ent_st MO247)) rfl rfl (Nat.le_of_ble_eq_true rfl) rfl rfl (by decide) (e_X12_all hp) (fun rv_ M_ hq_ => ?_)
      obtain ⟨rfl, rfl⟩ := hq_
      refine E_im1 (pc := 22) dX12_ever_22 ?_
      refine E_im1 (pc := 23) dX12_ever_23 ?_
      obtain ⟨v8, s7, hp, h⟩ := bd2_some h
      refine E_callV (pc := 24) (As := [_, _, _]) (fc := (2, 61)) s12_289_12 oX12_solve dX12_ever_24 (mem_ob (ent_st MO247)) rfl rfl (Nat.le_of_ble_eq_true rfl) rfl rfl (by decide) (e_X12_solve hp) (fun rv_ M_ hq_ => ?_)
      obtain ⟨rfl, rfl⟩ := hq_
      refine T_if_ne (pc := 27) 32 dX12_ever_27 (by decide) h (fun h => ?_) (fun h => ?_)
      · refine E_aload_n (pc := 32) rfl dX12_ever_32 ?_
        refine E_aload_n (pc := 33) rfl dX12_ever_33 ?_
        refine E_iload_n (pc := 34) rfl dX12_ever_34 ?_
        refine E_im1 (pc := 35) dX12_ever_35 ?_
        refine E_iload_n (pc := 36) rfl dX12_ever_36 ?_
        refine E_iload_n (pc := 37) rfl dX12_ever_37 ?_
        obtain ⟨v10, s9, hp, h⟩ := bd2_some h
        refine E_callV (pc := 38) (As := [_, _, _, _]) (fc := (1, 28)) s12_313_12 oX12_often dX12_ever_38 (mem_ob (ent_st MO247)) rfl rfl (Nat.le_of_ble_eq_true rfl) rfl rfl (by decide) (e_X12_often hp) (fun rv_ M_ hq_ => ?_)
        obtain ⟨rfl, rfl⟩ := hq_
        obtain ⟨v12, s11, hp, h⟩ := bd2_some h
        refine E_callV (pc := 41) (As := [_]) (fc := (0, 0)) s12_317_12 oX12_told dX12_ever_41 (mem_ob (ent_st MO247)) rfl rfl (Nat.le_of_ble_eq_true rfl) rfl rfl (by decide) (e_X12_told hp) (fun rv_ M_ hq_ => ?_)
        obtain ⟨rfl, rfl⟩ := hq_
        exact E_ireturn (pc := 44) rfl rfl dX12_ever_44 (QI_of h)
      · refine E_im1 (pc := 30) dX12_ever_30 ?_
        exact E_ireturn (pc := 31) rfl rfl dX12_ever_31 (QI_of h)
noncomputable def f_X12_howLong (x1 : Int32) (x2 : Int32) (x3 : Int32) (σ : ST) : Option (Int32 × ST) :=
    bd2 (f_X12_isThing x1 σ) fun v2 s1 =>
    if v2 = 0 then
    (some ((-1), s1))
    else (bd2 (f_X12_areHours x2 x3 s1) fun v4 s3 =>
    if v4 = 0 then
    (some ((-1), s3))
    else (bd2 (f_X12_all s3) fun v6 s5 =>
    bd2 (f_X12_solve v6 (-1) (-1) s5) fun v8 s7 =>
    if v8 = 0 then
    (some ((-1), s7))
    else (bd2 (f_X12_often x1 (-1) x2 x3 s7) fun v10 s9 =>
    some (v10, s9))))
theorem e_X12_howLong {G : GP} {x1 : Int32} {x2 : Int32} {x3 : Int32} {σ : ST} {v : Int32} {s : ST}  (h : f_X12_howLong x1 x2 x3 σ = some (v, s)) : E G mX12_howLong (3, 89) 0 [.ref 247, .int x1, .int x2, .int x3] [] (mem σ) (QI v s) := by
  unfold f_X12_howLong at h
  refine E_aload_n (pc := 0) rfl dX12_howLong_0 ?_
  refine E_iload_n (pc := 1) rfl dX12_howLong_1 ?_
  obtain ⟨v2, s1, hp, h⟩ := bd2_some h
  refine E_callV (pc := 2) (As := [_]) (fc := (0, 0)) s12_191_12 oX12_isThing dX12_howLong_2 (mem_ob (ent_st MO247)) rfl rfl (Nat.le_of_ble_eq_true rfl) rfl rfl (by decide) (e_X12_isThing hp) (fun rv_ M_ hq_ => ?_)
  obtain ⟨rfl, rfl⟩ := hq_
  refine T_if_eq (pc := 5) 30 dX12_howLong_5 (by decide) h (fun h => ?_) (fun h => ?_)
  · refine E_im1 (pc := 30) dX12_howLong_30 ?_
    exact E_ireturn (pc := 31) rfl rfl dX12_howLong_31 (QI_of h)
  · refine E_aload_n (pc := 8) rfl dX12_howLong_8 ?_
    refine E_iload_n (pc := 9) rfl dX12_howLong_9 ?_
    refine E_iload_n (pc := 10) rfl dX12_howLong_10 ?_
    obtain ⟨v4, s3, hp, h⟩ := bd2_some h
    refine E_callV (pc := 11) (As := [_, _]) (fc := (1, 21)) s12_230_12 oX12_areHours dX12_howLong_11 (mem_ob (ent_st MO247)) rfl rfl (Nat.le_of_ble_eq_true rfl) rfl rfl (by decide) (e_X12_areHours hp) (fun rv_ M_ hq_ => ?_)
    obtain ⟨rfl, rfl⟩ := hq_
    refine T_if_eq (pc := 14) 30 dX12_howLong_14 (by decide) h (fun h => ?_) (fun h => ?_)
    · refine E_im1 (pc := 30) dX12_howLong_30 ?_
      exact E_ireturn (pc := 31) rfl rfl dX12_howLong_31 (QI_of h)
    · refine E_aload_n (pc := 17) rfl dX12_howLong_17 ?_
      refine E_aload_n (pc := 18) rfl dX12_howLong_18 ?_
      obtain ⟨v6, s5, hp, h⟩ := bd2_some h
      refine E_callV (pc := 19) (As := []) (fc := (0, 0)) s12_286_12 oX12_all dX12_howLong_19 (mem_ob (ent_st MO247)) rfl rfl (Nat.le_of_ble_eq_true rfl) rfl rfl (by decide) (e_X12_all hp) (fun rv_ M_ hq_ => ?_)
      obtain ⟨rfl, rfl⟩ := hq_
      refine E_im1 (pc := 22) dX12_howLong_22 ?_
      refine E_im1 (pc := 23) dX12_howLong_23 ?_
      obtain ⟨v8, s7, hp, h⟩ := bd2_some h
      refine E_callV (pc := 24) (As := [_, _, _]) (fc := (2, 61)) s12_289_12 oX12_solve dX12_howLong_24 (mem_ob (ent_st MO247)) rfl rfl (Nat.le_of_ble_eq_true rfl) rfl rfl (by decide) (e_X12_solve hp) (fun rv_ M_ hq_ => ?_)
      obtain ⟨rfl, rfl⟩ := hq_
      refine T_if_ne (pc := 27) 32 dX12_howLong_27 (by decide) h (fun h => ?_) (fun h => ?_)
      · refine E_aload_n (pc := 32) rfl dX12_howLong_32 ?_
        refine E_iload_n (pc := 33) rfl dX12_howLong_33 ?_
        refine E_im1 (pc := 34) dX12_howLong_34 ?_
        refine E_iload_n (pc := 35) rfl dX12_howLong_35 ?_
        refine E_iload_n (pc := 36) rfl dX12_howLong_36 ?_
        obtain ⟨v10, s9, hp, h⟩ := bd2_some h
        refine E_callV (pc := 37) (As := [_, _, _, _]) (fc := (1, 28)) s12_313_12 oX12_often dX12_howLong_37 (mem_ob (ent_st MO247)) rfl rfl (Nat.le_of_ble_eq_true rfl) rfl rfl (by decide) (e_X12_often hp) (fun rv_ M_ hq_ => ?_)
        obtain ⟨rfl, rfl⟩ := hq_
        exact E_ireturn (pc := 40) rfl rfl dX12_howLong_40 (QI_of h)
      · refine E_im1 (pc := 30) dX12_howLong_30 ?_
        exact E_ireturn (pc := 31) rfl rfl dX12_howLong_31 (QI_of h)
noncomputable def f_X12_since_14 : Nat → Int32 → Int32 → ST → Option (Int32 × ST)
  | 0, _, _, _ => none
  | n + 1, x1, x3, sg =>
    if 0 < x3 then
    (bd2 (f_X12_isOf x1 (x3 - (nI 1)) sg) fun v4 s3 =>
    if v4 = (nI 1) then
    ((f_X12_since_14 n) x1 (x3 + (-1)) s3)
    else (some (x3, s3)))
    else (some (x3, sg))
theorem e_X12_since_14 {G : GP} {v : Int32} {s : ST}  : ∀ (n : Nat) {x1 : Int32} {x3 : Int32} {sg : ST}, f_X12_since_14 n x1 x3 sg = some (v, s) → E G mX12_since (4, 111) 14 [.ref 247, .int x1, D0, .int x3] [] (mem sg) (QI v s) := by
  intro n
  induction n with
  | zero => intro _ _ _ h; rw [f_X12_since_14] at h; cases h
  | succ n ih =>
    intro x1 x3 sg h
    rw [f_X12_since_14] at h
    refine E_iload_n (pc := 14) rfl dX12_since_14 ?_
    refine T_if_le (pc := 15) 36 dX12_since_15 (by decide) h (fun h => ?_) (fun h => ?_)
    · refine E_iload_n (pc := 36) rfl dX12_since_36 ?_
      exact E_ireturn (pc := 37) rfl rfl dX12_since_37 (QI_of h)
    · refine E_aload_n (pc := 18) rfl dX12_since_18 ?_
      refine E_iload_n (pc := 19) rfl dX12_since_19 ?_
      refine E_iload_n (pc := 20) rfl dX12_since_20 ?_
      refine E_iconst (pc := 21) 1 rfl dX12_since_21 ?_
      refine E_isub (pc := 22) dX12_since_22 ?_
      obtain ⟨v4, s3, hp, h⟩ := bd2_some h
      refine E_callV (pc := 23) (As := [_, _]) (fc := (2, 53)) s12_304_12 oX12_isOf dX12_since_23 (mem_ob (ent_st MO247)) rfl rfl (Nat.le_of_ble_eq_true rfl) rfl rfl (by decide) (e_X12_isOf hp) (fun rv_ M_ hq_ => ?_)
      obtain ⟨rfl, rfl⟩ := hq_
      refine E_iconst (pc := 26) 1 rfl dX12_since_26 ?_
      refine T_icmp_ne (pc := 27) 36 dX12_since_27 (by decide) h (fun h => ?_) (fun h => ?_)
      · refine E_iload_n (pc := 36) rfl dX12_since_36 ?_
        exact E_ireturn (pc := 37) rfl rfl dX12_since_37 (QI_of h)
      · refine T_idec (pc := 30) (L2 := [_, _, _, _]) rfl rfl rfl dX12_since_30 ?_
        refine E_goto (pc := 33) 14 (by decide) dX12_since_33 ?_
        exact ih h
noncomputable def f_X12_since (x1 : Int32) (x2 : Int32) (σ : ST) : Option (Int32 × ST) :=
    bd2 (f_X12_is x1 x2 σ) fun v2 s1 =>
    if v2 = (nI 1) then
    (f_X12_since_14 FU x1 x2 s1)
    else (some ((-1), s1))
theorem e_X12_since {G : GP} {x1 : Int32} {x2 : Int32} {σ : ST} {v : Int32} {s : ST}  (h : f_X12_since x1 x2 σ = some (v, s)) : E G mX12_since (4, 111) 0 [.ref 247, .int x1, .int x2, D0] [] (mem σ) (QI v s) := by
  unfold f_X12_since at h
  refine E_aload_n (pc := 0) rfl dX12_since_0 ?_
  refine E_iload_n (pc := 1) rfl dX12_since_1 ?_
  refine E_iload_n (pc := 2) rfl dX12_since_2 ?_
  obtain ⟨v2, s1, hp, h⟩ := bd2_some h
  refine E_callV (pc := 3) (As := [_, _]) (fc := (3, 89)) s12_310_12 oX12_is dX12_since_3 (mem_ob (ent_st MO247)) rfl rfl (Nat.le_of_ble_eq_true rfl) rfl rfl (by decide) (e_X12_is hp) (fun rv_ M_ hq_ => ?_)
  obtain ⟨rfl, rfl⟩ := hq_
  refine E_iconst (pc := 6) 1 rfl dX12_since_6 ?_
  refine T_icmp_eq (pc := 7) 12 dX12_since_7 (by decide) h (fun h => ?_) (fun h => ?_)
  · refine E_iload_n (pc := 12) rfl dX12_since_12 ?_
    refine E_istore_n (pc := 13) (L2 := [_, _, _, _]) rfl rfl dX12_since_13 ?_
    refine E_kp [true, true, false, true] (L2 := [_, _, D0, _]) rfl rfl ?_
    refine e_X12_since_14  FU h
  · refine E_im1 (pc := 10) dX12_since_10 ?_
    exact E_ireturn (pc := 11) rfl rfl dX12_since_11 (QI_of h)
noncomputable def f_X12_surelyMay_42 (k83 : Int32 → Int32 → Int32 → ST → Option (Int32 × ST)) : Nat → Int32 → Int32 → Int32 → Int32 → ST → Option (Int32 × ST)
  | 0, _, _, _, _, _ => none
  | n + 1, x1, x2, x3, x4, sg =>
    if x4 < (sg.1 247 40) then
    (bd2 (f_X12_isLeast x1 x3 x4 sg) fun v4 s3 =>
    if v4 = 0 then
    ((f_X12_surelyMay_42 k83 n) x1 x2 x3 (x4 + nI 1) s3)
    else ((rdI s3 278 28 x4).bind fun v5 =>
    (rdI s3 268 1024 v5).bind fun v6 =>
    (f_X12_surelyMay_42 k83 n) x1 (x2 &&& v6) x3 (x4 + nI 1) s3))
    else (k83 x1 x2 x3 sg)
theorem e_X12_surelyMay_42 {G : GP} {k83 : Int32 → Int32 → Int32 → ST → Option (Int32 × ST)} {v : Int32} {s : ST} (hk83 : ∀ {x1 : Int32} {x2 : Int32} {x3 : Int32} {sg : ST}, k83 x1 x2 x3 sg = some (v, s) → E G mX12_surelyMay (1, 28) 83 [.ref 247, .int x1, .int x2, .int x3, D0] [] (mem sg) (QI v s)) : ∀ (n : Nat) {x1 : Int32} {x2 : Int32} {x3 : Int32} {x4 : Int32} {sg : ST}, f_X12_surelyMay_42 k83 n x1 x2 x3 x4 sg = some (v, s) → E G mX12_surelyMay (1, 28) 42 [.ref 247, .int x1, .int x2, .int x3, .int x4] [] (mem sg) (QI v s) := by
  intro n
  induction n with
  | zero => intro _ _ _ _ _ h; rw [f_X12_surelyMay_42] at h; cases h
  | succ n ih =>
    intro x1 x2 x3 x4 sg h
    rw [f_X12_surelyMay_42] at h
    refine E_iload (pc := 42) rfl dX12_surelyMay_42 ?_
    refine E_aload_n (pc := 44) rfl dX12_surelyMay_44 ?_
    refine R_getI (pc := 45) f12_264 dX12_surelyMay_45 (ent_st MO247) (by decide) rfl ?_
    refine T_icmp_ge (pc := 48) 83 dX12_surelyMay_48 (by decide) h (fun h => ?_) (fun h => ?_)
    · refine E_kp [true, true, true, true, false] (L2 := [_, _, _, _, D0]) rfl rfl ?_
      exact hk83 h
    · refine E_aload_n (pc := 51) rfl dX12_surelyMay_51 ?_
      refine E_iload_n (pc := 52) rfl dX12_surelyMay_52 ?_
      refine E_iload_n (pc := 53) rfl dX12_surelyMay_53 ?_
      refine E_iload (pc := 54) rfl dX12_surelyMay_54 ?_
      obtain ⟨v4, s3, hp, h⟩ := bd2_some h
      refine E_callV (pc := 56) (As := [_, _, _]) (fc := (0, 0)) s12_295_12 oX12_isLeast dX12_surelyMay_56 (mem_ob (ent_st MO247)) rfl rfl (Nat.le_of_ble_eq_true rfl) rfl rfl (by decide) (e_X12_isLeast hp) (fun rv_ M_ hq_ => ?_)
      obtain ⟨rfl, rfl⟩ := hq_
      refine T_if_eq (pc := 59) 77 dX12_surelyMay_59 (by decide) h (fun h => ?_) (fun h => ?_)
      · refine T_iinc (pc := 77) (m := 1) (L2 := [_, _, _, _, _]) rfl rfl rfl rfl dX12_surelyMay_77 ?_
        refine E_goto (pc := 80) 42 (by decide) dX12_surelyMay_80 ?_
        exact ih h
      · refine E_iload_n (pc := 62) rfl dX12_surelyMay_62 ?_
        refine E_aload_n (pc := 63) rfl dX12_surelyMay_63 ?_
        refine R_getR (pc := 64) (b := 268) f12_75 dX12_surelyMay_64 (ent_st MO247) (by decide) rfl rfl ?_
        refine E_aload_n (pc := 67) rfl dX12_surelyMay_67 ?_
        refine R_getR (pc := 68) (b := 278) f12_105 dX12_surelyMay_68 (ent_st MO247) (by decide) rfl rfl ?_
        refine E_iload (pc := 71) rfl dX12_surelyMay_71 ?_
        refine T_iald (pc := 73) dX12_surelyMay_73 (ent_st MA278) (by decide) h (fun v5 h => ?_)
        refine T_iald (pc := 74) dX12_surelyMay_74 (ent_st MA268) (by decide) h (fun v6 h => ?_)
        refine E_iand (pc := 75) dX12_surelyMay_75 ?_
        refine E_istore_n (pc := 76) (L2 := [_, _, _, _, _]) rfl rfl dX12_surelyMay_76 ?_
        refine T_iinc (pc := 77) (m := 1) (L2 := [_, _, _, _, _]) rfl rfl rfl rfl dX12_surelyMay_77 ?_
        refine E_goto (pc := 80) 42 (by decide) dX12_surelyMay_80 ?_
        exact ih h
noncomputable def f_X12_surelyMay_5 (k89 : Int32 → Int32 → ST → Option (Int32 × ST)) : Nat → Int32 → Int32 → Int32 → ST → Option (Int32 × ST)
  | 0, _, _, _, _ => none
  | n + 1, x1, x2, x3, sg =>
    if x3 < (nI 1024) then
    ((rdI sg 276 13312 (((nI 1024) * x1) + x3)).bind fun v1 =>
    if v1 = (nI 100000000) then
    ((f_X12_surelyMay_5 k89 n) x1 x2 (x3 + nI 1) sg)
    else ((f_X12_edgesOf x1 x3 sg).bind fun s2 =>
    f_X12_surelyMay_42 (fun x1_7 x2_8 x3_9 s10 =>
    (f_X12_surelyMay_5 k89 n) x1_7 x2_8 (x3_9 + nI 1) s10) FU x1 x2 x3 (nI 0) s2))
    else (k89 x1 x2 sg)
theorem e_X12_surelyMay_5 {G : GP} {k89 : Int32 → Int32 → ST → Option (Int32 × ST)} {v : Int32} {s : ST} (hk89 : ∀ {x1 : Int32} {x2 : Int32} {sg : ST}, k89 x1 x2 sg = some (v, s) → E G mX12_surelyMay (1, 28) 89 [.ref 247, .int x1, .int x2, D0, D0] [] (mem sg) (QI v s)) : ∀ (n : Nat) {x1 : Int32} {x2 : Int32} {x3 : Int32} {sg : ST}, f_X12_surelyMay_5 k89 n x1 x2 x3 sg = some (v, s) → E G mX12_surelyMay (1, 28) 5 [.ref 247, .int x1, .int x2, .int x3, D0] [] (mem sg) (QI v s) := by
  intro n
  induction n with
  | zero => intro _ _ _ _ h; rw [f_X12_surelyMay_5] at h; cases h
  | succ n ih =>
    intro x1 x2 x3 sg h
    rw [f_X12_surelyMay_5] at h
    refine E_iload_n (pc := 5) rfl dX12_surelyMay_5 ?_
    refine E_sipush (pc := 6) (nI 1024) (by decide) dX12_surelyMay_6 ?_
    refine T_icmp_ge (pc := 9) 89 dX12_surelyMay_9 (by decide) h (fun h => ?_) (fun h => ?_)
    · refine E_kp [true, true, true, false, false] (L2 := [_, _, _, D0, D0]) rfl rfl ?_
      exact hk89 h
    · refine E_aload_n (pc := 12) rfl dX12_surelyMay_12 ?_
      refine R_getR (pc := 13) (b := 276) f12_99 dX12_surelyMay_13 (ent_st MO247) (by decide) rfl rfl ?_
      refine E_sipush (pc := 16) (nI 1024) (by decide) dX12_surelyMay_16 ?_
      refine E_iload_n (pc := 19) rfl dX12_surelyMay_19 ?_
      refine E_imul (pc := 20) dX12_surelyMay_20 ?_
      refine E_iload_n (pc := 21) rfl dX12_surelyMay_21 ?_
      refine E_iadd (pc := 22) dX12_surelyMay_22 ?_
      refine T_iald (pc := 23) dX12_surelyMay_23 (ent_st MA276) (by decide) h (fun v1 h => ?_)
      refine E_ldcw (pc := 24) (v := nI 100000000) q12_274 dX12_surelyMay_24 ?_
      refine T_icmp_ne (pc := 27) 33 dX12_surelyMay_27 (by decide) h (fun h => ?_) (fun h => ?_)
      · refine E_aload_n (pc := 33) rfl dX12_surelyMay_33 ?_
        refine E_iload_n (pc := 34) rfl dX12_surelyMay_34 ?_
        refine E_iload_n (pc := 35) rfl dX12_surelyMay_35 ?_
        obtain ⟨s2, hp, h⟩ := bd_some h
        refine E_callV (pc := 36) (As := [_, _]) (fc := (0, 0)) s12_275_12 oX12_edgesOf dX12_surelyMay_36 (mem_ob (ent_st MO247)) rfl rfl (Nat.le_of_ble_eq_true rfl) rfl rfl (by decide) (e_X12_edgesOf hp) (fun rv_ M_ hq_ => ?_)
        obtain ⟨rfl, rfl⟩ := hq_
        refine E_iconst (pc := 39) 0 rfl dX12_surelyMay_39 ?_
        refine E_istore (pc := 40) (L2 := [_, _, _, _, _]) rfl rfl dX12_surelyMay_40 ?_
        refine e_X12_surelyMay_42 ?_ FU h
        · intro x1_7 x2_8 x3_9 s10 h
          refine T_iinc (pc := 83) (m := 1) (L2 := [_, _, _, _, _]) rfl rfl rfl rfl dX12_surelyMay_83 ?_
          refine E_goto (pc := 86) 5 (by decide) dX12_surelyMay_86 ?_
          exact ih h
      · refine E_goto (pc := 30) 83 (by decide) dX12_surelyMay_30 ?_
        refine T_iinc (pc := 83) (m := 1) (L2 := [_, _, _, _, _]) rfl rfl rfl rfl dX12_surelyMay_83 ?_
        refine E_goto (pc := 86) 5 (by decide) dX12_surelyMay_86 ?_
        exact ih h
noncomputable def f_X12_surelyMay (x1 : Int32) (σ : ST) : Option (Int32 × ST) :=
    f_X12_surelyMay_5 (fun x1_11 x2_12 s13 =>
    (rdI s13 270 12 x1_11).bind fun v14 =>
    if v14 < 0 then
    (some (x2_12, s13))
    else (some ((nI 64), s13))) FU x1 (nI 63) (nI 0) σ
theorem e_X12_surelyMay {G : GP} {x1 : Int32} {σ : ST} {v : Int32} {s : ST}  (h : f_X12_surelyMay x1 σ = some (v, s)) : E G mX12_surelyMay (1, 28) 0 [.ref 247, .int x1, D0, D0, D0] [] (mem σ) (QI v s) := by
  unfold f_X12_surelyMay at h
  refine E_bipush (pc := 0) (nI 63) (by decide) dX12_surelyMay_0 ?_
  refine E_istore_n (pc := 2) (L2 := [_, _, _, _, _]) rfl rfl dX12_surelyMay_2 ?_
  refine E_iconst (pc := 3) 0 rfl dX12_surelyMay_3 ?_
  refine E_istore_n (pc := 4) (L2 := [_, _, _, _, _]) rfl rfl dX12_surelyMay_4 ?_
  refine e_X12_surelyMay_5 ?_ FU h
  · intro x1_11 x2_12 s13 h
    refine E_aload_n (pc := 89) rfl dX12_surelyMay_89 ?_
    refine R_getR (pc := 90) (b := 270) f12_81 dX12_surelyMay_90 (ent_st MO247) (by decide) rfl rfl ?_
    refine E_iload_n (pc := 93) rfl dX12_surelyMay_93 ?_
    refine T_iald (pc := 94) dX12_surelyMay_94 (ent_st MA270) (by decide) h (fun v14 h => ?_)
    refine T_if_lt (pc := 95) 103 dX12_surelyMay_95 (by decide) h (fun h => ?_) (fun h => ?_)
    · refine E_iload_n (pc := 103) rfl dX12_surelyMay_103 ?_
      exact E_ireturn (pc := 104) rfl rfl dX12_surelyMay_104 (QI_of h)
    · refine E_bipush (pc := 98) (nI 64) (by decide) dX12_surelyMay_98 ?_
      refine E_goto (pc := 100) 104 (by decide) dX12_surelyMay_100 ?_
      exact E_ireturn (pc := 104) rfl rfl dX12_surelyMay_104 (QI_of h)
noncomputable def f_X12_plan_47 (k72 : Int32 → Int32 → Int32 → ST → Option (Int32 × ST)) : Nat → Int32 → Int32 → Int32 → Int32 → ST → Option (Int32 × ST)
  | 0, _, _, _, _, _ => none
  | n + 1, x1, x2, x3, x4, sg =>
    if x4 < x3 then
    (bd2 (f_X12_surelyMay x4 sg) fun v12 s11 =>
    (wrI s11 295 12 x4 v12).bind fun s13 =>
    (f_X12_plan_47 k72 n) x1 x2 x3 (x4 + nI 1) s13)
    else (k72 x1 x2 x3 sg)
theorem e_X12_plan_47 {G : GP} {k72 : Int32 → Int32 → Int32 → ST → Option (Int32 × ST)} {v : Int32} {s : ST} (hk72 : ∀ {x1 : Int32} {x2 : Int32} {x3 : Int32} {sg : ST}, k72 x1 x2 x3 sg = some (v, s) → E G mX12_plan (3, 89) 72 [.ref 247, .int x1, .int x2, .int x3, D0, D0] [] (mem sg) (QI v s)) : ∀ (n : Nat) {x1 : Int32} {x2 : Int32} {x3 : Int32} {x4 : Int32} {sg : ST}, f_X12_plan_47 k72 n x1 x2 x3 x4 sg = some (v, s) → E G mX12_plan (3, 89) 47 [.ref 247, .int x1, .int x2, .int x3, .int x4, D0] [] (mem sg) (QI v s) := by
  intro n
  induction n with
  | zero => intro _ _ _ _ _ h; rw [f_X12_plan_47] at h; cases h
  | succ n ih =>
    intro x1 x2 x3 x4 sg h
    rw [f_X12_plan_47] at h
    refine E_iload (pc := 47) rfl dX12_plan_47 ?_
    refine E_iload_n (pc := 49) rfl dX12_plan_49 ?_
    refine T_icmp_ge (pc := 50) 72 dX12_plan_50 (by decide) h (fun h => ?_) (fun h => ?_)
    · refine E_kp [true, true, true, true, false, false] (L2 := [_, _, _, _, D0, D0]) rfl rfl ?_
      exact hk72 h
    · refine E_aload_n (pc := 53) rfl dX12_plan_53 ?_
      refine R_getR (pc := 54) (b := 295) f12_156 dX12_plan_54 (ent_st MO247) (by decide) rfl rfl ?_
      refine E_iload (pc := 57) rfl dX12_plan_57 ?_
      refine E_aload_n (pc := 59) rfl dX12_plan_59 ?_
      refine E_iload (pc := 60) rfl dX12_plan_60 ?_
      obtain ⟨v12, s11, hp, h⟩ := bd2_some h
      refine E_callV (pc := 62) (As := [_]) (fc := (1, 28)) s12_320_12 oX12_surelyMay dX12_plan_62 (mem_ob (ent_st MO247)) rfl rfl (Nat.le_of_ble_eq_true rfl) rfl rfl (by decide) (e_X12_surelyMay hp) (fun rv_ M_ hq_ => ?_)
      obtain ⟨rfl, rfl⟩ := hq_
      refine T_iast (pc := 65) dX12_plan_65 (ent_st MA295) (by decide) h (fun s13 h => ?_)
      refine T_iinc (pc := 66) (m := 1) (L2 := [_, _, _, _, _, _]) rfl rfl rfl rfl dX12_plan_66 ?_
      refine E_goto (pc := 69) 47 (by decide) dX12_plan_69 ?_
      exact ih h
noncomputable def f_X12_plan_84 (k151 : Int32 → Int32 → Int32 → ST → Option (Int32 × ST)) : Nat → Int32 → Int32 → Int32 → Int32 → ST → Option (Int32 × ST)
  | 0, _, _, _, _, _ => none
  | n + 1, x1, x3, x4, x5, sg =>
    if x5 < (sg.1 247 4) then
    ((rdI sg 295 12 x4).bind fun v18 =>
    if ((v18 >>> (x5 &&& 31)) &&& (nI 1)) = 0 then
    ((f_X12_plan_84 k151 n) x1 x3 x4 (x5 + nI 1) sg)
    else (bd2 (f_X12_all sg) fun v20 s19 =>
    bd2 (f_X12_solve v20 x4 x5 s19) fun v22 s21 =>
    if v22 = 0 then
    ((f_X12_plan_84 k151 n) x1 x3 x4 (x5 + nI 1) s21)
    else (bd2 (f_X12_isOf x1 x3 s21) fun v24 s23 =>
    if v24 = (nI 1) then
    (some ((((nI 10) * x4) + x5), s23))
    else ((f_X12_plan_84 k151 n) x1 x3 x4 (x5 + nI 1) s23))))
    else (k151 x1 x3 x4 sg)
theorem e_X12_plan_84 {G : GP} {k151 : Int32 → Int32 → Int32 → ST → Option (Int32 × ST)} {v : Int32} {s : ST} (hk151 : ∀ {x1 : Int32} {x3 : Int32} {x4 : Int32} {sg : ST}, k151 x1 x3 x4 sg = some (v, s) → E G mX12_plan (3, 89) 151 [.ref 247, .int x1, D0, .int x3, .int x4, D0] [] (mem sg) (QI v s)) : ∀ (n : Nat) {x1 : Int32} {x3 : Int32} {x4 : Int32} {x5 : Int32} {sg : ST}, f_X12_plan_84 k151 n x1 x3 x4 x5 sg = some (v, s) → E G mX12_plan (3, 89) 84 [.ref 247, .int x1, D0, .int x3, .int x4, .int x5] [] (mem sg) (QI v s) := by
  intro n
  induction n with
  | zero => intro _ _ _ _ _ h; rw [f_X12_plan_84] at h; cases h
  | succ n ih =>
    intro x1 x3 x4 x5 sg h
    rw [f_X12_plan_84] at h
    refine E_iload (pc := 84) rfl dX12_plan_84 ?_
    refine E_aload_n (pc := 86) rfl dX12_plan_86 ?_
    refine R_getI (pc := 87) f12_162 dX12_plan_87 (ent_st MO247) (by decide) rfl ?_
    refine T_icmp_ge (pc := 90) 151 dX12_plan_90 (by decide) h (fun h => ?_) (fun h => ?_)
    · refine E_kp [true, true, false, true, true, false] (L2 := [_, _, D0, _, _, D0]) rfl rfl ?_
      exact hk151 h
    · refine E_aload_n (pc := 93) rfl dX12_plan_93 ?_
      refine R_getR (pc := 94) (b := 295) f12_156 dX12_plan_94 (ent_st MO247) (by decide) rfl rfl ?_
      refine E_iload (pc := 97) rfl dX12_plan_97 ?_
      refine T_iald (pc := 99) dX12_plan_99 (ent_st MA295) (by decide) h (fun v18 h => ?_)
      refine E_iload (pc := 100) rfl dX12_plan_100 ?_
      refine E_ishr (pc := 102) dX12_plan_102 ?_
      refine E_iconst (pc := 103) 1 rfl dX12_plan_103 ?_
      refine E_iand (pc := 104) dX12_plan_104 ?_
      refine T_if_ne (pc := 105) 111 dX12_plan_105 (by decide) h (fun h => ?_) (fun h => ?_)
      · refine E_aload_n (pc := 111) rfl dX12_plan_111 ?_
        refine E_aload_n (pc := 112) rfl dX12_plan_112 ?_
        obtain ⟨v20, s19, hp, h⟩ := bd2_some h
        refine E_callV (pc := 113) (As := []) (fc := (0, 0)) s12_286_12 oX12_all dX12_plan_113 (mem_ob (ent_st MO247)) rfl rfl (Nat.le_of_ble_eq_true rfl) rfl rfl (by decide) (e_X12_all hp) (fun rv_ M_ hq_ => ?_)
        obtain ⟨rfl, rfl⟩ := hq_
        refine E_iload (pc := 116) rfl dX12_plan_116 ?_
        refine E_iload (pc := 118) rfl dX12_plan_118 ?_
        obtain ⟨v22, s21, hp, h⟩ := bd2_some h
        refine E_callV (pc := 120) (As := [_, _, _]) (fc := (2, 61)) s12_289_12 oX12_solve dX12_plan_120 (mem_ob (ent_st MO247)) rfl rfl (Nat.le_of_ble_eq_true rfl) rfl rfl (by decide) (e_X12_solve hp) (fun rv_ M_ hq_ => ?_)
        obtain ⟨rfl, rfl⟩ := hq_
        refine T_if_eq (pc := 123) 145 dX12_plan_123 (by decide) h (fun h => ?_) (fun h => ?_)
        · refine T_iinc (pc := 145) (m := 1) (L2 := [_, _, _, _, _, _]) rfl rfl rfl rfl dX12_plan_145 ?_
          refine E_goto (pc := 148) 84 (by decide) dX12_plan_148 ?_
          exact ih h
        · refine E_aload_n (pc := 126) rfl dX12_plan_126 ?_
          refine E_iload_n (pc := 127) rfl dX12_plan_127 ?_
          refine E_iload_n (pc := 128) rfl dX12_plan_128 ?_
          obtain ⟨v24, s23, hp, h⟩ := bd2_some h
          refine E_callV (pc := 129) (As := [_, _]) (fc := (2, 53)) s12_304_12 oX12_isOf dX12_plan_129 (mem_ob (ent_st MO247)) rfl rfl (Nat.le_of_ble_eq_true rfl) rfl rfl (by decide) (e_X12_isOf hp) (fun rv_ M_ hq_ => ?_)
          obtain ⟨rfl, rfl⟩ := hq_
          refine E_iconst (pc := 132) 1 rfl dX12_plan_132 ?_
          refine T_icmp_ne (pc := 133) 145 dX12_plan_133 (by decide) h (fun h => ?_) (fun h => ?_)
          · refine T_iinc (pc := 145) (m := 1) (L2 := [_, _, _, _, _, _]) rfl rfl rfl rfl dX12_plan_145 ?_
            refine E_goto (pc := 148) 84 (by decide) dX12_plan_148 ?_
            exact ih h
          · refine E_bipush (pc := 136) (nI 10) (by decide) dX12_plan_136 ?_
            refine E_iload (pc := 138) rfl dX12_plan_138 ?_
            refine E_imul (pc := 140) dX12_plan_140 ?_
            refine E_iload (pc := 141) rfl dX12_plan_141 ?_
            refine E_iadd (pc := 143) dX12_plan_143 ?_
            exact E_ireturn (pc := 144) rfl rfl dX12_plan_144 (QI_of h)
      · refine E_goto (pc := 108) 145 (by decide) dX12_plan_108 ?_
        refine T_iinc (pc := 145) (m := 1) (L2 := [_, _, _, _, _, _]) rfl rfl rfl rfl dX12_plan_145 ?_
        refine E_goto (pc := 148) 84 (by decide) dX12_plan_148 ?_
        exact ih h
noncomputable def f_X12_plan_75 : Nat → Int32 → Int32 → Int32 → ST → Option (Int32 × ST)
  | 0, _, _, _, _ => none
  | n + 1, x1, x3, x4, sg =>
    if x4 < x3 then
    (f_X12_plan_84 (fun x1_25 x3_26 x4_27 s28 =>
    (f_X12_plan_75 n) x1_25 x3_26 (x4_27 + nI 1) s28) FU x1 x3 x4 (nI 0) sg)
    else (some ((-1), sg))
theorem e_X12_plan_75 {G : GP} {v : Int32} {s : ST}  : ∀ (n : Nat) {x1 : Int32} {x3 : Int32} {x4 : Int32} {sg : ST}, f_X12_plan_75 n x1 x3 x4 sg = some (v, s) → E G mX12_plan (3, 89) 75 [.ref 247, .int x1, D0, .int x3, .int x4, D0] [] (mem sg) (QI v s) := by
  intro n
  induction n with
  | zero => intro _ _ _ _ h; rw [f_X12_plan_75] at h; cases h
  | succ n ih =>
    intro x1 x3 x4 sg h
    rw [f_X12_plan_75] at h
    refine E_iload (pc := 75) rfl dX12_plan_75 ?_
    refine E_iload_n (pc := 77) rfl dX12_plan_77 ?_
    refine T_icmp_ge (pc := 78) 157 dX12_plan_78 (by decide) h (fun h => ?_) (fun h => ?_)
    · refine E_im1 (pc := 157) dX12_plan_157 ?_
      exact E_ireturn (pc := 158) rfl rfl dX12_plan_158 (QI_of h)
    · refine E_iconst (pc := 81) 0 rfl dX12_plan_81 ?_
      refine E_istore (pc := 82) (L2 := [_, _, _, _, _, _]) rfl rfl dX12_plan_82 ?_
      refine e_X12_plan_84 ?_ FU h
      · intro x1_25 x3_26 x4_27 s28 h
        refine T_iinc (pc := 151) (m := 1) (L2 := [_, _, _, _, _, _]) rfl rfl rfl rfl dX12_plan_151 ?_
        refine E_goto (pc := 154) 75 (by decide) dX12_plan_154 ?_
        exact ih h
noncomputable def f_X12_plan (x1 : Int32) (x2 : Int32) (x3 : Int32) (σ : ST) : Option (Int32 × ST) :=
    bd2 (f_X12_isThing x1 σ) fun v2 s1 =>
    if v2 = 0 then
    (some ((-1), s1))
    else (bd2 (f_X12_isHour x2 s1) fun v4 s3 =>
    if v4 = 0 then
    (some ((-1), s3))
    else (bd2 (f_X12_isHour x3 s3) fun v6 s5 =>
    if v6 = 0 then
    (some ((-1), s5))
    else (if x2 < x3 then
    (bd2 (f_X12_all s5) fun v8 s7 =>
    bd2 (f_X12_solve v8 (-1) (-1) s7) fun v10 s9 =>
    if v10 = 0 then
    (some ((-1), s9))
    else (f_X12_plan_47 (fun x1_14 x2_15 x3_16 s17 =>
    f_X12_plan_75 FU x1_14 x3_16 x2_15 s17) FU x1 x2 x3 x2 s9))
    else (some ((-1), s5)))))
theorem e_X12_plan {G : GP} {x1 : Int32} {x2 : Int32} {x3 : Int32} {σ : ST} {v : Int32} {s : ST}  (h : f_X12_plan x1 x2 x3 σ = some (v, s)) : E G mX12_plan (3, 89) 0 [.ref 247, .int x1, .int x2, .int x3, D0, D0] [] (mem σ) (QI v s) := by
  unfold f_X12_plan at h
  refine E_aload_n (pc := 0) rfl dX12_plan_0 ?_
  refine E_iload_n (pc := 1) rfl dX12_plan_1 ?_
  obtain ⟨v2, s1, hp, h⟩ := bd2_some h
  refine E_callV (pc := 2) (As := [_]) (fc := (0, 0)) s12_191_12 oX12_isThing dX12_plan_2 (mem_ob (ent_st MO247)) rfl rfl (Nat.le_of_ble_eq_true rfl) rfl rfl (by decide) (e_X12_isThing hp) (fun rv_ M_ hq_ => ?_)
  obtain ⟨rfl, rfl⟩ := hq_
  refine T_if_eq (pc := 5) 42 dX12_plan_5 (by decide) h (fun h => ?_) (fun h => ?_)
  · refine E_im1 (pc := 42) dX12_plan_42 ?_
    exact E_ireturn (pc := 43) rfl rfl dX12_plan_43 (QI_of h)
  · refine E_aload_n (pc := 8) rfl dX12_plan_8 ?_
    refine E_iload_n (pc := 9) rfl dX12_plan_9 ?_
    obtain ⟨v4, s3, hp, h⟩ := bd2_some h
    refine E_callV (pc := 10) (As := [_]) (fc := (0, 0)) s12_168_12 oX12_isHour dX12_plan_10 (mem_ob (ent_st MO247)) rfl rfl (Nat.le_of_ble_eq_true rfl) rfl rfl (by decide) (e_X12_isHour hp) (fun rv_ M_ hq_ => ?_)
    obtain ⟨rfl, rfl⟩ := hq_
    refine T_if_eq (pc := 13) 42 dX12_plan_13 (by decide) h (fun h => ?_) (fun h => ?_)
    · refine E_im1 (pc := 42) dX12_plan_42 ?_
      exact E_ireturn (pc := 43) rfl rfl dX12_plan_43 (QI_of h)
    · refine E_aload_n (pc := 16) rfl dX12_plan_16 ?_
      refine E_iload_n (pc := 17) rfl dX12_plan_17 ?_
      obtain ⟨v6, s5, hp, h⟩ := bd2_some h
      refine E_callV (pc := 18) (As := [_]) (fc := (0, 0)) s12_168_12 oX12_isHour dX12_plan_18 (mem_ob (ent_st MO247)) rfl rfl (Nat.le_of_ble_eq_true rfl) rfl rfl (by decide) (e_X12_isHour hp) (fun rv_ M_ hq_ => ?_)
      obtain ⟨rfl, rfl⟩ := hq_
      refine T_if_eq (pc := 21) 42 dX12_plan_21 (by decide) h (fun h => ?_) (fun h => ?_)
      · refine E_im1 (pc := 42) dX12_plan_42 ?_
        exact E_ireturn (pc := 43) rfl rfl dX12_plan_43 (QI_of h)
      · refine E_iload_n (pc := 24) rfl dX12_plan_24 ?_
        refine E_iload_n (pc := 25) rfl dX12_plan_25 ?_
        refine T_icmp_ge (pc := 26) 42 dX12_plan_26 (by decide) h (fun h => ?_) (fun h => ?_)
        · refine E_im1 (pc := 42) dX12_plan_42 ?_
          exact E_ireturn (pc := 43) rfl rfl dX12_plan_43 (QI_of h)
        · refine E_aload_n (pc := 29) rfl dX12_plan_29 ?_
          refine E_aload_n (pc := 30) rfl dX12_plan_30 ?_
          obtain ⟨v8, s7, hp, h⟩ := bd2_some h
          refine E_callV (pc := 31) (As := []) (fc := (0, 0)) s12_286_12 oX12_all dX12_plan_31 (mem_ob (ent_st MO247)) rfl rfl (Nat.le_of_ble_eq_true rfl) rfl rfl (by decide) (e_X12_all hp) (fun rv_ M_ hq_ => ?_)
          obtain ⟨rfl, rfl⟩ := hq_
          refine E_im1 (pc := 34) dX12_plan_34 ?_
          refine E_im1 (pc := 35) dX12_plan_35 ?_
          obtain ⟨v10, s9, hp, h⟩ := bd2_some h
          refine E_callV (pc := 36) (As := [_, _, _]) (fc := (2, 61)) s12_289_12 oX12_solve dX12_plan_36 (mem_ob (ent_st MO247)) rfl rfl (Nat.le_of_ble_eq_true rfl) rfl rfl (by decide) (e_X12_solve hp) (fun rv_ M_ hq_ => ?_)
          obtain ⟨rfl, rfl⟩ := hq_
          refine T_if_ne (pc := 39) 44 dX12_plan_39 (by decide) h (fun h => ?_) (fun h => ?_)
          · refine E_iload_n (pc := 44) rfl dX12_plan_44 ?_
            refine E_istore (pc := 45) (L2 := [_, _, _, _, _, _]) rfl rfl dX12_plan_45 ?_
            refine e_X12_plan_47 ?_ FU h
            · intro x1_14 x2_15 x3_16 s17 h
              refine E_iload_n (pc := 72) rfl dX12_plan_72 ?_
              refine E_istore (pc := 73) (L2 := [_, _, _, _, _, _]) rfl rfl dX12_plan_73 ?_
              refine E_kp [true, true, false, true, true, false] (L2 := [_, _, D0, _, _, D0]) rfl rfl ?_
              refine e_X12_plan_75  FU h
          · refine E_im1 (pc := 42) dX12_plan_42 ?_
            exact E_ireturn (pc := 43) rfl rfl dX12_plan_43 (QI_of h)
noncomputable def f_X12_seemed_41 (k97 : Int32 → Int32 → Int32 → ST → Option (Int32 × ST)) : Nat → Int32 → Int32 → Int32 → Int32 → Int32 → Int32 → ST → Option (Int32 × ST)
  | 0, _, _, _, _, _, _, _ => none
  | n + 1, x1, x2, x3, x4, x5, x6, sg =>
    if x6 < (sg.1 247 9) then
    ((rdI sg 261 16 x6).bind fun v9 =>
    if v9 = 0 then
    ((rdI sg 260 16 x6).bind fun v10 =>
    if v10 = x1 then
    ((rdI sg 258 16 x6).bind fun v11 =>
    if x2 < v11 then
    ((f_X12_seemed_41 k97 n) x1 x2 x3 x4 x5 (x6 + nI 1) sg)
    else ((f_X12_seemed_41 k97 n) x1 x2 x3 x4 (x5 ||| ((nI 1) <<< (x6 &&& 31))) (x6 + nI 1) sg))
    else ((f_X12_seemed_41 k97 n) x1 x2 x3 x4 x5 (x6 + nI 1) sg))
    else ((f_X12_seemed_41 k97 n) x1 x2 x3 x4 x5 (x6 + nI 1) sg))
    else (k97 x3 x4 x5 sg)
theorem e_X12_seemed_41 {G : GP} {k97 : Int32 → Int32 → Int32 → ST → Option (Int32 × ST)} {v : Int32} {s : ST} (hk97 : ∀ {x3 : Int32} {x4 : Int32} {x5 : Int32} {sg : ST}, k97 x3 x4 x5 sg = some (v, s) → E G mX12_seemed (3, 89) 97 [.ref 247, D0, D0, .int x3, .int x4, .int x5, D0] [] (mem sg) (QI v s)) : ∀ (n : Nat) {x1 : Int32} {x2 : Int32} {x3 : Int32} {x4 : Int32} {x5 : Int32} {x6 : Int32} {sg : ST}, f_X12_seemed_41 k97 n x1 x2 x3 x4 x5 x6 sg = some (v, s) → E G mX12_seemed (3, 89) 41 [.ref 247, .int x1, .int x2, .int x3, .int x4, .int x5, .int x6] [] (mem sg) (QI v s) := by
  intro n
  induction n with
  | zero => intro _ _ _ _ _ _ _ h; rw [f_X12_seemed_41] at h; cases h
  | succ n ih =>
    intro x1 x2 x3 x4 x5 x6 sg h
    rw [f_X12_seemed_41] at h
    refine E_iload (pc := 41) rfl dX12_seemed_41 ?_
    refine E_aload_n (pc := 43) rfl dX12_seemed_43 ?_
    refine R_getI (pc := 44) f12_165 dX12_seemed_44 (ent_st MO247) (by decide) rfl ?_
    refine T_icmp_ge (pc := 47) 97 dX12_seemed_47 (by decide) h (fun h => ?_) (fun h => ?_)
    · refine E_kp [true, false, false, true, true, true, false] (L2 := [_, D0, D0, _, _, _, D0]) rfl rfl ?_
      exact hk97 h
    · refine E_aload_n (pc := 50) rfl dX12_seemed_50 ?_
      refine R_getR (pc := 51) (b := 261) f12_49 dX12_seemed_51 (ent_st MO247) (by decide) rfl rfl ?_
      refine E_iload (pc := 54) rfl dX12_seemed_54 ?_
      refine T_iald (pc := 56) dX12_seemed_56 (ent_st MA261) (by decide) h (fun v9 h => ?_)
      refine T_if_ne (pc := 57) 91 dX12_seemed_57 (by decide) h (fun h => ?_) (fun h => ?_)
      · refine T_iinc (pc := 91) (m := 1) (L2 := [_, _, _, _, _, _, _]) rfl rfl rfl rfl dX12_seemed_91 ?_
        refine E_goto (pc := 94) 41 (by decide) dX12_seemed_94 ?_
        exact ih h
      · refine E_aload_n (pc := 60) rfl dX12_seemed_60 ?_
        refine R_getR (pc := 61) (b := 260) f12_46 dX12_seemed_61 (ent_st MO247) (by decide) rfl rfl ?_
        refine E_iload (pc := 64) rfl dX12_seemed_64 ?_
        refine T_iald (pc := 66) dX12_seemed_66 (ent_st MA260) (by decide) h (fun v10 h => ?_)
        refine E_iload_n (pc := 67) rfl dX12_seemed_67 ?_
        refine T_icmp_ne (pc := 68) 91 dX12_seemed_68 (by decide) h (fun h => ?_) (fun h => ?_)
        · refine T_iinc (pc := 91) (m := 1) (L2 := [_, _, _, _, _, _, _]) rfl rfl rfl rfl dX12_seemed_91 ?_
          refine E_goto (pc := 94) 41 (by decide) dX12_seemed_94 ?_
          exact ih h
        · refine E_aload_n (pc := 71) rfl dX12_seemed_71 ?_
          refine R_getR (pc := 72) (b := 258) f12_40 dX12_seemed_72 (ent_st MO247) (by decide) rfl rfl ?_
          refine E_iload (pc := 75) rfl dX12_seemed_75 ?_
          refine T_iald (pc := 77) dX12_seemed_77 (ent_st MA258) (by decide) h (fun v11 h => ?_)
          refine E_iload_n (pc := 78) rfl dX12_seemed_78 ?_
          refine T_icmp_gt (pc := 79) 91 dX12_seemed_79 (by decide) h (fun h => ?_) (fun h => ?_)
          · refine T_iinc (pc := 91) (m := 1) (L2 := [_, _, _, _, _, _, _]) rfl rfl rfl rfl dX12_seemed_91 ?_
            refine E_goto (pc := 94) 41 (by decide) dX12_seemed_94 ?_
            exact ih h
          · refine E_iload (pc := 82) rfl dX12_seemed_82 ?_
            refine E_iconst (pc := 84) 1 rfl dX12_seemed_84 ?_
            refine E_iload (pc := 85) rfl dX12_seemed_85 ?_
            refine E_ishl (pc := 87) dX12_seemed_87 ?_
            refine E_ior (pc := 88) dX12_seemed_88 ?_
            refine E_istore (pc := 89) (L2 := [_, _, _, _, _, _, _]) rfl rfl dX12_seemed_89 ?_
            refine T_iinc (pc := 91) (m := 1) (L2 := [_, _, _, _, _, _, _]) rfl rfl rfl rfl dX12_seemed_91 ?_
            refine E_goto (pc := 94) 41 (by decide) dX12_seemed_94 ?_
            exact ih h
noncomputable def f_X12_seemed (x1 : Int32) (x2 : Int32) (x3 : Int32) (x4 : Int32) (σ : ST) : Option (Int32 × ST) :=
    bd2 (f_X12_isMouth x1 σ) fun v2 s1 =>
    if v2 = 0 then
    (some ((-1), s1))
    else (bd2 (f_X12_isHour x2 s1) fun v4 s3 =>
    if v4 = 0 then
    (some ((-1), s3))
    else (bd2 (f_X12_isThing x3 s3) fun v6 s5 =>
    if v6 = 0 then
    (some ((-1), s5))
    else (bd2 (f_X12_isHour x4 s5) fun v8 s7 =>
    if v8 = 0 then
    (some ((-1), s7))
    else (f_X12_seemed_41 (fun x3_12 x4_13 x5_14 s15 =>
    bd2 (f_X12_solve x5_14 (-1) (-1) s15) fun v17 s16 =>
    if v17 = 0 then
    (some ((-1), s16))
    else (bd2 (f_X12_isOf x3_12 x4_13 s16) fun v19 s18 =>
    some (v19, s18))) FU x1 x2 x3 x4 (nI 0) (nI 0) s7))))
theorem e_X12_seemed {G : GP} {x1 : Int32} {x2 : Int32} {x3 : Int32} {x4 : Int32} {σ : ST} {v : Int32} {s : ST}  (h : f_X12_seemed x1 x2 x3 x4 σ = some (v, s)) : E G mX12_seemed (3, 89) 0 [.ref 247, .int x1, .int x2, .int x3, .int x4, D0, D0] [] (mem σ) (QI v s) := by
  unfold f_X12_seemed at h
  refine E_aload_n (pc := 0) rfl dX12_seemed_0 ?_
  refine E_iload_n (pc := 1) rfl dX12_seemed_1 ?_
  obtain ⟨v2, s1, hp, h⟩ := bd2_some h
  refine E_callV (pc := 2) (As := [_]) (fc := (0, 0)) s12_223_12 oX12_isMouth dX12_seemed_2 (mem_ob (ent_st MO247)) rfl rfl (Nat.le_of_ble_eq_true rfl) rfl rfl (by decide) (e_X12_isMouth hp) (fun rv_ M_ hq_ => ?_)
  obtain ⟨rfl, rfl⟩ := hq_
  refine T_if_eq (pc := 5) 33 dX12_seemed_5 (by decide) h (fun h => ?_) (fun h => ?_)
  · refine E_im1 (pc := 33) dX12_seemed_33 ?_
    exact E_ireturn (pc := 34) rfl rfl dX12_seemed_34 (QI_of h)
  · refine E_aload_n (pc := 8) rfl dX12_seemed_8 ?_
    refine E_iload_n (pc := 9) rfl dX12_seemed_9 ?_
    obtain ⟨v4, s3, hp, h⟩ := bd2_some h
    refine E_callV (pc := 10) (As := [_]) (fc := (0, 0)) s12_168_12 oX12_isHour dX12_seemed_10 (mem_ob (ent_st MO247)) rfl rfl (Nat.le_of_ble_eq_true rfl) rfl rfl (by decide) (e_X12_isHour hp) (fun rv_ M_ hq_ => ?_)
    obtain ⟨rfl, rfl⟩ := hq_
    refine T_if_eq (pc := 13) 33 dX12_seemed_13 (by decide) h (fun h => ?_) (fun h => ?_)
    · refine E_im1 (pc := 33) dX12_seemed_33 ?_
      exact E_ireturn (pc := 34) rfl rfl dX12_seemed_34 (QI_of h)
    · refine E_aload_n (pc := 16) rfl dX12_seemed_16 ?_
      refine E_iload_n (pc := 17) rfl dX12_seemed_17 ?_
      obtain ⟨v6, s5, hp, h⟩ := bd2_some h
      refine E_callV (pc := 18) (As := [_]) (fc := (0, 0)) s12_191_12 oX12_isThing dX12_seemed_18 (mem_ob (ent_st MO247)) rfl rfl (Nat.le_of_ble_eq_true rfl) rfl rfl (by decide) (e_X12_isThing hp) (fun rv_ M_ hq_ => ?_)
      obtain ⟨rfl, rfl⟩ := hq_
      refine T_if_eq (pc := 21) 33 dX12_seemed_21 (by decide) h (fun h => ?_) (fun h => ?_)
      · refine E_im1 (pc := 33) dX12_seemed_33 ?_
        exact E_ireturn (pc := 34) rfl rfl dX12_seemed_34 (QI_of h)
      · refine E_aload_n (pc := 24) rfl dX12_seemed_24 ?_
        refine E_iload (pc := 25) rfl dX12_seemed_25 ?_
        obtain ⟨v8, s7, hp, h⟩ := bd2_some h
        refine E_callV (pc := 27) (As := [_]) (fc := (0, 0)) s12_168_12 oX12_isHour dX12_seemed_27 (mem_ob (ent_st MO247)) rfl rfl (Nat.le_of_ble_eq_true rfl) rfl rfl (by decide) (e_X12_isHour hp) (fun rv_ M_ hq_ => ?_)
        obtain ⟨rfl, rfl⟩ := hq_
        refine T_if_ne (pc := 30) 35 dX12_seemed_30 (by decide) h (fun h => ?_) (fun h => ?_)
        · refine E_iconst (pc := 35) 0 rfl dX12_seemed_35 ?_
          refine E_istore (pc := 36) (L2 := [_, _, _, _, _, _, _]) rfl rfl dX12_seemed_36 ?_
          refine E_iconst (pc := 38) 0 rfl dX12_seemed_38 ?_
          refine E_istore (pc := 39) (L2 := [_, _, _, _, _, _, _]) rfl rfl dX12_seemed_39 ?_
          refine e_X12_seemed_41 ?_ FU h
          · intro x3_12 x4_13 x5_14 s15 h
            refine E_aload_n (pc := 97) rfl dX12_seemed_97 ?_
            refine E_iload (pc := 98) rfl dX12_seemed_98 ?_
            refine E_im1 (pc := 100) dX12_seemed_100 ?_
            refine E_im1 (pc := 101) dX12_seemed_101 ?_
            obtain ⟨v17, s16, hp, h⟩ := bd2_some h
            refine E_callV (pc := 102) (As := [_, _, _]) (fc := (2, 61)) s12_289_12 oX12_solve dX12_seemed_102 (mem_ob (ent_st MO247)) rfl rfl (Nat.le_of_ble_eq_true rfl) rfl rfl (by decide) (e_X12_solve hp) (fun rv_ M_ hq_ => ?_)
            obtain ⟨rfl, rfl⟩ := hq_
            refine T_if_eq (pc := 105) 118 dX12_seemed_105 (by decide) h (fun h => ?_) (fun h => ?_)
            · refine E_im1 (pc := 118) dX12_seemed_118 ?_
              exact E_ireturn (pc := 119) rfl rfl dX12_seemed_119 (QI_of h)
            · refine E_aload_n (pc := 108) rfl dX12_seemed_108 ?_
              refine E_iload_n (pc := 109) rfl dX12_seemed_109 ?_
              refine E_iload (pc := 110) rfl dX12_seemed_110 ?_
              obtain ⟨v19, s18, hp, h⟩ := bd2_some h
              refine E_callV (pc := 112) (As := [_, _]) (fc := (2, 53)) s12_304_12 oX12_isOf dX12_seemed_112 (mem_ob (ent_st MO247)) rfl rfl (Nat.le_of_ble_eq_true rfl) rfl rfl (by decide) (e_X12_isOf hp) (fun rv_ M_ hq_ => ?_)
              obtain ⟨rfl, rfl⟩ := hq_
              refine E_goto (pc := 115) 119 (by decide) dX12_seemed_115 ?_
              exact E_ireturn (pc := 119) rfl rfl dX12_seemed_119 (QI_of h)
        · refine E_im1 (pc := 33) dX12_seemed_33 ?_
          exact E_ireturn (pc := 34) rfl rfl dX12_seemed_34 (QI_of h)
noncomputable def f_X12_ran (x1 : Int32) (σ : ST) : Option ST :=
    if (σ.1 247 52) < (nI 20) then
    ((wrI σ 288 20 (σ.1 247 52) x1).bind fun s2 =>
    (pfI s2 247 52 ((s2.1 247 52) + (nI 1))).bind fun s3 =>
    some s3)
    else ((pfI σ 247 52 ((σ.1 247 52) + (nI 1))).bind fun s1 =>
    some s1)
theorem e_X12_ran {G : GP} {x1 : Int32} {σ : ST} {s : ST}  (h : f_X12_ran x1 σ = some s) : E G mX12_ran (0, 0) 0 [.ref 247, .int x1] [] (mem σ) (QV s) := by
  unfold f_X12_ran at h
  refine E_aload_n (pc := 0) rfl dX12_ran_0 ?_
  refine R_getI (pc := 1) f12_323 dX12_ran_1 (ent_st MO247) (by decide) rfl ?_
  refine E_bipush (pc := 4) (nI 20) (by decide) dX12_ran_4 ?_
  refine T_icmp_ge (pc := 6) 19 dX12_ran_6 (by decide) h (fun h => ?_) (fun h => ?_)
  · refine E_aload_n (pc := 19) rfl dX12_ran_19 ?_
    refine E_dup (pc := 20) rfl dX12_ran_20 ?_
    refine R_getI (pc := 21) f12_323 dX12_ran_21 (ent_st MO247) (by decide) rfl ?_
    refine E_iconst (pc := 24) 1 rfl dX12_ran_24 ?_
    refine E_iadd (pc := 25) dX12_ran_25 ?_
    refine T_putI (pc := 26) f12_323 dX12_ran_26 (ent_st MO247) (by decide) rfl (by decide +kernel) h (fun s1 h => ?_)
    exact E_return (pc := 29) rfl dX12_ran_29 (QV_of h)
  · refine E_aload_n (pc := 9) rfl dX12_ran_9 ?_
    refine R_getR (pc := 10) (b := 288) f12_135 dX12_ran_10 (ent_st MO247) (by decide) rfl rfl ?_
    refine E_aload_n (pc := 13) rfl dX12_ran_13 ?_
    refine R_getI (pc := 14) f12_323 dX12_ran_14 (ent_st MO247) (by decide) rfl ?_
    refine E_iload_n (pc := 17) rfl dX12_ran_17 ?_
    refine T_iast (pc := 18) dX12_ran_18 (ent_st MA288) (by decide) h (fun s2 h => ?_)
    refine E_aload_n (pc := 19) rfl dX12_ran_19 ?_
    refine E_dup (pc := 20) rfl dX12_ran_20 ?_
    refine R_getI (pc := 21) f12_323 dX12_ran_21 (ent_st MO247) (by decide) rfl ?_
    refine E_iconst (pc := 24) 1 rfl dX12_ran_24 ?_
    refine E_iadd (pc := 25) dX12_ran_25 ?_
    refine T_putI (pc := 26) f12_323 dX12_ran_26 (ent_st MO247) (by decide) rfl (by decide +kernel) h (fun s3 h => ?_)
    exact E_return (pc := 29) rfl dX12_ran_29 (QV_of h)
noncomputable def f_X12_tells_55 (x1 : Int32) (z0 : Int32) (sg : ST) : Option (Int32 × ST) :=
    (rdI sg 257 16 x1).bind fun v5 =>
    (rdI sg 255 16 x1).bind fun v6 =>
    if v6 = (nI 2) then
    (some (((z0 + v5) * (nI 3)), sg))
    else (some ((z0 + v5), sg))
theorem e_X12_tells_55 {G : GP} {x1 : Int32} {z0 : Int32} {sg : ST} {v : Int32} {s : ST}  (h : f_X12_tells_55 x1 z0 sg = some (v, s)) : E G mX12_tells (1, 21) 55 [.ref 247, .int x1, D0, D0] [.int z0] (mem sg) (QI v s) := by
  unfold f_X12_tells_55 at h
  refine E_aload_n (pc := 55) rfl dX12_tells_55 ?_
  refine R_getR (pc := 56) (b := 257) f12_37 dX12_tells_56 (ent_st MO247) (by decide) rfl rfl ?_
  refine E_iload_n (pc := 59) rfl dX12_tells_59 ?_
  refine T_iald (pc := 60) dX12_tells_60 (ent_st MA257) (by decide) h (fun v5 h => ?_)
  refine E_iadd (pc := 61) dX12_tells_61 ?_
  refine E_istore_n (pc := 62) (L2 := [_, _, _, _]) rfl rfl dX12_tells_62 ?_
  refine E_aload_n (pc := 63) rfl dX12_tells_63 ?_
  refine R_getR (pc := 64) (b := 255) f12_31 dX12_tells_64 (ent_st MO247) (by decide) rfl rfl ?_
  refine E_iload_n (pc := 67) rfl dX12_tells_67 ?_
  refine T_iald (pc := 68) dX12_tells_68 (ent_st MA255) (by decide) h (fun v6 h => ?_)
  refine E_iconst (pc := 69) 2 rfl dX12_tells_69 ?_
  refine T_icmp_ne (pc := 70) 79 dX12_tells_70 (by decide) h (fun h => ?_) (fun h => ?_)
  · refine E_iload_n (pc := 79) rfl dX12_tells_79 ?_
    exact E_ireturn (pc := 80) rfl rfl dX12_tells_80 (QI_of h)
  · refine E_iload_n (pc := 73) rfl dX12_tells_73 ?_
    refine E_iconst (pc := 74) 3 rfl dX12_tells_74 ?_
    refine E_imul (pc := 75) dX12_tells_75 ?_
    refine E_goto (pc := 76) 80 (by decide) dX12_tells_76 ?_
    exact E_ireturn (pc := 80) rfl rfl dX12_tells_80 (QI_of h)
noncomputable def f_X12_tells_32 (x1 : Int32) (x2 : Int32) (sg : ST) : Option (Int32 × ST) :=
    (f_X12_ran (nI 10) sg).bind fun s3 =>
    (rdI s3 255 16 x1).bind fun v4 =>
    if v4 = (nI 3) then
    (f_X12_tells_55 x1 (x2 + (nI 1)) s3)
    else (f_X12_tells_55 x1 x2 s3)
theorem e_X12_tells_32 {G : GP} {x1 : Int32} {x2 : Int32} {sg : ST} {v : Int32} {s : ST}  (h : f_X12_tells_32 x1 x2 sg = some (v, s)) : E G mX12_tells (1, 21) 32 [.ref 247, .int x1, .int x2, D0] [] (mem sg) (QI v s) := by
  unfold f_X12_tells_32 at h
  refine E_aload_n (pc := 32) rfl dX12_tells_32 ?_
  refine E_bipush (pc := 33) (nI 10) (by decide) dX12_tells_33 ?_
  obtain ⟨s3, hp, h⟩ := bd_some h
  refine E_callV (pc := 35) (As := [_]) (fc := (0, 0)) s12_326_12 oX12_ran dX12_tells_35 (mem_ob (ent_st MO247)) rfl rfl (Nat.le_of_ble_eq_true rfl) rfl rfl (by decide) (e_X12_ran hp) (fun rv_ M_ hq_ => ?_)
  obtain ⟨rfl, rfl⟩ := hq_
  refine E_aload_n (pc := 38) rfl dX12_tells_38 ?_
  refine R_getR (pc := 39) (b := 255) f12_31 dX12_tells_39 (ent_st MO247) (by decide) rfl rfl ?_
  refine E_iload_n (pc := 42) rfl dX12_tells_42 ?_
  refine T_iald (pc := 43) dX12_tells_43 (ent_st MA255) (by decide) h (fun v4 h => ?_)
  refine E_iconst (pc := 44) 3 rfl dX12_tells_44 ?_
  refine T_icmp_ne (pc := 45) 54 dX12_tells_45 (by decide) h (fun h => ?_) (fun h => ?_)
  · refine E_iload_n (pc := 54) rfl dX12_tells_54 ?_
    refine E_kp [true, true, false, false] (L2 := [_, _, D0, D0]) rfl rfl ?_
    refine e_X12_tells_55  h
  · refine E_iload_n (pc := 48) rfl dX12_tells_48 ?_
    refine E_iconst (pc := 49) 1 rfl dX12_tells_49 ?_
    refine E_iadd (pc := 50) dX12_tells_50 ?_
    refine E_goto (pc := 51) 55 (by decide) dX12_tells_51 ?_
    refine E_kp [true, true, false, false] (L2 := [_, _, D0, D0]) rfl rfl ?_
    refine e_X12_tells_55  h
noncomputable def f_X12_tells_16 (x1 : Int32) (x2 : Int32) (sg : ST) : Option (Int32 × ST) :=
    (rdI sg 255 16 x1).bind fun v2 =>
    if v2 = (nI 3) then
    ((f_X12_ran (nI 41) sg).bind fun s7 =>
    f_X12_tells_32 x1 x2 s7)
    else (f_X12_tells_32 x1 x2 sg)
theorem e_X12_tells_16 {G : GP} {x1 : Int32} {x2 : Int32} {sg : ST} {v : Int32} {s : ST}  (h : f_X12_tells_16 x1 x2 sg = some (v, s)) : E G mX12_tells (1, 21) 16 [.ref 247, .int x1, .int x2, D0] [] (mem sg) (QI v s) := by
  unfold f_X12_tells_16 at h
  refine E_aload_n (pc := 16) rfl dX12_tells_16 ?_
  refine R_getR (pc := 17) (b := 255) f12_31 dX12_tells_17 (ent_st MO247) (by decide) rfl rfl ?_
  refine E_iload_n (pc := 20) rfl dX12_tells_20 ?_
  refine T_iald (pc := 21) dX12_tells_21 (ent_st MA255) (by decide) h (fun v2 h => ?_)
  refine E_iconst (pc := 22) 3 rfl dX12_tells_22 ?_
  refine T_icmp_ne (pc := 23) 32 dX12_tells_23 (by decide) h (fun h => ?_) (fun h => ?_)
  · refine e_X12_tells_32  h
  · refine E_aload_n (pc := 26) rfl dX12_tells_26 ?_
    refine E_bipush (pc := 27) (nI 41) (by decide) dX12_tells_27 ?_
    obtain ⟨s7, hp, h⟩ := bd_some h
    refine E_callV (pc := 29) (As := [_]) (fc := (0, 0)) s12_326_12 oX12_ran dX12_tells_29 (mem_ob (ent_st MO247)) rfl rfl (Nat.le_of_ble_eq_true rfl) rfl rfl (by decide) (e_X12_ran hp) (fun rv_ M_ hq_ => ?_)
    obtain ⟨rfl, rfl⟩ := hq_
    refine e_X12_tells_32  h
noncomputable def f_X12_tells (x1 : Int32) (x2 : Int32) (σ : ST) : Option (Int32 × ST) :=
    (rdI σ 255 16 x1).bind fun v1 =>
    if v1 = (nI 2) then
    ((f_X12_ran (nI 30) σ).bind fun s8 =>
    f_X12_tells_16 x1 x2 s8)
    else (f_X12_tells_16 x1 x2 σ)
theorem e_X12_tells {G : GP} {x1 : Int32} {x2 : Int32} {σ : ST} {v : Int32} {s : ST}  (h : f_X12_tells x1 x2 σ = some (v, s)) : E G mX12_tells (1, 21) 0 [.ref 247, .int x1, .int x2, D0] [] (mem σ) (QI v s) := by
  unfold f_X12_tells at h
  refine E_aload_n (pc := 0) rfl dX12_tells_0 ?_
  refine R_getR (pc := 1) (b := 255) f12_31 dX12_tells_1 (ent_st MO247) (by decide) rfl rfl ?_
  refine E_iload_n (pc := 4) rfl dX12_tells_4 ?_
  refine T_iald (pc := 5) dX12_tells_5 (ent_st MA255) (by decide) h (fun v1 h => ?_)
  refine E_iconst (pc := 6) 2 rfl dX12_tells_6 ?_
  refine T_icmp_ne (pc := 7) 16 dX12_tells_7 (by decide) h (fun h => ?_) (fun h => ?_)
  · refine e_X12_tells_16  h
  · refine E_aload_n (pc := 10) rfl dX12_tells_10 ?_
    refine E_bipush (pc := 11) (nI 30) (by decide) dX12_tells_11 ?_
    obtain ⟨s8, hp, h⟩ := bd_some h
    refine E_callV (pc := 13) (As := [_]) (fc := (0, 0)) s12_326_12 oX12_ran dX12_tells_13 (mem_ob (ent_st MO247)) rfl rfl (Nat.le_of_ble_eq_true rfl) rfl rfl (by decide) (e_X12_ran hp) (fun rv_ M_ hq_ => ?_)
    obtain ⟨rfl, rfl⟩ := hq_
    refine e_X12_tells_16  h
noncomputable def f_X12_binds_42 (x1 : Int32) (x2 : Int32) (sg : ST) : Option (Int32 × ST) :=
    (f_X12_ran (nI 11) sg).bind fun s4 =>
    bd2 (f_X12_tells x1 x2 s4) fun v6 s5 =>
    (rdI s5 255 16 x1).bind fun v7 =>
    if v7 = (nI 1) then
    (some (((v6 * (nI 2)) + x1), s5))
    else ((rdI s5 255 16 x1).bind fun v8 =>
    if v8 = (nI 3) then
    (some ((-((v6 * (nI 2)) + x1)), s5))
    else (some ((v6 * (nI 2)), s5)))
theorem e_X12_binds_42 {G : GP} {x1 : Int32} {x2 : Int32} {sg : ST} {v : Int32} {s : ST}  (h : f_X12_binds_42 x1 x2 sg = some (v, s)) : E G mX12_binds (2, 44) 42 [.ref 247, .int x1, .int x2, D0] [] (mem sg) (QI v s) := by
  unfold f_X12_binds_42 at h
  refine E_aload_n (pc := 42) rfl dX12_binds_42 ?_
  refine E_bipush (pc := 43) (nI 11) (by decide) dX12_binds_43 ?_
  obtain ⟨s4, hp, h⟩ := bd_some h
  refine E_callV (pc := 45) (As := [_]) (fc := (0, 0)) s12_326_12 oX12_ran dX12_binds_45 (mem_ob (ent_st MO247)) rfl rfl (Nat.le_of_ble_eq_true rfl) rfl rfl (by decide) (e_X12_ran hp) (fun rv_ M_ hq_ => ?_)
  obtain ⟨rfl, rfl⟩ := hq_
  refine E_aload_n (pc := 48) rfl dX12_binds_48 ?_
  refine E_iload_n (pc := 49) rfl dX12_binds_49 ?_
  refine E_iload_n (pc := 50) rfl dX12_binds_50 ?_
  obtain ⟨v6, s5, hp, h⟩ := bd2_some h
  refine E_callV (pc := 51) (As := [_, _]) (fc := (1, 21)) s12_330_12 oX12_tells dX12_binds_51 (mem_ob (ent_st MO247)) rfl rfl (Nat.le_of_ble_eq_true rfl) rfl rfl (by decide) (e_X12_tells hp) (fun rv_ M_ hq_ => ?_)
  obtain ⟨rfl, rfl⟩ := hq_
  refine E_iconst (pc := 54) 2 rfl dX12_binds_54 ?_
  refine E_imul (pc := 55) dX12_binds_55 ?_
  refine E_istore_n (pc := 56) (L2 := [_, _, _, _]) rfl rfl dX12_binds_56 ?_
  refine E_aload_n (pc := 57) rfl dX12_binds_57 ?_
  refine R_getR (pc := 58) (b := 255) f12_31 dX12_binds_58 (ent_st MO247) (by decide) rfl rfl ?_
  refine E_iload_n (pc := 61) rfl dX12_binds_61 ?_
  refine T_iald (pc := 62) dX12_binds_62 (ent_st MA255) (by decide) h (fun v7 h => ?_)
  refine E_iconst (pc := 63) 1 rfl dX12_binds_63 ?_
  refine T_icmp_ne (pc := 64) 71 dX12_binds_64 (by decide) h (fun h => ?_) (fun h => ?_)
  · refine E_aload_n (pc := 71) rfl dX12_binds_71 ?_
    refine R_getR (pc := 72) (b := 255) f12_31 dX12_binds_72 (ent_st MO247) (by decide) rfl rfl ?_
    refine E_iload_n (pc := 75) rfl dX12_binds_75 ?_
    refine T_iald (pc := 76) dX12_binds_76 (ent_st MA255) (by decide) h (fun v8 h => ?_)
    refine E_iconst (pc := 77) 3 rfl dX12_binds_77 ?_
    refine T_icmp_ne (pc := 78) 88 dX12_binds_78 (by decide) h (fun h => ?_) (fun h => ?_)
    · refine E_iload_n (pc := 88) rfl dX12_binds_88 ?_
      exact E_ireturn (pc := 89) rfl rfl dX12_binds_89 (QI_of h)
    · refine E_iload_n (pc := 81) rfl dX12_binds_81 ?_
      refine E_iload_n (pc := 82) rfl dX12_binds_82 ?_
      refine E_iadd (pc := 83) dX12_binds_83 ?_
      refine E_ineg (pc := 84) dX12_binds_84 ?_
      refine E_goto (pc := 85) 89 (by decide) dX12_binds_85 ?_
      exact E_ireturn (pc := 89) rfl rfl dX12_binds_89 (QI_of h)
  · refine E_iload_n (pc := 67) rfl dX12_binds_67 ?_
    refine E_iload_n (pc := 68) rfl dX12_binds_68 ?_
    refine E_iadd (pc := 69) dX12_binds_69 ?_
    exact E_ireturn (pc := 70) rfl rfl dX12_binds_70 (QI_of h)
noncomputable def f_X12_binds_36 (x1 : Int32) (x2 : Int32) (sg : ST) : Option (Int32 × ST) :=
    (f_X12_ran (nI 20) sg).bind fun s3 =>
    f_X12_binds_42 x1 x2 s3
theorem e_X12_binds_36 {G : GP} {x1 : Int32} {x2 : Int32} {sg : ST} {v : Int32} {s : ST}  (h : f_X12_binds_36 x1 x2 sg = some (v, s)) : E G mX12_binds (2, 44) 36 [.ref 247, .int x1, .int x2, D0] [] (mem sg) (QI v s) := by
  unfold f_X12_binds_36 at h
  refine E_aload_n (pc := 36) rfl dX12_binds_36 ?_
  refine E_bipush (pc := 37) (nI 20) (by decide) dX12_binds_37 ?_
  obtain ⟨s3, hp, h⟩ := bd_some h
  refine E_callV (pc := 39) (As := [_]) (fc := (0, 0)) s12_326_12 oX12_ran dX12_binds_39 (mem_ob (ent_st MO247)) rfl rfl (Nat.le_of_ble_eq_true rfl) rfl rfl (by decide) (e_X12_ran hp) (fun rv_ M_ hq_ => ?_)
  obtain ⟨rfl, rfl⟩ := hq_
  refine e_X12_binds_42  h
noncomputable def f_X12_binds_16 (x1 : Int32) (x2 : Int32) (sg : ST) : Option (Int32 × ST) :=
    (rdI sg 255 16 x1).bind fun v2 =>
    if v2 = (nI 1) then
    (f_X12_binds_36 x1 x2 sg)
    else ((rdI sg 255 16 x1).bind fun v9 =>
    if v9 = (nI 3) then
    (f_X12_binds_36 x1 x2 sg)
    else (f_X12_binds_42 x1 x2 sg))
theorem e_X12_binds_16 {G : GP} {x1 : Int32} {x2 : Int32} {sg : ST} {v : Int32} {s : ST}  (h : f_X12_binds_16 x1 x2 sg = some (v, s)) : E G mX12_binds (2, 44) 16 [.ref 247, .int x1, .int x2, D0] [] (mem sg) (QI v s) := by
  unfold f_X12_binds_16 at h
  refine E_aload_n (pc := 16) rfl dX12_binds_16 ?_
  refine R_getR (pc := 17) (b := 255) f12_31 dX12_binds_17 (ent_st MO247) (by decide) rfl rfl ?_
  refine E_iload_n (pc := 20) rfl dX12_binds_20 ?_
  refine T_iald (pc := 21) dX12_binds_21 (ent_st MA255) (by decide) h (fun v2 h => ?_)
  refine E_iconst (pc := 22) 1 rfl dX12_binds_22 ?_
  refine T_icmp_eq (pc := 23) 36 dX12_binds_23 (by decide) h (fun h => ?_) (fun h => ?_)
  · refine e_X12_binds_36  h
  · refine E_aload_n (pc := 26) rfl dX12_binds_26 ?_
    refine R_getR (pc := 27) (b := 255) f12_31 dX12_binds_27 (ent_st MO247) (by decide) rfl rfl ?_
    refine E_iload_n (pc := 30) rfl dX12_binds_30 ?_
    refine T_iald (pc := 31) dX12_binds_31 (ent_st MA255) (by decide) h (fun v9 h => ?_)
    refine E_iconst (pc := 32) 3 rfl dX12_binds_32 ?_
    refine T_icmp_ne (pc := 33) 42 dX12_binds_33 (by decide) h (fun h => ?_) (fun h => ?_)
    · refine e_X12_binds_42  h
    · refine e_X12_binds_36  h
noncomputable def f_X12_binds (x1 : Int32) (x2 : Int32) (σ : ST) : Option (Int32 × ST) :=
    (rdI σ 255 16 x1).bind fun v1 =>
    if v1 = (nI 3) then
    ((f_X12_ran (nI 40) σ).bind fun s10 =>
    f_X12_binds_16 x1 x2 s10)
    else (f_X12_binds_16 x1 x2 σ)
theorem e_X12_binds {G : GP} {x1 : Int32} {x2 : Int32} {σ : ST} {v : Int32} {s : ST}  (h : f_X12_binds x1 x2 σ = some (v, s)) : E G mX12_binds (2, 44) 0 [.ref 247, .int x1, .int x2, D0] [] (mem σ) (QI v s) := by
  unfold f_X12_binds at h
  refine E_aload_n (pc := 0) rfl dX12_binds_0 ?_
  refine R_getR (pc := 1) (b := 255) f12_31 dX12_binds_1 (ent_st MO247) (by decide) rfl rfl ?_
  refine E_iload_n (pc := 4) rfl dX12_binds_4 ?_
  refine T_iald (pc := 5) dX12_binds_5 (ent_st MA255) (by decide) h (fun v1 h => ?_)
  refine E_iconst (pc := 6) 3 rfl dX12_binds_6 ?_
  refine T_icmp_ne (pc := 7) 16 dX12_binds_7 (by decide) h (fun h => ?_) (fun h => ?_)
  · refine e_X12_binds_16  h
  · refine E_aload_n (pc := 10) rfl dX12_binds_10 ?_
    refine E_bipush (pc := 11) (nI 40) (by decide) dX12_binds_11 ?_
    obtain ⟨s10, hp, h⟩ := bd_some h
    refine E_callV (pc := 13) (As := [_]) (fc := (0, 0)) s12_326_12 oX12_ran dX12_binds_13 (mem_ob (ent_st MO247)) rfl rfl (Nat.le_of_ble_eq_true rfl) rfl rfl (by decide) (e_X12_ran hp) (fun rv_ M_ hq_ => ?_)
    obtain ⟨rfl, rfl⟩ := hq_
    refine e_X12_binds_16  h
noncomputable def f_X12_weighs_16 (x1 : Int32) (x2 : Int32) (sg : ST) : Option (Int32 × ST) :=
    (f_X12_ran (nI 12) sg).bind fun s2 =>
    bd2 (f_X12_binds x1 x2 s2) fun v4 s3 =>
    bd2 (f_X12_tells x1 (x2 - x1) s3) fun v6 s5 =>
    (rdI s5 255 16 x1).bind fun v7 =>
    if v7 = (nI 2) then
    ((rdI s5 257 16 x1).bind fun v8 =>
    some (((v4 ^^^ v6) - v8), s5))
    else (some ((v4 ^^^ v6), s5))
theorem e_X12_weighs_16 {G : GP} {x1 : Int32} {x2 : Int32} {sg : ST} {v : Int32} {s : ST}  (h : f_X12_weighs_16 x1 x2 sg = some (v, s)) : E G mX12_weighs (3, 67) 16 [.ref 247, .int x1, .int x2, D0] [] (mem sg) (QI v s) := by
  unfold f_X12_weighs_16 at h
  refine E_aload_n (pc := 16) rfl dX12_weighs_16 ?_
  refine E_bipush (pc := 17) (nI 12) (by decide) dX12_weighs_17 ?_
  obtain ⟨s2, hp, h⟩ := bd_some h
  refine E_callV (pc := 19) (As := [_]) (fc := (0, 0)) s12_326_12 oX12_ran dX12_weighs_19 (mem_ob (ent_st MO247)) rfl rfl (Nat.le_of_ble_eq_true rfl) rfl rfl (by decide) (e_X12_ran hp) (fun rv_ M_ hq_ => ?_)
  obtain ⟨rfl, rfl⟩ := hq_
  refine E_aload_n (pc := 22) rfl dX12_weighs_22 ?_
  refine E_iload_n (pc := 23) rfl dX12_weighs_23 ?_
  refine E_iload_n (pc := 24) rfl dX12_weighs_24 ?_
  obtain ⟨v4, s3, hp, h⟩ := bd2_some h
  refine E_callV (pc := 25) (As := [_, _]) (fc := (2, 44)) s12_333_12 oX12_binds dX12_weighs_25 (mem_ob (ent_st MO247)) rfl rfl (Nat.le_of_ble_eq_true rfl) rfl rfl (by decide) (e_X12_binds hp) (fun rv_ M_ hq_ => ?_)
  obtain ⟨rfl, rfl⟩ := hq_
  refine E_aload_n (pc := 28) rfl dX12_weighs_28 ?_
  refine E_iload_n (pc := 29) rfl dX12_weighs_29 ?_
  refine E_iload_n (pc := 30) rfl dX12_weighs_30 ?_
  refine E_iload_n (pc := 31) rfl dX12_weighs_31 ?_
  refine E_isub (pc := 32) dX12_weighs_32 ?_
  obtain ⟨v6, s5, hp, h⟩ := bd2_some h
  refine E_callV (pc := 33) (As := [_, _]) (fc := (1, 21)) s12_330_12 oX12_tells dX12_weighs_33 (mem_ob (ent_st MO247)) rfl rfl (Nat.le_of_ble_eq_true rfl) rfl rfl (by decide) (e_X12_tells hp) (fun rv_ M_ hq_ => ?_)
  obtain ⟨rfl, rfl⟩ := hq_
  refine E_ixor (pc := 36) dX12_weighs_36 ?_
  refine E_istore_n (pc := 37) (L2 := [_, _, _, _]) rfl rfl dX12_weighs_37 ?_
  refine E_aload_n (pc := 38) rfl dX12_weighs_38 ?_
  refine R_getR (pc := 39) (b := 255) f12_31 dX12_weighs_39 (ent_st MO247) (by decide) rfl rfl ?_
  refine E_iload_n (pc := 42) rfl dX12_weighs_42 ?_
  refine T_iald (pc := 43) dX12_weighs_43 (ent_st MA255) (by decide) h (fun v7 h => ?_)
  refine E_iconst (pc := 44) 2 rfl dX12_weighs_44 ?_
  refine T_icmp_ne (pc := 45) 59 dX12_weighs_45 (by decide) h (fun h => ?_) (fun h => ?_)
  · refine E_iload_n (pc := 59) rfl dX12_weighs_59 ?_
    exact E_ireturn (pc := 60) rfl rfl dX12_weighs_60 (QI_of h)
  · refine E_iload_n (pc := 48) rfl dX12_weighs_48 ?_
    refine E_aload_n (pc := 49) rfl dX12_weighs_49 ?_
    refine R_getR (pc := 50) (b := 257) f12_37 dX12_weighs_50 (ent_st MO247) (by decide) rfl rfl ?_
    refine E_iload_n (pc := 53) rfl dX12_weighs_53 ?_
    refine T_iald (pc := 54) dX12_weighs_54 (ent_st MA257) (by decide) h (fun v8 h => ?_)
    refine E_isub (pc := 55) dX12_weighs_55 ?_
    refine E_goto (pc := 56) 60 (by decide) dX12_weighs_56 ?_
    exact E_ireturn (pc := 60) rfl rfl dX12_weighs_60 (QI_of h)
noncomputable def f_X12_weighs (x1 : Int32) (x2 : Int32) (σ : ST) : Option (Int32 × ST) :=
    (rdI σ 255 16 x1).bind fun v1 =>
    if v1 = (nI 2) then
    ((f_X12_ran (nI 31) σ).bind fun s9 =>
    f_X12_weighs_16 x1 x2 s9)
    else (f_X12_weighs_16 x1 x2 σ)
theorem e_X12_weighs {G : GP} {x1 : Int32} {x2 : Int32} {σ : ST} {v : Int32} {s : ST}  (h : f_X12_weighs x1 x2 σ = some (v, s)) : E G mX12_weighs (3, 67) 0 [.ref 247, .int x1, .int x2, D0] [] (mem σ) (QI v s) := by
  unfold f_X12_weighs at h
  refine E_aload_n (pc := 0) rfl dX12_weighs_0 ?_
  refine R_getR (pc := 1) (b := 255) f12_31 dX12_weighs_1 (ent_st MO247) (by decide) rfl rfl ?_
  refine E_iload_n (pc := 4) rfl dX12_weighs_4 ?_
  refine T_iald (pc := 5) dX12_weighs_5 (ent_st MA255) (by decide) h (fun v1 h => ?_)
  refine E_iconst (pc := 6) 2 rfl dX12_weighs_6 ?_
  refine T_icmp_ne (pc := 7) 16 dX12_weighs_7 (by decide) h (fun h => ?_) (fun h => ?_)
  · refine e_X12_weighs_16  h
  · refine E_aload_n (pc := 10) rfl dX12_weighs_10 ?_
    refine E_bipush (pc := 11) (nI 31) (by decide) dX12_weighs_11 ?_
    obtain ⟨s9, hp, h⟩ := bd_some h
    refine E_callV (pc := 13) (As := [_]) (fc := (0, 0)) s12_326_12 oX12_ran dX12_weighs_13 (mem_ob (ent_st MO247)) rfl rfl (Nat.le_of_ble_eq_true rfl) rfl rfl (by decide) (e_X12_ran hp) (fun rv_ M_ hq_ => ?_)
    obtain ⟨rfl, rfl⟩ := hq_
    refine e_X12_weighs_16  h
noncomputable def f_X12_act (x1 : Int32) (x2 : Int32) (x3 : Int32) (σ : ST) : Option (Int32 × ST) :=
    (pfI σ 247 52 (nI 0)).bind fun s1 =>
    bd2 (f_X12_isPiece x1 s1) fun v3 s2 =>
    if v3 = 0 then
    (some ((nI 0), s2))
    else (if x2 < 0 then
    (some ((nI 0), s2))
    else (if (nI 2) < x2 then
    (some ((nI 0), s2))
    else (if x2 = 0 then
    (bd2 (f_X12_tells x1 x3 s2) fun v9 s8 =>
    some (v9, s8))
    else (if x2 = (nI 1) then
    (bd2 (f_X12_binds x1 x3 s2) fun v7 s6 =>
    some (v7, s6))
    else (bd2 (f_X12_weighs x1 x3 s2) fun v5 s4 =>
    some (v5, s4))))))
theorem e_X12_act {G : GP} {x1 : Int32} {x2 : Int32} {x3 : Int32} {σ : ST} {v : Int32} {s : ST}  (h : f_X12_act x1 x2 x3 σ = some (v, s)) : E G mX12_act (4, 90) 0 [.ref 247, .int x1, .int x2, .int x3] [] (mem σ) (QI v s) := by
  unfold f_X12_act at h
  refine E_aload_n (pc := 0) rfl dX12_act_0 ?_
  refine E_iconst (pc := 1) 0 rfl dX12_act_1 ?_
  refine T_putI (pc := 2) f12_323 dX12_act_2 (ent_st MO247) (by decide) rfl (by decide +kernel) h (fun s1 h => ?_)
  refine E_aload_n (pc := 5) rfl dX12_act_5 ?_
  refine E_iload_n (pc := 6) rfl dX12_act_6 ?_
  obtain ⟨v3, s2, hp, h⟩ := bd2_some h
  refine E_callV (pc := 7) (As := [_]) (fc := (0, 0)) s12_188_12 oX12_isPiece dX12_act_7 (mem_ob (ent_st MO247)) rfl rfl (Nat.le_of_ble_eq_true rfl) rfl rfl (by decide) (e_X12_isPiece hp) (fun rv_ M_ hq_ => ?_)
  obtain ⟨rfl, rfl⟩ := hq_
  refine T_if_eq (pc := 10) 22 dX12_act_10 (by decide) h (fun h => ?_) (fun h => ?_)
  · refine E_iconst (pc := 22) 0 rfl dX12_act_22 ?_
    exact E_ireturn (pc := 23) rfl rfl dX12_act_23 (QI_of h)
  · refine E_iload_n (pc := 13) rfl dX12_act_13 ?_
    refine T_if_lt (pc := 14) 22 dX12_act_14 (by decide) h (fun h => ?_) (fun h => ?_)
    · refine E_iconst (pc := 22) 0 rfl dX12_act_22 ?_
      exact E_ireturn (pc := 23) rfl rfl dX12_act_23 (QI_of h)
    · refine E_iload_n (pc := 17) rfl dX12_act_17 ?_
      refine E_iconst (pc := 18) 2 rfl dX12_act_18 ?_
      refine T_icmp_le (pc := 19) 24 dX12_act_19 (by decide) h (fun h => ?_) (fun h => ?_)
      · refine E_iload_n (pc := 24) rfl dX12_act_24 ?_
        refine T_if_ne (pc := 25) 37 dX12_act_25 (by decide) h (fun h => ?_) (fun h => ?_)
        · refine E_iload_n (pc := 37) rfl dX12_act_37 ?_
          refine E_iconst (pc := 38) 1 rfl dX12_act_38 ?_
          refine T_icmp_ne (pc := 39) 51 dX12_act_39 (by decide) h (fun h => ?_) (fun h => ?_)
          · refine E_aload_n (pc := 51) rfl dX12_act_51 ?_
            refine E_iload_n (pc := 52) rfl dX12_act_52 ?_
            refine E_iload_n (pc := 53) rfl dX12_act_53 ?_
            obtain ⟨v5, s4, hp, h⟩ := bd2_some h
            refine E_callV (pc := 54) (As := [_, _]) (fc := (3, 67)) s12_336_12 oX12_weighs dX12_act_54 (mem_ob (ent_st MO247)) rfl rfl (Nat.le_of_ble_eq_true rfl) rfl rfl (by decide) (e_X12_weighs hp) (fun rv_ M_ hq_ => ?_)
            obtain ⟨rfl, rfl⟩ := hq_
            exact E_ireturn (pc := 57) rfl rfl dX12_act_57 (QI_of h)
          · refine E_aload_n (pc := 42) rfl dX12_act_42 ?_
            refine E_iload_n (pc := 43) rfl dX12_act_43 ?_
            refine E_iload_n (pc := 44) rfl dX12_act_44 ?_
            obtain ⟨v7, s6, hp, h⟩ := bd2_some h
            refine E_callV (pc := 45) (As := [_, _]) (fc := (2, 44)) s12_333_12 oX12_binds dX12_act_45 (mem_ob (ent_st MO247)) rfl rfl (Nat.le_of_ble_eq_true rfl) rfl rfl (by decide) (e_X12_binds hp) (fun rv_ M_ hq_ => ?_)
            obtain ⟨rfl, rfl⟩ := hq_
            refine E_goto (pc := 48) 57 (by decide) dX12_act_48 ?_
            exact E_ireturn (pc := 57) rfl rfl dX12_act_57 (QI_of h)
        · refine E_aload_n (pc := 28) rfl dX12_act_28 ?_
          refine E_iload_n (pc := 29) rfl dX12_act_29 ?_
          refine E_iload_n (pc := 30) rfl dX12_act_30 ?_
          obtain ⟨v9, s8, hp, h⟩ := bd2_some h
          refine E_callV (pc := 31) (As := [_, _]) (fc := (1, 21)) s12_330_12 oX12_tells dX12_act_31 (mem_ob (ent_st MO247)) rfl rfl (Nat.le_of_ble_eq_true rfl) rfl rfl (by decide) (e_X12_tells hp) (fun rv_ M_ hq_ => ?_)
          obtain ⟨rfl, rfl⟩ := hq_
          refine E_goto (pc := 34) 57 (by decide) dX12_act_34 ?_
          exact E_ireturn (pc := 57) rfl rfl dX12_act_57 (QI_of h)
      · refine E_iconst (pc := 22) 0 rfl dX12_act_22 ?_
        exact E_ireturn (pc := 23) rfl rfl dX12_act_23 (QI_of h)
noncomputable def f_X12_trace (x1 : Int32) (σ : ST) : Option (Int32 × ST) :=
    if x1 < 0 then
    (some ((-1), σ))
    else (if x1 < (σ.1 247 52) then
    (if x1 < (nI 20) then
    ((rdI σ 288 20 x1).bind fun v1 =>
    some (v1, σ))
    else (some ((-1), σ)))
    else (some ((-1), σ)))
theorem e_X12_trace {G : GP} {x1 : Int32} {σ : ST} {v : Int32} {s : ST}  (h : f_X12_trace x1 σ = some (v, s)) : E G mX12_trace (0, 0) 0 [.ref 247, .int x1] [] (mem σ) (QI v s) := by
  unfold f_X12_trace at h
  refine E_iload_n (pc := 0) rfl dX12_trace_0 ?_
  refine T_if_lt (pc := 1) 27 dX12_trace_1 (by decide) h (fun h => ?_) (fun h => ?_)
  · refine E_im1 (pc := 27) dX12_trace_27 ?_
    exact E_ireturn (pc := 28) rfl rfl dX12_trace_28 (QI_of h)
  · refine E_iload_n (pc := 4) rfl dX12_trace_4 ?_
    refine E_aload_n (pc := 5) rfl dX12_trace_5 ?_
    refine R_getI (pc := 6) f12_323 dX12_trace_6 (ent_st MO247) (by decide) rfl ?_
    refine T_icmp_ge (pc := 9) 27 dX12_trace_9 (by decide) h (fun h => ?_) (fun h => ?_)
    · refine E_im1 (pc := 27) dX12_trace_27 ?_
      exact E_ireturn (pc := 28) rfl rfl dX12_trace_28 (QI_of h)
    · refine E_iload_n (pc := 12) rfl dX12_trace_12 ?_
      refine E_bipush (pc := 13) (nI 20) (by decide) dX12_trace_13 ?_
      refine T_icmp_ge (pc := 15) 27 dX12_trace_15 (by decide) h (fun h => ?_) (fun h => ?_)
      · refine E_im1 (pc := 27) dX12_trace_27 ?_
        exact E_ireturn (pc := 28) rfl rfl dX12_trace_28 (QI_of h)
      · refine E_aload_n (pc := 18) rfl dX12_trace_18 ?_
        refine R_getR (pc := 19) (b := 288) f12_135 dX12_trace_19 (ent_st MO247) (by decide) rfl rfl ?_
        refine E_iload_n (pc := 22) rfl dX12_trace_22 ?_
        refine T_iald (pc := 23) dX12_trace_23 (ent_st MA288) (by decide) h (fun v1 h => ?_)
        refine E_goto (pc := 24) 28 (by decide) dX12_trace_24 ?_
        exact E_ireturn (pc := 28) rfl rfl dX12_trace_28 (QI_of h)
noncomputable def f_X12_pour_3 (a1 : Nat) (n1 : Nat) (a3 : Nat) (n3 : Nat) : Nat → Int32 → Int32 → Int32 → Int32 → ST → Option ST
  | 0, _, _, _, _, _ => none
  | n + 1, x2, x4, x5, x6, sg =>
    if x6 < x5 then
    ((rdI sg a1 n1 (x2 + x6)).bind fun v1 =>
    (wrI sg a3 n3 (x4 + x6) v1).bind fun s2 =>
    (f_X12_pour_3 a1 n1 a3 n3 n) x2 x4 x5 (x6 + nI 1) s2)
    else (some sg)
theorem e_X12_pour_3 {G : GP} {a1 : Nat} {n1 : Nat} {a3 : Nat} {n3 : Nat} {s : ST} (h1 : slT[a1]? = some (0, n1, []) ∧ n1 < 2 ^ 31) (h3 : slT[a3]? = some (0, n3, []) ∧ n3 < 2 ^ 31) : ∀ (n : Nat) {x2 : Int32} {x4 : Int32} {x5 : Int32} {x6 : Int32} {sg : ST}, f_X12_pour_3 a1 n1 a3 n3 n x2 x4 x5 x6 sg = some s → E G mX12_pour (0, 0) 3 [D0, .ref a1, .int x2, .ref a3, .int x4, .int x5, .int x6] [] (mem sg) (QV s) := by
  intro n
  induction n with
  | zero => intro _ _ _ _ _ h; rw [f_X12_pour_3] at h; cases h
  | succ n ih =>
    intro x2 x4 x5 x6 sg h
    rw [f_X12_pour_3] at h
    refine E_iload (pc := 3) rfl dX12_pour_3 ?_
    refine E_iload (pc := 5) rfl dX12_pour_5 ?_
    refine T_icmp_ge (pc := 7) 29 dX12_pour_7 (by decide) h (fun h => ?_) (fun h => ?_)
    · exact E_return (pc := 29) rfl dX12_pour_29 (QV_of h)
    · refine E_aload_n (pc := 10) rfl dX12_pour_10 ?_
      refine E_iload (pc := 11) rfl dX12_pour_11 ?_
      refine E_iload (pc := 13) rfl dX12_pour_13 ?_
      refine E_iadd (pc := 15) dX12_pour_15 ?_
      refine E_aload_n (pc := 16) rfl dX12_pour_16 ?_
      refine E_iload_n (pc := 17) rfl dX12_pour_17 ?_
      refine E_iload (pc := 18) rfl dX12_pour_18 ?_
      refine E_iadd (pc := 20) dX12_pour_20 ?_
      refine T_iald (pc := 21) dX12_pour_21 (ent_st h1.1) h1.2 h (fun v1 h => ?_)
      refine T_iast (pc := 22) dX12_pour_22 (ent_st h3.1) h3.2 h (fun s2 h => ?_)
      refine T_iinc (pc := 23) (m := 1) (L2 := [_, _, _, _, _, _, _]) rfl rfl rfl rfl dX12_pour_23 ?_
      refine E_goto (pc := 26) 3 (by decide) dX12_pour_26 ?_
      exact ih h
noncomputable def f_X12_pour (a1 : Nat) (n1 : Nat) (x2 : Int32) (a3 : Nat) (n3 : Nat) (x4 : Int32) (x5 : Int32) (σ : ST) : Option ST :=
    f_X12_pour_3 a1 n1 a3 n3 FU x2 x4 x5 (nI 0) σ
theorem e_X12_pour {G : GP} {a1 : Nat} {n1 : Nat} {x2 : Int32} {a3 : Nat} {n3 : Nat} {x4 : Int32} {x5 : Int32} {σ : ST} {s : ST} (h1 : slT[a1]? = some (0, n1, []) ∧ n1 < 2 ^ 31) (h3 : slT[a3]? = some (0, n3, []) ∧ n3 < 2 ^ 31) (h : f_X12_pour a1 n1 x2 a3 n3 x4 x5 σ = some s) : E G mX12_pour (0, 0) 0 [.ref 247, .ref a1, .int x2, .ref a3, .int x4, .int x5, D0] [] (mem σ) (QV s) := by
  unfold f_X12_pour at h
  refine E_iconst (pc := 0) 0 rfl dX12_pour_0 ?_
  refine E_istore (pc := 1) (L2 := [_, _, _, _, _, _, _]) rfl rfl dX12_pour_1 ?_
  refine E_kp [false, true, true, true, true, true, true] (L2 := [D0, _, _, _, _, _, _]) rfl rfl ?_
  refine e_X12_pour_3 ⟨h1.1, h1.2⟩ ⟨h3.1, h3.2⟩ FU h
noncomputable def f_X12_image (σ : ST) : Option (Int32 × ST) :=
    (pfZ σ 247 53 (nI 1)).bind fun s1 =>
    (wrI s1 289 3 (nI 0) (s1.1 247 0)).bind fun s2 =>
    (wrI s2 289 3 (nI 1) (s2.1 247 4)).bind fun s3 =>
    (wrI s3 289 3 (nI 2) (s3.1 247 9)).bind fun s4 =>
    (f_X12_pour 248 10 (nI 0) 290 620 (nI 0) (nI 10) s4).bind fun s5 =>
    (f_X12_pour 249 10 (nI 0) 290 620 (nI 10) (nI 10) s5).bind fun s6 =>
    (f_X12_pour 250 600 (nI 0) 290 620 (nI 20) (nI 600) s6).bind fun s7 =>
    (f_X12_pour 251 6 (nI 0) 291 378 (nI 0) (nI 6) s7).bind fun s8 =>
    (f_X12_pour 253 6 (nI 0) 291 378 (nI 6) (nI 6) s8).bind fun s9 =>
    (f_X12_pour 254 6 (nI 0) 291 378 (nI 12) (nI 6) s9).bind fun s10 =>
    (f_X12_pour 252 360 (nI 0) 291 378 (nI 18) (nI 360) s10).bind fun s11 =>
    (f_X12_pour 255 16 (nI 0) 292 112 (nI 0) (nI 16) s11).bind fun s12 =>
    (f_X12_pour 256 16 (nI 0) 292 112 (nI 16) (nI 16) s12).bind fun s13 =>
    (f_X12_pour 257 16 (nI 0) 292 112 (nI 32) (nI 16) s13).bind fun s14 =>
    (f_X12_pour 258 16 (nI 0) 292 112 (nI 48) (nI 16) s14).bind fun s15 =>
    (f_X12_pour 259 16 (nI 0) 292 112 (nI 64) (nI 16) s15).bind fun s16 =>
    (f_X12_pour 260 16 (nI 0) 292 112 (nI 80) (nI 16) s16).bind fun s17 =>
    (f_X12_pour 261 16 (nI 0) 292 112 (nI 96) (nI 16) s17).bind fun s18 =>
    (f_X12_pour 262 6 (nI 0) 293 6 (nI 0) (nI 6) s18).bind fun s19 =>
    some ((s19.1 247 9), s19)
theorem e_X12_image {G : GP} {σ : ST} {v : Int32} {s : ST}  (h : f_X12_image σ = some (v, s)) : E G mX12_image (1, 26) 0 [.ref 247] [] (mem σ) (QI v s) := by
  unfold f_X12_image at h
  refine E_aload_n (pc := 0) rfl dX12_image_0 ?_
  refine E_iconst (pc := 1) 1 rfl dX12_image_1 ?_
  refine T_putZ (pc := 2) f12_339 dX12_image_2 (ent_st MO247) (by decide) rfl (by decide +kernel) h (fun s1 h => ?_)
  refine E_aload_n (pc := 5) rfl dX12_image_5 ?_
  refine R_getR (pc := 6) (b := 289) f12_138 dX12_image_6 (ent_st MO247) (by decide) rfl rfl ?_
  refine E_iconst (pc := 9) 0 rfl dX12_image_9 ?_
  refine E_aload_n (pc := 10) rfl dX12_image_10 ?_
  refine R_getI (pc := 11) f12_159 dX12_image_11 (ent_st MO247) (by decide) rfl ?_
  refine T_iast (pc := 14) dX12_image_14 (ent_st MA289) (by decide) h (fun s2 h => ?_)
  refine E_aload_n (pc := 15) rfl dX12_image_15 ?_
  refine R_getR (pc := 16) (b := 289) f12_138 dX12_image_16 (ent_st MO247) (by decide) rfl rfl ?_
  refine E_iconst (pc := 19) 1 rfl dX12_image_19 ?_
  refine E_aload_n (pc := 20) rfl dX12_image_20 ?_
  refine R_getI (pc := 21) f12_162 dX12_image_21 (ent_st MO247) (by decide) rfl ?_
  refine T_iast (pc := 24) dX12_image_24 (ent_st MA289) (by decide) h (fun s3 h => ?_)
  refine E_aload_n (pc := 25) rfl dX12_image_25 ?_
  refine R_getR (pc := 26) (b := 289) f12_138 dX12_image_26 (ent_st MO247) (by decide) rfl rfl ?_
  refine E_iconst (pc := 29) 2 rfl dX12_image_29 ?_
  refine E_aload_n (pc := 30) rfl dX12_image_30 ?_
  refine R_getI (pc := 31) f12_165 dX12_image_31 (ent_st MO247) (by decide) rfl ?_
  refine T_iast (pc := 34) dX12_image_34 (ent_st MA289) (by decide) h (fun s4 h => ?_)
  refine E_aload_n (pc := 35) rfl dX12_image_35 ?_
  refine E_aload_n (pc := 36) rfl dX12_image_36 ?_
  refine R_getR (pc := 37) (b := 248) f12_7 dX12_image_37 (ent_st MO247) (by decide) rfl rfl ?_
  refine E_iconst (pc := 40) 0 rfl dX12_image_40 ?_
  refine E_aload_n (pc := 41) rfl dX12_image_41 ?_
  refine R_getR (pc := 42) (b := 290) f12_141 dX12_image_42 (ent_st MO247) (by decide) rfl rfl ?_
  refine E_iconst (pc := 45) 0 rfl dX12_image_45 ?_
  refine E_bipush (pc := 46) (nI 10) (by decide) dX12_image_46 ?_
  obtain ⟨s5, hp, h⟩ := bd_some h
  refine E_callV (pc := 48) (As := [_, _, _, _, _]) (fc := (0, 0)) s12_343_12 oX12_pour dX12_image_48 (mem_ob (ent_st MO247)) rfl rfl (Nat.le_of_ble_eq_true rfl) rfl rfl (by decide) (e_X12_pour ⟨MA248, (by decide)⟩ ⟨MA290, (by decide)⟩ hp) (fun rv_ M_ hq_ => ?_)
  obtain ⟨rfl, rfl⟩ := hq_
  refine E_aload_n (pc := 51) rfl dX12_image_51 ?_
  refine E_aload_n (pc := 52) rfl dX12_image_52 ?_
  refine R_getR (pc := 53) (b := 249) f12_13 dX12_image_53 (ent_st MO247) (by decide) rfl rfl ?_
  refine E_iconst (pc := 56) 0 rfl dX12_image_56 ?_
  refine E_aload_n (pc := 57) rfl dX12_image_57 ?_
  refine R_getR (pc := 58) (b := 290) f12_141 dX12_image_58 (ent_st MO247) (by decide) rfl rfl ?_
  refine E_bipush (pc := 61) (nI 10) (by decide) dX12_image_61 ?_
  refine E_bipush (pc := 63) (nI 10) (by decide) dX12_image_63 ?_
  obtain ⟨s6, hp, h⟩ := bd_some h
  refine E_callV (pc := 65) (As := [_, _, _, _, _]) (fc := (0, 0)) s12_343_12 oX12_pour dX12_image_65 (mem_ob (ent_st MO247)) rfl rfl (Nat.le_of_ble_eq_true rfl) rfl rfl (by decide) (e_X12_pour ⟨MA249, (by decide)⟩ ⟨MA290, (by decide)⟩ hp) (fun rv_ M_ hq_ => ?_)
  obtain ⟨rfl, rfl⟩ := hq_
  refine E_aload_n (pc := 68) rfl dX12_image_68 ?_
  refine E_aload_n (pc := 69) rfl dX12_image_69 ?_
  refine R_getR (pc := 70) (b := 250) f12_16 dX12_image_70 (ent_st MO247) (by decide) rfl rfl ?_
  refine E_iconst (pc := 73) 0 rfl dX12_image_73 ?_
  refine E_aload_n (pc := 74) rfl dX12_image_74 ?_
  refine R_getR (pc := 75) (b := 290) f12_141 dX12_image_75 (ent_st MO247) (by decide) rfl rfl ?_
  refine E_bipush (pc := 78) (nI 20) (by decide) dX12_image_78 ?_
  refine E_sipush (pc := 80) (nI 600) (by decide) dX12_image_80 ?_
  obtain ⟨s7, hp, h⟩ := bd_some h
  refine E_callV (pc := 83) (As := [_, _, _, _, _]) (fc := (0, 0)) s12_343_12 oX12_pour dX12_image_83 (mem_ob (ent_st MO247)) rfl rfl (Nat.le_of_ble_eq_true rfl) rfl rfl (by decide) (e_X12_pour ⟨MA250, (by decide)⟩ ⟨MA290, (by decide)⟩ hp) (fun rv_ M_ hq_ => ?_)
  obtain ⟨rfl, rfl⟩ := hq_
  refine E_aload_n (pc := 86) rfl dX12_image_86 ?_
  refine E_aload_n (pc := 87) rfl dX12_image_87 ?_
  refine R_getR (pc := 88) (b := 251) f12_19 dX12_image_88 (ent_st MO247) (by decide) rfl rfl ?_
  refine E_iconst (pc := 91) 0 rfl dX12_image_91 ?_
  refine E_aload_n (pc := 92) rfl dX12_image_92 ?_
  refine R_getR (pc := 93) (b := 291) f12_144 dX12_image_93 (ent_st MO247) (by decide) rfl rfl ?_
  refine E_iconst (pc := 96) 0 rfl dX12_image_96 ?_
  refine E_bipush (pc := 97) (nI 6) (by decide) dX12_image_97 ?_
  obtain ⟨s8, hp, h⟩ := bd_some h
  refine E_callV (pc := 99) (As := [_, _, _, _, _]) (fc := (0, 0)) s12_343_12 oX12_pour dX12_image_99 (mem_ob (ent_st MO247)) rfl rfl (Nat.le_of_ble_eq_true rfl) rfl rfl (by decide) (e_X12_pour ⟨MA251, (by decide)⟩ ⟨MA291, (by decide)⟩ hp) (fun rv_ M_ hq_ => ?_)
  obtain ⟨rfl, rfl⟩ := hq_
  refine E_aload_n (pc := 102) rfl dX12_image_102 ?_
  refine E_aload_n (pc := 103) rfl dX12_image_103 ?_
  refine R_getR (pc := 104) (b := 253) f12_25 dX12_image_104 (ent_st MO247) (by decide) rfl rfl ?_
  refine E_iconst (pc := 107) 0 rfl dX12_image_107 ?_
  refine E_aload_n (pc := 108) rfl dX12_image_108 ?_
  refine R_getR (pc := 109) (b := 291) f12_144 dX12_image_109 (ent_st MO247) (by decide) rfl rfl ?_
  refine E_bipush (pc := 112) (nI 6) (by decide) dX12_image_112 ?_
  refine E_bipush (pc := 114) (nI 6) (by decide) dX12_image_114 ?_
  obtain ⟨s9, hp, h⟩ := bd_some h
  refine E_callV (pc := 116) (As := [_, _, _, _, _]) (fc := (0, 0)) s12_343_12 oX12_pour dX12_image_116 (mem_ob (ent_st MO247)) rfl rfl (Nat.le_of_ble_eq_true rfl) rfl rfl (by decide) (e_X12_pour ⟨MA253, (by decide)⟩ ⟨MA291, (by decide)⟩ hp) (fun rv_ M_ hq_ => ?_)
  obtain ⟨rfl, rfl⟩ := hq_
  refine E_aload_n (pc := 119) rfl dX12_image_119 ?_
  refine E_aload_n (pc := 120) rfl dX12_image_120 ?_
  refine R_getR (pc := 121) (b := 254) f12_28 dX12_image_121 (ent_st MO247) (by decide) rfl rfl ?_
  refine E_iconst (pc := 124) 0 rfl dX12_image_124 ?_
  refine E_aload_n (pc := 125) rfl dX12_image_125 ?_
  refine R_getR (pc := 126) (b := 291) f12_144 dX12_image_126 (ent_st MO247) (by decide) rfl rfl ?_
  refine E_bipush (pc := 129) (nI 12) (by decide) dX12_image_129 ?_
  refine E_bipush (pc := 131) (nI 6) (by decide) dX12_image_131 ?_
  obtain ⟨s10, hp, h⟩ := bd_some h
  refine E_callV (pc := 133) (As := [_, _, _, _, _]) (fc := (0, 0)) s12_343_12 oX12_pour dX12_image_133 (mem_ob (ent_st MO247)) rfl rfl (Nat.le_of_ble_eq_true rfl) rfl rfl (by decide) (e_X12_pour ⟨MA254, (by decide)⟩ ⟨MA291, (by decide)⟩ hp) (fun rv_ M_ hq_ => ?_)
  obtain ⟨rfl, rfl⟩ := hq_
  refine E_aload_n (pc := 136) rfl dX12_image_136 ?_
  refine E_aload_n (pc := 137) rfl dX12_image_137 ?_
  refine R_getR (pc := 138) (b := 252) f12_22 dX12_image_138 (ent_st MO247) (by decide) rfl rfl ?_
  refine E_iconst (pc := 141) 0 rfl dX12_image_141 ?_
  refine E_aload_n (pc := 142) rfl dX12_image_142 ?_
  refine R_getR (pc := 143) (b := 291) f12_144 dX12_image_143 (ent_st MO247) (by decide) rfl rfl ?_
  refine E_bipush (pc := 146) (nI 18) (by decide) dX12_image_146 ?_
  refine E_sipush (pc := 148) (nI 360) (by decide) dX12_image_148 ?_
  obtain ⟨s11, hp, h⟩ := bd_some h
  refine E_callV (pc := 151) (As := [_, _, _, _, _]) (fc := (0, 0)) s12_343_12 oX12_pour dX12_image_151 (mem_ob (ent_st MO247)) rfl rfl (Nat.le_of_ble_eq_true rfl) rfl rfl (by decide) (e_X12_pour ⟨MA252, (by decide)⟩ ⟨MA291, (by decide)⟩ hp) (fun rv_ M_ hq_ => ?_)
  obtain ⟨rfl, rfl⟩ := hq_
  refine E_aload_n (pc := 154) rfl dX12_image_154 ?_
  refine E_aload_n (pc := 155) rfl dX12_image_155 ?_
  refine R_getR (pc := 156) (b := 255) f12_31 dX12_image_156 (ent_st MO247) (by decide) rfl rfl ?_
  refine E_iconst (pc := 159) 0 rfl dX12_image_159 ?_
  refine E_aload_n (pc := 160) rfl dX12_image_160 ?_
  refine R_getR (pc := 161) (b := 292) f12_147 dX12_image_161 (ent_st MO247) (by decide) rfl rfl ?_
  refine E_iconst (pc := 164) 0 rfl dX12_image_164 ?_
  refine E_bipush (pc := 165) (nI 16) (by decide) dX12_image_165 ?_
  obtain ⟨s12, hp, h⟩ := bd_some h
  refine E_callV (pc := 167) (As := [_, _, _, _, _]) (fc := (0, 0)) s12_343_12 oX12_pour dX12_image_167 (mem_ob (ent_st MO247)) rfl rfl (Nat.le_of_ble_eq_true rfl) rfl rfl (by decide) (e_X12_pour ⟨MA255, (by decide)⟩ ⟨MA292, (by decide)⟩ hp) (fun rv_ M_ hq_ => ?_)
  obtain ⟨rfl, rfl⟩ := hq_
  refine E_aload_n (pc := 170) rfl dX12_image_170 ?_
  refine E_aload_n (pc := 171) rfl dX12_image_171 ?_
  refine R_getR (pc := 172) (b := 256) f12_34 dX12_image_172 (ent_st MO247) (by decide) rfl rfl ?_
  refine E_iconst (pc := 175) 0 rfl dX12_image_175 ?_
  refine E_aload_n (pc := 176) rfl dX12_image_176 ?_
  refine R_getR (pc := 177) (b := 292) f12_147 dX12_image_177 (ent_st MO247) (by decide) rfl rfl ?_
  refine E_bipush (pc := 180) (nI 16) (by decide) dX12_image_180 ?_
  refine E_bipush (pc := 182) (nI 16) (by decide) dX12_image_182 ?_
  obtain ⟨s13, hp, h⟩ := bd_some h
  refine E_callV (pc := 184) (As := [_, _, _, _, _]) (fc := (0, 0)) s12_343_12 oX12_pour dX12_image_184 (mem_ob (ent_st MO247)) rfl rfl (Nat.le_of_ble_eq_true rfl) rfl rfl (by decide) (e_X12_pour ⟨MA256, (by decide)⟩ ⟨MA292, (by decide)⟩ hp) (fun rv_ M_ hq_ => ?_)
  obtain ⟨rfl, rfl⟩ := hq_
  refine E_aload_n (pc := 187) rfl dX12_image_187 ?_
  refine E_aload_n (pc := 188) rfl dX12_image_188 ?_
  refine R_getR (pc := 189) (b := 257) f12_37 dX12_image_189 (ent_st MO247) (by decide) rfl rfl ?_
  refine E_iconst (pc := 192) 0 rfl dX12_image_192 ?_
  refine E_aload_n (pc := 193) rfl dX12_image_193 ?_
  refine R_getR (pc := 194) (b := 292) f12_147 dX12_image_194 (ent_st MO247) (by decide) rfl rfl ?_
  refine E_bipush (pc := 197) (nI 32) (by decide) dX12_image_197 ?_
  refine E_bipush (pc := 199) (nI 16) (by decide) dX12_image_199 ?_
  obtain ⟨s14, hp, h⟩ := bd_some h
  refine E_callV (pc := 201) (As := [_, _, _, _, _]) (fc := (0, 0)) s12_343_12 oX12_pour dX12_image_201 (mem_ob (ent_st MO247)) rfl rfl (Nat.le_of_ble_eq_true rfl) rfl rfl (by decide) (e_X12_pour ⟨MA257, (by decide)⟩ ⟨MA292, (by decide)⟩ hp) (fun rv_ M_ hq_ => ?_)
  obtain ⟨rfl, rfl⟩ := hq_
  refine E_aload_n (pc := 204) rfl dX12_image_204 ?_
  refine E_aload_n (pc := 205) rfl dX12_image_205 ?_
  refine R_getR (pc := 206) (b := 258) f12_40 dX12_image_206 (ent_st MO247) (by decide) rfl rfl ?_
  refine E_iconst (pc := 209) 0 rfl dX12_image_209 ?_
  refine E_aload_n (pc := 210) rfl dX12_image_210 ?_
  refine R_getR (pc := 211) (b := 292) f12_147 dX12_image_211 (ent_st MO247) (by decide) rfl rfl ?_
  refine E_bipush (pc := 214) (nI 48) (by decide) dX12_image_214 ?_
  refine E_bipush (pc := 216) (nI 16) (by decide) dX12_image_216 ?_
  obtain ⟨s15, hp, h⟩ := bd_some h
  refine E_callV (pc := 218) (As := [_, _, _, _, _]) (fc := (0, 0)) s12_343_12 oX12_pour dX12_image_218 (mem_ob (ent_st MO247)) rfl rfl (Nat.le_of_ble_eq_true rfl) rfl rfl (by decide) (e_X12_pour ⟨MA258, (by decide)⟩ ⟨MA292, (by decide)⟩ hp) (fun rv_ M_ hq_ => ?_)
  obtain ⟨rfl, rfl⟩ := hq_
  refine E_aload_n (pc := 221) rfl dX12_image_221 ?_
  refine E_aload_n (pc := 222) rfl dX12_image_222 ?_
  refine R_getR (pc := 223) (b := 259) f12_43 dX12_image_223 (ent_st MO247) (by decide) rfl rfl ?_
  refine E_iconst (pc := 226) 0 rfl dX12_image_226 ?_
  refine E_aload_n (pc := 227) rfl dX12_image_227 ?_
  refine R_getR (pc := 228) (b := 292) f12_147 dX12_image_228 (ent_st MO247) (by decide) rfl rfl ?_
  refine E_bipush (pc := 231) (nI 64) (by decide) dX12_image_231 ?_
  refine E_bipush (pc := 233) (nI 16) (by decide) dX12_image_233 ?_
  obtain ⟨s16, hp, h⟩ := bd_some h
  refine E_callV (pc := 235) (As := [_, _, _, _, _]) (fc := (0, 0)) s12_343_12 oX12_pour dX12_image_235 (mem_ob (ent_st MO247)) rfl rfl (Nat.le_of_ble_eq_true rfl) rfl rfl (by decide) (e_X12_pour ⟨MA259, (by decide)⟩ ⟨MA292, (by decide)⟩ hp) (fun rv_ M_ hq_ => ?_)
  obtain ⟨rfl, rfl⟩ := hq_
  refine E_aload_n (pc := 238) rfl dX12_image_238 ?_
  refine E_aload_n (pc := 239) rfl dX12_image_239 ?_
  refine R_getR (pc := 240) (b := 260) f12_46 dX12_image_240 (ent_st MO247) (by decide) rfl rfl ?_
  refine E_iconst (pc := 243) 0 rfl dX12_image_243 ?_
  refine E_aload_n (pc := 244) rfl dX12_image_244 ?_
  refine R_getR (pc := 245) (b := 292) f12_147 dX12_image_245 (ent_st MO247) (by decide) rfl rfl ?_
  refine E_bipush (pc := 248) (nI 80) (by decide) dX12_image_248 ?_
  refine E_bipush (pc := 250) (nI 16) (by decide) dX12_image_250 ?_
  obtain ⟨s17, hp, h⟩ := bd_some h
  refine E_callV (pc := 252) (As := [_, _, _, _, _]) (fc := (0, 0)) s12_343_12 oX12_pour dX12_image_252 (mem_ob (ent_st MO247)) rfl rfl (Nat.le_of_ble_eq_true rfl) rfl rfl (by decide) (e_X12_pour ⟨MA260, (by decide)⟩ ⟨MA292, (by decide)⟩ hp) (fun rv_ M_ hq_ => ?_)
  obtain ⟨rfl, rfl⟩ := hq_
  refine E_aload_n (pc := 255) rfl dX12_image_255 ?_
  refine E_aload_n (pc := 256) rfl dX12_image_256 ?_
  refine R_getR (pc := 257) (b := 261) f12_49 dX12_image_257 (ent_st MO247) (by decide) rfl rfl ?_
  refine E_iconst (pc := 260) 0 rfl dX12_image_260 ?_
  refine E_aload_n (pc := 261) rfl dX12_image_261 ?_
  refine R_getR (pc := 262) (b := 292) f12_147 dX12_image_262 (ent_st MO247) (by decide) rfl rfl ?_
  refine E_bipush (pc := 265) (nI 96) (by decide) dX12_image_265 ?_
  refine E_bipush (pc := 267) (nI 16) (by decide) dX12_image_267 ?_
  obtain ⟨s18, hp, h⟩ := bd_some h
  refine E_callV (pc := 269) (As := [_, _, _, _, _]) (fc := (0, 0)) s12_343_12 oX12_pour dX12_image_269 (mem_ob (ent_st MO247)) rfl rfl (Nat.le_of_ble_eq_true rfl) rfl rfl (by decide) (e_X12_pour ⟨MA261, (by decide)⟩ ⟨MA292, (by decide)⟩ hp) (fun rv_ M_ hq_ => ?_)
  obtain ⟨rfl, rfl⟩ := hq_
  refine E_aload_n (pc := 272) rfl dX12_image_272 ?_
  refine E_aload_n (pc := 273) rfl dX12_image_273 ?_
  refine R_getR (pc := 274) (b := 262) f12_52 dX12_image_274 (ent_st MO247) (by decide) rfl rfl ?_
  refine E_iconst (pc := 277) 0 rfl dX12_image_277 ?_
  refine E_aload_n (pc := 278) rfl dX12_image_278 ?_
  refine R_getR (pc := 279) (b := 293) f12_150 dX12_image_279 (ent_st MO247) (by decide) rfl rfl ?_
  refine E_iconst (pc := 282) 0 rfl dX12_image_282 ?_
  refine E_bipush (pc := 283) (nI 6) (by decide) dX12_image_283 ?_
  obtain ⟨s19, hp, h⟩ := bd_some h
  refine E_callV (pc := 285) (As := [_, _, _, _, _]) (fc := (0, 0)) s12_343_12 oX12_pour dX12_image_285 (mem_ob (ent_st MO247)) rfl rfl (Nat.le_of_ble_eq_true rfl) rfl rfl (by decide) (e_X12_pour ⟨MA262, (by decide)⟩ ⟨MA293, (by decide)⟩ hp) (fun rv_ M_ hq_ => ?_)
  obtain ⟨rfl, rfl⟩ := hq_
  refine E_aload_n (pc := 288) rfl dX12_image_288 ?_
  refine R_getI (pc := 289) f12_165 dX12_image_289 (ent_st MO247) (by decide) rfl ?_
  exact E_ireturn (pc := 292) rfl rfl dX12_image_292 (QI_of h)
noncomputable def f_X12_restore_299 : Nat → Int32 → ST → Option (Int32 × ST)
  | 0, _, _ => none
  | n + 1, x1, sg =>
    if x1 < (nI 8) then
    (bd2 (f_X12_holdsPiece x1 sg) fun v23 s22 =>
    if v23 = 0 then
    ((f_X12_restore_299 n) (x1 + nI 1) s22)
    else ((rdI s22 263 8 x1).bind fun v24 =>
    if v24 < (s22.1 247 9) then
    ((f_X12_restore_299 n) (x1 + nI 1) s22)
    else ((wrI s22 263 8 x1 (-1)).bind fun s25 =>
    (f_X12_restore_299 n) (x1 + nI 1) s25)))
    else (some ((sg.1 247 9), sg))
theorem e_X12_restore_299 {G : GP} {v : Int32} {s : ST}  : ∀ (n : Nat) {x1 : Int32} {sg : ST}, f_X12_restore_299 n x1 sg = some (v, s) → E G mX12_restore (1, 26) 299 [.ref 247, .int x1] [] (mem sg) (QI v s) := by
  intro n
  induction n with
  | zero => intro _ _ h; rw [f_X12_restore_299] at h; cases h
  | succ n ih =>
    intro x1 sg h
    rw [f_X12_restore_299] at h
    refine E_iload_n (pc := 299) rfl dX12_restore_299 ?_
    refine E_bipush (pc := 300) (nI 8) (by decide) dX12_restore_300 ?_
    refine T_icmp_ge (pc := 302) 339 dX12_restore_302 (by decide) h (fun h => ?_) (fun h => ?_)
    · refine E_aload_n (pc := 339) rfl dX12_restore_339 ?_
      refine R_getI (pc := 340) f12_165 dX12_restore_340 (ent_st MO247) (by decide) rfl ?_
      exact E_ireturn (pc := 343) rfl rfl dX12_restore_343 (QI_of h)
    · refine E_aload_n (pc := 305) rfl dX12_restore_305 ?_
      refine E_iload_n (pc := 306) rfl dX12_restore_306 ?_
      obtain ⟨v23, s22, hp, h⟩ := bd2_some h
      refine E_callV (pc := 307) (As := [_]) (fc := (0, 0)) s12_185_12 oX12_holdsPiece dX12_restore_307 (mem_ob (ent_st MO247)) rfl rfl (Nat.le_of_ble_eq_true rfl) rfl rfl (by decide) (e_X12_holdsPiece hp) (fun rv_ M_ hq_ => ?_)
      obtain ⟨rfl, rfl⟩ := hq_
      refine T_if_eq (pc := 310) 333 dX12_restore_310 (by decide) h (fun h => ?_) (fun h => ?_)
      · refine T_iinc (pc := 333) (m := 1) (L2 := [_, _]) rfl rfl rfl rfl dX12_restore_333 ?_
        refine E_goto (pc := 336) 299 (by decide) dX12_restore_336 ?_
        exact ih h
      · refine E_aload_n (pc := 313) rfl dX12_restore_313 ?_
        refine R_getR (pc := 314) (b := 263) f12_55 dX12_restore_314 (ent_st MO247) (by decide) rfl rfl ?_
        refine E_iload_n (pc := 317) rfl dX12_restore_317 ?_
        refine T_iald (pc := 318) dX12_restore_318 (ent_st MA263) (by decide) h (fun v24 h => ?_)
        refine E_aload_n (pc := 319) rfl dX12_restore_319 ?_
        refine R_getI (pc := 320) f12_165 dX12_restore_320 (ent_st MO247) (by decide) rfl ?_
        refine T_icmp_lt (pc := 323) 333 dX12_restore_323 (by decide) h (fun h => ?_) (fun h => ?_)
        · refine T_iinc (pc := 333) (m := 1) (L2 := [_, _]) rfl rfl rfl rfl dX12_restore_333 ?_
          refine E_goto (pc := 336) 299 (by decide) dX12_restore_336 ?_
          exact ih h
        · refine E_aload_n (pc := 326) rfl dX12_restore_326 ?_
          refine R_getR (pc := 327) (b := 263) f12_55 dX12_restore_327 (ent_st MO247) (by decide) rfl rfl ?_
          refine E_iload_n (pc := 330) rfl dX12_restore_330 ?_
          refine E_im1 (pc := 331) dX12_restore_331 ?_
          refine T_iast (pc := 332) dX12_restore_332 (ent_st MA263) (by decide) h (fun s25 h => ?_)
          refine T_iinc (pc := 333) (m := 1) (L2 := [_, _]) rfl rfl rfl rfl dX12_restore_333 ?_
          refine E_goto (pc := 336) 299 (by decide) dX12_restore_336 ?_
          exact ih h
noncomputable def f_X12_restore (σ : ST) : Option (Int32 × ST) :=
    if (σ.1 247 53) = 0 then
    (bd2 (f_X12_no (-6) σ) fun v27 s26 =>
    some (v27, s26))
    else ((rdI σ 289 3 (nI 0)).bind fun v1 =>
    (pfI σ 247 0 v1).bind fun s2 =>
    (rdI s2 289 3 (nI 1)).bind fun v3 =>
    (pfI s2 247 4 v3).bind fun s4 =>
    (rdI s4 289 3 (nI 2)).bind fun v5 =>
    (pfI s4 247 9 v5).bind fun s6 =>
    (f_X12_pour 290 620 (nI 0) 248 10 (nI 0) (nI 10) s6).bind fun s7 =>
    (f_X12_pour 290 620 (nI 10) 249 10 (nI 0) (nI 10) s7).bind fun s8 =>
    (f_X12_pour 290 620 (nI 20) 250 600 (nI 0) (nI 600) s8).bind fun s9 =>
    (f_X12_pour 291 378 (nI 0) 251 6 (nI 0) (nI 6) s9).bind fun s10 =>
    (f_X12_pour 291 378 (nI 6) 253 6 (nI 0) (nI 6) s10).bind fun s11 =>
    (f_X12_pour 291 378 (nI 12) 254 6 (nI 0) (nI 6) s11).bind fun s12 =>
    (f_X12_pour 291 378 (nI 18) 252 360 (nI 0) (nI 360) s12).bind fun s13 =>
    (f_X12_pour 292 112 (nI 0) 255 16 (nI 0) (nI 16) s13).bind fun s14 =>
    (f_X12_pour 292 112 (nI 16) 256 16 (nI 0) (nI 16) s14).bind fun s15 =>
    (f_X12_pour 292 112 (nI 32) 257 16 (nI 0) (nI 16) s15).bind fun s16 =>
    (f_X12_pour 292 112 (nI 48) 258 16 (nI 0) (nI 16) s16).bind fun s17 =>
    (f_X12_pour 292 112 (nI 64) 259 16 (nI 0) (nI 16) s17).bind fun s18 =>
    (f_X12_pour 292 112 (nI 80) 260 16 (nI 0) (nI 16) s18).bind fun s19 =>
    (f_X12_pour 292 112 (nI 96) 261 16 (nI 0) (nI 16) s19).bind fun s20 =>
    (f_X12_pour 293 6 (nI 0) 262 6 (nI 0) (nI 6) s20).bind fun s21 =>
    f_X12_restore_299 FU (nI 0) s21)
theorem e_X12_restore {G : GP} {σ : ST} {v : Int32} {s : ST}  (h : f_X12_restore σ = some (v, s)) : E G mX12_restore (1, 26) 0 [.ref 247, D0] [] (mem σ) (QI v s) := by
  unfold f_X12_restore at h
  refine E_aload_n (pc := 0) rfl dX12_restore_0 ?_
  refine R_getI (pc := 1) f12_339 dX12_restore_1 (ent_st MO247) (by decide) rfl ?_
  refine T_if_ne (pc := 4) 14 dX12_restore_4 (by decide) h (fun h => ?_) (fun h => ?_)
  · refine E_aload_n (pc := 14) rfl dX12_restore_14 ?_
    refine E_aload_n (pc := 15) rfl dX12_restore_15 ?_
    refine R_getR (pc := 16) (b := 289) f12_138 dX12_restore_16 (ent_st MO247) (by decide) rfl rfl ?_
    refine E_iconst (pc := 19) 0 rfl dX12_restore_19 ?_
    refine T_iald (pc := 20) dX12_restore_20 (ent_st MA289) (by decide) h (fun v1 h => ?_)
    refine T_putI (pc := 21) f12_159 dX12_restore_21 (ent_st MO247) (by decide) rfl (by decide +kernel) h (fun s2 h => ?_)
    refine E_aload_n (pc := 24) rfl dX12_restore_24 ?_
    refine E_aload_n (pc := 25) rfl dX12_restore_25 ?_
    refine R_getR (pc := 26) (b := 289) f12_138 dX12_restore_26 (ent_st MO247) (by decide) rfl rfl ?_
    refine E_iconst (pc := 29) 1 rfl dX12_restore_29 ?_
    refine T_iald (pc := 30) dX12_restore_30 (ent_st MA289) (by decide) h (fun v3 h => ?_)
    refine T_putI (pc := 31) f12_162 dX12_restore_31 (ent_st MO247) (by decide) rfl (by decide +kernel) h (fun s4 h => ?_)
    refine E_aload_n (pc := 34) rfl dX12_restore_34 ?_
    refine E_aload_n (pc := 35) rfl dX12_restore_35 ?_
    refine R_getR (pc := 36) (b := 289) f12_138 dX12_restore_36 (ent_st MO247) (by decide) rfl rfl ?_
    refine E_iconst (pc := 39) 2 rfl dX12_restore_39 ?_
    refine T_iald (pc := 40) dX12_restore_40 (ent_st MA289) (by decide) h (fun v5 h => ?_)
    refine T_putI (pc := 41) f12_165 dX12_restore_41 (ent_st MO247) (by decide) rfl (by decide +kernel) h (fun s6 h => ?_)
    refine E_aload_n (pc := 44) rfl dX12_restore_44 ?_
    refine E_aload_n (pc := 45) rfl dX12_restore_45 ?_
    refine R_getR (pc := 46) (b := 290) f12_141 dX12_restore_46 (ent_st MO247) (by decide) rfl rfl ?_
    refine E_iconst (pc := 49) 0 rfl dX12_restore_49 ?_
    refine E_aload_n (pc := 50) rfl dX12_restore_50 ?_
    refine R_getR (pc := 51) (b := 248) f12_7 dX12_restore_51 (ent_st MO247) (by decide) rfl rfl ?_
    refine E_iconst (pc := 54) 0 rfl dX12_restore_54 ?_
    refine E_bipush (pc := 55) (nI 10) (by decide) dX12_restore_55 ?_
    obtain ⟨s7, hp, h⟩ := bd_some h
    refine E_callV (pc := 57) (As := [_, _, _, _, _]) (fc := (0, 0)) s12_343_12 oX12_pour dX12_restore_57 (mem_ob (ent_st MO247)) rfl rfl (Nat.le_of_ble_eq_true rfl) rfl rfl (by decide) (e_X12_pour ⟨MA290, (by decide)⟩ ⟨MA248, (by decide)⟩ hp) (fun rv_ M_ hq_ => ?_)
    obtain ⟨rfl, rfl⟩ := hq_
    refine E_aload_n (pc := 60) rfl dX12_restore_60 ?_
    refine E_aload_n (pc := 61) rfl dX12_restore_61 ?_
    refine R_getR (pc := 62) (b := 290) f12_141 dX12_restore_62 (ent_st MO247) (by decide) rfl rfl ?_
    refine E_bipush (pc := 65) (nI 10) (by decide) dX12_restore_65 ?_
    refine E_aload_n (pc := 67) rfl dX12_restore_67 ?_
    refine R_getR (pc := 68) (b := 249) f12_13 dX12_restore_68 (ent_st MO247) (by decide) rfl rfl ?_
    refine E_iconst (pc := 71) 0 rfl dX12_restore_71 ?_
    refine E_bipush (pc := 72) (nI 10) (by decide) dX12_restore_72 ?_
    obtain ⟨s8, hp, h⟩ := bd_some h
    refine E_callV (pc := 74) (As := [_, _, _, _, _]) (fc := (0, 0)) s12_343_12 oX12_pour dX12_restore_74 (mem_ob (ent_st MO247)) rfl rfl (Nat.le_of_ble_eq_true rfl) rfl rfl (by decide) (e_X12_pour ⟨MA290, (by decide)⟩ ⟨MA249, (by decide)⟩ hp) (fun rv_ M_ hq_ => ?_)
    obtain ⟨rfl, rfl⟩ := hq_
    refine E_aload_n (pc := 77) rfl dX12_restore_77 ?_
    refine E_aload_n (pc := 78) rfl dX12_restore_78 ?_
    refine R_getR (pc := 79) (b := 290) f12_141 dX12_restore_79 (ent_st MO247) (by decide) rfl rfl ?_
    refine E_bipush (pc := 82) (nI 20) (by decide) dX12_restore_82 ?_
    refine E_aload_n (pc := 84) rfl dX12_restore_84 ?_
    refine R_getR (pc := 85) (b := 250) f12_16 dX12_restore_85 (ent_st MO247) (by decide) rfl rfl ?_
    refine E_iconst (pc := 88) 0 rfl dX12_restore_88 ?_
    refine E_sipush (pc := 89) (nI 600) (by decide) dX12_restore_89 ?_
    obtain ⟨s9, hp, h⟩ := bd_some h
    refine E_callV (pc := 92) (As := [_, _, _, _, _]) (fc := (0, 0)) s12_343_12 oX12_pour dX12_restore_92 (mem_ob (ent_st MO247)) rfl rfl (Nat.le_of_ble_eq_true rfl) rfl rfl (by decide) (e_X12_pour ⟨MA290, (by decide)⟩ ⟨MA250, (by decide)⟩ hp) (fun rv_ M_ hq_ => ?_)
    obtain ⟨rfl, rfl⟩ := hq_
    refine E_aload_n (pc := 95) rfl dX12_restore_95 ?_
    refine E_aload_n (pc := 96) rfl dX12_restore_96 ?_
    refine R_getR (pc := 97) (b := 291) f12_144 dX12_restore_97 (ent_st MO247) (by decide) rfl rfl ?_
    refine E_iconst (pc := 100) 0 rfl dX12_restore_100 ?_
    refine E_aload_n (pc := 101) rfl dX12_restore_101 ?_
    refine R_getR (pc := 102) (b := 251) f12_19 dX12_restore_102 (ent_st MO247) (by decide) rfl rfl ?_
    refine E_iconst (pc := 105) 0 rfl dX12_restore_105 ?_
    refine E_bipush (pc := 106) (nI 6) (by decide) dX12_restore_106 ?_
    obtain ⟨s10, hp, h⟩ := bd_some h
    refine E_callV (pc := 108) (As := [_, _, _, _, _]) (fc := (0, 0)) s12_343_12 oX12_pour dX12_restore_108 (mem_ob (ent_st MO247)) rfl rfl (Nat.le_of_ble_eq_true rfl) rfl rfl (by decide) (e_X12_pour ⟨MA291, (by decide)⟩ ⟨MA251, (by decide)⟩ hp) (fun rv_ M_ hq_ => ?_)
    obtain ⟨rfl, rfl⟩ := hq_
    refine E_aload_n (pc := 111) rfl dX12_restore_111 ?_
    refine E_aload_n (pc := 112) rfl dX12_restore_112 ?_
    refine R_getR (pc := 113) (b := 291) f12_144 dX12_restore_113 (ent_st MO247) (by decide) rfl rfl ?_
    refine E_bipush (pc := 116) (nI 6) (by decide) dX12_restore_116 ?_
    refine E_aload_n (pc := 118) rfl dX12_restore_118 ?_
    refine R_getR (pc := 119) (b := 253) f12_25 dX12_restore_119 (ent_st MO247) (by decide) rfl rfl ?_
    refine E_iconst (pc := 122) 0 rfl dX12_restore_122 ?_
    refine E_bipush (pc := 123) (nI 6) (by decide) dX12_restore_123 ?_
    obtain ⟨s11, hp, h⟩ := bd_some h
    refine E_callV (pc := 125) (As := [_, _, _, _, _]) (fc := (0, 0)) s12_343_12 oX12_pour dX12_restore_125 (mem_ob (ent_st MO247)) rfl rfl (Nat.le_of_ble_eq_true rfl) rfl rfl (by decide) (e_X12_pour ⟨MA291, (by decide)⟩ ⟨MA253, (by decide)⟩ hp) (fun rv_ M_ hq_ => ?_)
    obtain ⟨rfl, rfl⟩ := hq_
    refine E_aload_n (pc := 128) rfl dX12_restore_128 ?_
    refine E_aload_n (pc := 129) rfl dX12_restore_129 ?_
    refine R_getR (pc := 130) (b := 291) f12_144 dX12_restore_130 (ent_st MO247) (by decide) rfl rfl ?_
    refine E_bipush (pc := 133) (nI 12) (by decide) dX12_restore_133 ?_
    refine E_aload_n (pc := 135) rfl dX12_restore_135 ?_
    refine R_getR (pc := 136) (b := 254) f12_28 dX12_restore_136 (ent_st MO247) (by decide) rfl rfl ?_
    refine E_iconst (pc := 139) 0 rfl dX12_restore_139 ?_
    refine E_bipush (pc := 140) (nI 6) (by decide) dX12_restore_140 ?_
    obtain ⟨s12, hp, h⟩ := bd_some h
    refine E_callV (pc := 142) (As := [_, _, _, _, _]) (fc := (0, 0)) s12_343_12 oX12_pour dX12_restore_142 (mem_ob (ent_st MO247)) rfl rfl (Nat.le_of_ble_eq_true rfl) rfl rfl (by decide) (e_X12_pour ⟨MA291, (by decide)⟩ ⟨MA254, (by decide)⟩ hp) (fun rv_ M_ hq_ => ?_)
    obtain ⟨rfl, rfl⟩ := hq_
    refine E_aload_n (pc := 145) rfl dX12_restore_145 ?_
    refine E_aload_n (pc := 146) rfl dX12_restore_146 ?_
    refine R_getR (pc := 147) (b := 291) f12_144 dX12_restore_147 (ent_st MO247) (by decide) rfl rfl ?_
    refine E_bipush (pc := 150) (nI 18) (by decide) dX12_restore_150 ?_
    refine E_aload_n (pc := 152) rfl dX12_restore_152 ?_
    refine R_getR (pc := 153) (b := 252) f12_22 dX12_restore_153 (ent_st MO247) (by decide) rfl rfl ?_
    refine E_iconst (pc := 156) 0 rfl dX12_restore_156 ?_
    refine E_sipush (pc := 157) (nI 360) (by decide) dX12_restore_157 ?_
    obtain ⟨s13, hp, h⟩ := bd_some h
    refine E_callV (pc := 160) (As := [_, _, _, _, _]) (fc := (0, 0)) s12_343_12 oX12_pour dX12_restore_160 (mem_ob (ent_st MO247)) rfl rfl (Nat.le_of_ble_eq_true rfl) rfl rfl (by decide) (e_X12_pour ⟨MA291, (by decide)⟩ ⟨MA252, (by decide)⟩ hp) (fun rv_ M_ hq_ => ?_)
    obtain ⟨rfl, rfl⟩ := hq_
    refine E_aload_n (pc := 163) rfl dX12_restore_163 ?_
    refine E_aload_n (pc := 164) rfl dX12_restore_164 ?_
    refine R_getR (pc := 165) (b := 292) f12_147 dX12_restore_165 (ent_st MO247) (by decide) rfl rfl ?_
    refine E_iconst (pc := 168) 0 rfl dX12_restore_168 ?_
    refine E_aload_n (pc := 169) rfl dX12_restore_169 ?_
    refine R_getR (pc := 170) (b := 255) f12_31 dX12_restore_170 (ent_st MO247) (by decide) rfl rfl ?_
    refine E_iconst (pc := 173) 0 rfl dX12_restore_173 ?_
    refine E_bipush (pc := 174) (nI 16) (by decide) dX12_restore_174 ?_
    obtain ⟨s14, hp, h⟩ := bd_some h
    refine E_callV (pc := 176) (As := [_, _, _, _, _]) (fc := (0, 0)) s12_343_12 oX12_pour dX12_restore_176 (mem_ob (ent_st MO247)) rfl rfl (Nat.le_of_ble_eq_true rfl) rfl rfl (by decide) (e_X12_pour ⟨MA292, (by decide)⟩ ⟨MA255, (by decide)⟩ hp) (fun rv_ M_ hq_ => ?_)
    obtain ⟨rfl, rfl⟩ := hq_
    refine E_aload_n (pc := 179) rfl dX12_restore_179 ?_
    refine E_aload_n (pc := 180) rfl dX12_restore_180 ?_
    refine R_getR (pc := 181) (b := 292) f12_147 dX12_restore_181 (ent_st MO247) (by decide) rfl rfl ?_
    refine E_bipush (pc := 184) (nI 16) (by decide) dX12_restore_184 ?_
    refine E_aload_n (pc := 186) rfl dX12_restore_186 ?_
    refine R_getR (pc := 187) (b := 256) f12_34 dX12_restore_187 (ent_st MO247) (by decide) rfl rfl ?_
    refine E_iconst (pc := 190) 0 rfl dX12_restore_190 ?_
    refine E_bipush (pc := 191) (nI 16) (by decide) dX12_restore_191 ?_
    obtain ⟨s15, hp, h⟩ := bd_some h
    refine E_callV (pc := 193) (As := [_, _, _, _, _]) (fc := (0, 0)) s12_343_12 oX12_pour dX12_restore_193 (mem_ob (ent_st MO247)) rfl rfl (Nat.le_of_ble_eq_true rfl) rfl rfl (by decide) (e_X12_pour ⟨MA292, (by decide)⟩ ⟨MA256, (by decide)⟩ hp) (fun rv_ M_ hq_ => ?_)
    obtain ⟨rfl, rfl⟩ := hq_
    refine E_aload_n (pc := 196) rfl dX12_restore_196 ?_
    refine E_aload_n (pc := 197) rfl dX12_restore_197 ?_
    refine R_getR (pc := 198) (b := 292) f12_147 dX12_restore_198 (ent_st MO247) (by decide) rfl rfl ?_
    refine E_bipush (pc := 201) (nI 32) (by decide) dX12_restore_201 ?_
    refine E_aload_n (pc := 203) rfl dX12_restore_203 ?_
    refine R_getR (pc := 204) (b := 257) f12_37 dX12_restore_204 (ent_st MO247) (by decide) rfl rfl ?_
    refine E_iconst (pc := 207) 0 rfl dX12_restore_207 ?_
    refine E_bipush (pc := 208) (nI 16) (by decide) dX12_restore_208 ?_
    obtain ⟨s16, hp, h⟩ := bd_some h
    refine E_callV (pc := 210) (As := [_, _, _, _, _]) (fc := (0, 0)) s12_343_12 oX12_pour dX12_restore_210 (mem_ob (ent_st MO247)) rfl rfl (Nat.le_of_ble_eq_true rfl) rfl rfl (by decide) (e_X12_pour ⟨MA292, (by decide)⟩ ⟨MA257, (by decide)⟩ hp) (fun rv_ M_ hq_ => ?_)
    obtain ⟨rfl, rfl⟩ := hq_
    refine E_aload_n (pc := 213) rfl dX12_restore_213 ?_
    refine E_aload_n (pc := 214) rfl dX12_restore_214 ?_
    refine R_getR (pc := 215) (b := 292) f12_147 dX12_restore_215 (ent_st MO247) (by decide) rfl rfl ?_
    refine E_bipush (pc := 218) (nI 48) (by decide) dX12_restore_218 ?_
    refine E_aload_n (pc := 220) rfl dX12_restore_220 ?_
    refine R_getR (pc := 221) (b := 258) f12_40 dX12_restore_221 (ent_st MO247) (by decide) rfl rfl ?_
    refine E_iconst (pc := 224) 0 rfl dX12_restore_224 ?_
    refine E_bipush (pc := 225) (nI 16) (by decide) dX12_restore_225 ?_
    obtain ⟨s17, hp, h⟩ := bd_some h
    refine E_callV (pc := 227) (As := [_, _, _, _, _]) (fc := (0, 0)) s12_343_12 oX12_pour dX12_restore_227 (mem_ob (ent_st MO247)) rfl rfl (Nat.le_of_ble_eq_true rfl) rfl rfl (by decide) (e_X12_pour ⟨MA292, (by decide)⟩ ⟨MA258, (by decide)⟩ hp) (fun rv_ M_ hq_ => ?_)
    obtain ⟨rfl, rfl⟩ := hq_
    refine E_aload_n (pc := 230) rfl dX12_restore_230 ?_
    refine E_aload_n (pc := 231) rfl dX12_restore_231 ?_
    refine R_getR (pc := 232) (b := 292) f12_147 dX12_restore_232 (ent_st MO247) (by decide) rfl rfl ?_
    refine E_bipush (pc := 235) (nI 64) (by decide) dX12_restore_235 ?_
    refine E_aload_n (pc := 237) rfl dX12_restore_237 ?_
    refine R_getR (pc := 238) (b := 259) f12_43 dX12_restore_238 (ent_st MO247) (by decide) rfl rfl ?_
    refine E_iconst (pc := 241) 0 rfl dX12_restore_241 ?_
    refine E_bipush (pc := 242) (nI 16) (by decide) dX12_restore_242 ?_
    obtain ⟨s18, hp, h⟩ := bd_some h
    refine E_callV (pc := 244) (As := [_, _, _, _, _]) (fc := (0, 0)) s12_343_12 oX12_pour dX12_restore_244 (mem_ob (ent_st MO247)) rfl rfl (Nat.le_of_ble_eq_true rfl) rfl rfl (by decide) (e_X12_pour ⟨MA292, (by decide)⟩ ⟨MA259, (by decide)⟩ hp) (fun rv_ M_ hq_ => ?_)
    obtain ⟨rfl, rfl⟩ := hq_
    refine E_aload_n (pc := 247) rfl dX12_restore_247 ?_
    refine E_aload_n (pc := 248) rfl dX12_restore_248 ?_
    refine R_getR (pc := 249) (b := 292) f12_147 dX12_restore_249 (ent_st MO247) (by decide) rfl rfl ?_
    refine E_bipush (pc := 252) (nI 80) (by decide) dX12_restore_252 ?_
    refine E_aload_n (pc := 254) rfl dX12_restore_254 ?_
    refine R_getR (pc := 255) (b := 260) f12_46 dX12_restore_255 (ent_st MO247) (by decide) rfl rfl ?_
    refine E_iconst (pc := 258) 0 rfl dX12_restore_258 ?_
    refine E_bipush (pc := 259) (nI 16) (by decide) dX12_restore_259 ?_
    obtain ⟨s19, hp, h⟩ := bd_some h
    refine E_callV (pc := 261) (As := [_, _, _, _, _]) (fc := (0, 0)) s12_343_12 oX12_pour dX12_restore_261 (mem_ob (ent_st MO247)) rfl rfl (Nat.le_of_ble_eq_true rfl) rfl rfl (by decide) (e_X12_pour ⟨MA292, (by decide)⟩ ⟨MA260, (by decide)⟩ hp) (fun rv_ M_ hq_ => ?_)
    obtain ⟨rfl, rfl⟩ := hq_
    refine E_aload_n (pc := 264) rfl dX12_restore_264 ?_
    refine E_aload_n (pc := 265) rfl dX12_restore_265 ?_
    refine R_getR (pc := 266) (b := 292) f12_147 dX12_restore_266 (ent_st MO247) (by decide) rfl rfl ?_
    refine E_bipush (pc := 269) (nI 96) (by decide) dX12_restore_269 ?_
    refine E_aload_n (pc := 271) rfl dX12_restore_271 ?_
    refine R_getR (pc := 272) (b := 261) f12_49 dX12_restore_272 (ent_st MO247) (by decide) rfl rfl ?_
    refine E_iconst (pc := 275) 0 rfl dX12_restore_275 ?_
    refine E_bipush (pc := 276) (nI 16) (by decide) dX12_restore_276 ?_
    obtain ⟨s20, hp, h⟩ := bd_some h
    refine E_callV (pc := 278) (As := [_, _, _, _, _]) (fc := (0, 0)) s12_343_12 oX12_pour dX12_restore_278 (mem_ob (ent_st MO247)) rfl rfl (Nat.le_of_ble_eq_true rfl) rfl rfl (by decide) (e_X12_pour ⟨MA292, (by decide)⟩ ⟨MA261, (by decide)⟩ hp) (fun rv_ M_ hq_ => ?_)
    obtain ⟨rfl, rfl⟩ := hq_
    refine E_aload_n (pc := 281) rfl dX12_restore_281 ?_
    refine E_aload_n (pc := 282) rfl dX12_restore_282 ?_
    refine R_getR (pc := 283) (b := 293) f12_150 dX12_restore_283 (ent_st MO247) (by decide) rfl rfl ?_
    refine E_iconst (pc := 286) 0 rfl dX12_restore_286 ?_
    refine E_aload_n (pc := 287) rfl dX12_restore_287 ?_
    refine R_getR (pc := 288) (b := 262) f12_52 dX12_restore_288 (ent_st MO247) (by decide) rfl rfl ?_
    refine E_iconst (pc := 291) 0 rfl dX12_restore_291 ?_
    refine E_bipush (pc := 292) (nI 6) (by decide) dX12_restore_292 ?_
    obtain ⟨s21, hp, h⟩ := bd_some h
    refine E_callV (pc := 294) (As := [_, _, _, _, _]) (fc := (0, 0)) s12_343_12 oX12_pour dX12_restore_294 (mem_ob (ent_st MO247)) rfl rfl (Nat.le_of_ble_eq_true rfl) rfl rfl (by decide) (e_X12_pour ⟨MA293, (by decide)⟩ ⟨MA262, (by decide)⟩ hp) (fun rv_ M_ hq_ => ?_)
    obtain ⟨rfl, rfl⟩ := hq_
    refine E_iconst (pc := 297) 0 rfl dX12_restore_297 ?_
    refine E_istore_n (pc := 298) (L2 := [_, _]) rfl rfl dX12_restore_298 ?_
    refine e_X12_restore_299  FU h
  · refine E_aload_n (pc := 7) rfl dX12_restore_7 ?_
    refine E_bipush (pc := 8) (-6) (by decide) dX12_restore_8 ?_
    obtain ⟨v27, s26, hp, h⟩ := bd2_some h
    refine E_callV (pc := 10) (As := [_]) (fc := (0, 0)) s12_175_12 oX12_no dX12_restore_10 (mem_ob (ent_st MO247)) rfl rfl (Nat.le_of_ble_eq_true rfl) rfl rfl (by decide) (e_X12_no hp) (fun rv_ M_ hq_ => ?_)
    obtain ⟨rfl, rfl⟩ := hq_
    exact E_ireturn (pc := 13) rfl rfl dX12_restore_13 (QI_of h)
noncomputable def f_X12_status_60 : Nat → Int32 → Int32 → ST → Option (Int32 × ST)
  | 0, _, _, _ => none
  | n + 1, x2, x3, sg =>
    if x3 < (sg.1 247 9) then
    ((rdI sg 261 16 x3).bind fun v1 =>
    (f_X12_status_60 n) (x2 + v1) (x3 + nI 1) sg)
    else (some (x2, sg))
theorem e_X12_status_60 {G : GP} {v : Int32} {s : ST}  : ∀ (n : Nat) {x2 : Int32} {x3 : Int32} {sg : ST}, f_X12_status_60 n x2 x3 sg = some (v, s) → E G mX12_status (0, 0) 60 [.ref 247, D0, .int x2, .int x3] [] (mem sg) (QI v s) := by
  intro n
  induction n with
  | zero => intro _ _ _ h; rw [f_X12_status_60] at h; cases h
  | succ n ih =>
    intro x2 x3 sg h
    rw [f_X12_status_60] at h
    refine E_iload_n (pc := 60) rfl dX12_status_60 ?_
    refine E_aload_n (pc := 61) rfl dX12_status_61 ?_
    refine R_getI (pc := 62) f12_165 dX12_status_62 (ent_st MO247) (by decide) rfl ?_
    refine T_icmp_ge (pc := 65) 83 dX12_status_65 (by decide) h (fun h => ?_) (fun h => ?_)
    · refine E_iload_n (pc := 83) rfl dX12_status_83 ?_
      exact E_ireturn (pc := 84) rfl rfl dX12_status_84 (QI_of h)
    · refine E_iload_n (pc := 68) rfl dX12_status_68 ?_
      refine E_aload_n (pc := 69) rfl dX12_status_69 ?_
      refine R_getR (pc := 70) (b := 261) f12_49 dX12_status_70 (ent_st MO247) (by decide) rfl rfl ?_
      refine E_iload_n (pc := 73) rfl dX12_status_73 ?_
      refine T_iald (pc := 74) dX12_status_74 (ent_st MA261) (by decide) h (fun v1 h => ?_)
      refine E_iadd (pc := 75) dX12_status_75 ?_
      refine E_istore_n (pc := 76) (L2 := [_, _, _, _]) rfl rfl dX12_status_76 ?_
      refine T_iinc (pc := 77) (m := 1) (L2 := [_, _, _, _]) rfl rfl rfl rfl dX12_status_77 ?_
      refine E_goto (pc := 80) 60 (by decide) dX12_status_80 ?_
      exact ih h
noncomputable def f_X12_status_22 (x1 : Int32) (sg : ST) : Option (Int32 × ST) :=
    if x1 = 0 then
    (some ((sg.1 247 0), sg))
    else (if x1 = (nI 1) then
    (some ((sg.1 247 4), sg))
    else (if x1 = (nI 2) then
    (some ((sg.1 247 9), sg))
    else (if x1 = (nI 3) then
    (f_X12_status_60 FU (nI 0) (nI 0) sg)
    else (if x1 = (nI 4) then
    (some ((sg.1 247 52), sg))
    else (some ((-1), sg))))))
theorem e_X12_status_22 {G : GP} {x1 : Int32} {sg : ST} {v : Int32} {s : ST}  (h : f_X12_status_22 x1 sg = some (v, s)) : E G mX12_status (0, 0) 22 [.ref 247, .int x1, D0, D0] [] (mem sg) (QI v s) := by
  unfold f_X12_status_22 at h
  refine E_iload_n (pc := 22) rfl dX12_status_22 ?_
  refine T_if_ne (pc := 23) 31 dX12_status_23 (by decide) h (fun h => ?_) (fun h => ?_)
  · refine E_iload_n (pc := 31) rfl dX12_status_31 ?_
    refine E_iconst (pc := 32) 1 rfl dX12_status_32 ?_
    refine T_icmp_ne (pc := 33) 41 dX12_status_33 (by decide) h (fun h => ?_) (fun h => ?_)
    · refine E_iload_n (pc := 41) rfl dX12_status_41 ?_
      refine E_iconst (pc := 42) 2 rfl dX12_status_42 ?_
      refine T_icmp_ne (pc := 43) 51 dX12_status_43 (by decide) h (fun h => ?_) (fun h => ?_)
      · refine E_iload_n (pc := 51) rfl dX12_status_51 ?_
        refine E_iconst (pc := 52) 3 rfl dX12_status_52 ?_
        refine T_icmp_ne (pc := 53) 85 dX12_status_53 (by decide) h (fun h => ?_) (fun h => ?_)
        · refine E_iload_n (pc := 85) rfl dX12_status_85 ?_
          refine E_iconst (pc := 86) 4 rfl dX12_status_86 ?_
          refine T_icmp_ne (pc := 87) 97 dX12_status_87 (by decide) h (fun h => ?_) (fun h => ?_)
          · refine E_im1 (pc := 97) dX12_status_97 ?_
            exact E_ireturn (pc := 98) rfl rfl dX12_status_98 (QI_of h)
          · refine E_aload_n (pc := 90) rfl dX12_status_90 ?_
            refine R_getI (pc := 91) f12_323 dX12_status_91 (ent_st MO247) (by decide) rfl ?_
            refine E_goto (pc := 94) 98 (by decide) dX12_status_94 ?_
            exact E_ireturn (pc := 98) rfl rfl dX12_status_98 (QI_of h)
        · refine E_iconst (pc := 56) 0 rfl dX12_status_56 ?_
          refine E_istore_n (pc := 57) (L2 := [_, _, _, _]) rfl rfl dX12_status_57 ?_
          refine E_iconst (pc := 58) 0 rfl dX12_status_58 ?_
          refine E_istore_n (pc := 59) (L2 := [_, _, _, _]) rfl rfl dX12_status_59 ?_
          refine E_kp [true, false, true, true] (L2 := [_, D0, _, _]) rfl rfl ?_
          refine e_X12_status_60  FU h
      · refine E_aload_n (pc := 46) rfl dX12_status_46 ?_
        refine R_getI (pc := 47) f12_165 dX12_status_47 (ent_st MO247) (by decide) rfl ?_
        exact E_ireturn (pc := 50) rfl rfl dX12_status_50 (QI_of h)
    · refine E_aload_n (pc := 36) rfl dX12_status_36 ?_
      refine R_getI (pc := 37) f12_162 dX12_status_37 (ent_st MO247) (by decide) rfl ?_
      exact E_ireturn (pc := 40) rfl rfl dX12_status_40 (QI_of h)
  · refine E_aload_n (pc := 26) rfl dX12_status_26 ?_
    refine R_getI (pc := 27) f12_159 dX12_status_27 (ent_st MO247) (by decide) rfl ?_
    exact E_ireturn (pc := 30) rfl rfl dX12_status_30 (QI_of h)
noncomputable def f_X12_status (x1 : Int32) (σ : ST) : Option (Int32 × ST) :=
    if x1 < (nI 11) then
    (f_X12_status_22 x1 σ)
    else (if (nI 17) < x1 then
    (f_X12_status_22 x1 σ)
    else ((rdI σ 294 8 (x1 - (nI 10))).bind fun v2 =>
    some (v2, σ)))
theorem e_X12_status {G : GP} {x1 : Int32} {σ : ST} {v : Int32} {s : ST}  (h : f_X12_status x1 σ = some (v, s)) : E G mX12_status (0, 0) 0 [.ref 247, .int x1, D0, D0] [] (mem σ) (QI v s) := by
  unfold f_X12_status at h
  refine E_iload_n (pc := 0) rfl dX12_status_0 ?_
  refine E_bipush (pc := 1) (nI 11) (by decide) dX12_status_1 ?_
  refine T_icmp_lt (pc := 3) 22 dX12_status_3 (by decide) h (fun h => ?_) (fun h => ?_)
  · refine e_X12_status_22  h
  · refine E_iload_n (pc := 6) rfl dX12_status_6 ?_
    refine E_bipush (pc := 7) (nI 17) (by decide) dX12_status_7 ?_
    refine T_icmp_gt (pc := 9) 22 dX12_status_9 (by decide) h (fun h => ?_) (fun h => ?_)
    · refine e_X12_status_22  h
    · refine E_aload_n (pc := 12) rfl dX12_status_12 ?_
      refine R_getR (pc := 13) (b := 294) f12_153 dX12_status_13 (ent_st MO247) (by decide) rfl rfl ?_
      refine E_iload_n (pc := 16) rfl dX12_status_16 ?_
      refine E_bipush (pc := 17) (nI 10) (by decide) dX12_status_17 ?_
      refine E_isub (pc := 19) dX12_status_19 ?_
      refine T_iald (pc := 20) dX12_status_20 (ent_st MA294) (by decide) h (fun v2 h => ?_)
      exact E_ireturn (pc := 21) rfl rfl dX12_status_21 (QI_of h)
