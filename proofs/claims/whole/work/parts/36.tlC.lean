/-! ===== functions: 36.tlC ===== -/
noncomputable def f_X2_clearCosts_2 (a0 : Nat) : Nat → Int32 → Int32 → ST → Option ST
  | 0, _, _, _ => none
  | n + 1, x1, x2, sg =>
    if x2 < (sg.1 a0 10) then
    ((wrI sg (a0 + 1) 13312 ((x1 * (nI 1024)) + x2) (nI 1048576)).bind fun s1 =>
    (f_X2_clearCosts_2 a0 n) x1 (x2 + nI 1) s1)
    else (some sg)
theorem e_X2_clearCosts_2 {G : GP} {a0 : Nat} {s : ST} (h0 : CU a0) : ∀ (n : Nat) {x1 : Int32} {x2 : Int32} {sg : ST}, f_X2_clearCosts_2 a0 n x1 x2 sg = some s → E G mX2_clearCosts (0, 0) 2 [.ref a0, .int x1, .int x2] [] (mem sg) (QV s) := by
  intro n
  induction n with
  | zero => intro _ _ _ h; rw [f_X2_clearCosts_2] at h; cases h
  | succ n ih =>
    intro x1 x2 sg h
    rw [f_X2_clearCosts_2] at h
    refine E_iload_n (pc := 2) rfl dX2_clearCosts_2 ?_
    refine E_aload_n (pc := 3) rfl dX2_clearCosts_3 ?_
    refine R_getI (pc := 4) f2_32 dX2_clearCosts_4 (ent_st h0.1) (by decide) rfl ?_
    refine T_icmp_ge (pc := 7) 30 dX2_clearCosts_7 (by decide) h (fun h => ?_) (fun h => ?_)
    · exact E_return (pc := 30) rfl dX2_clearCosts_30 (QV_of h)
    · refine E_aload_n (pc := 10) rfl dX2_clearCosts_10 ?_
      refine R_getR (pc := 11) (b := a0 + 1) f2_9 dX2_clearCosts_11 (ent_st h0.1) (by decide) rfl rfl ?_
      refine E_iload_n (pc := 14) rfl dX2_clearCosts_14 ?_
      refine E_sipush (pc := 15) (nI 1024) (by decide) dX2_clearCosts_15 ?_
      refine E_imul (pc := 18) dX2_clearCosts_18 ?_
      refine E_iload_n (pc := 19) rfl dX2_clearCosts_19 ?_
      refine E_iadd (pc := 20) dX2_clearCosts_20 ?_
      refine E_ldc (pc := 21) (v := nI 1048576) q2_93 dX2_clearCosts_21 ?_
      refine T_iast (pc := 23) dX2_clearCosts_23 (ent_st h0.2.1) (by decide) h (fun s1 h => ?_)
      refine T_iinc (pc := 24) (m := 1) (L2 := [_, _, _]) rfl rfl rfl rfl dX2_clearCosts_24 ?_
      refine E_goto (pc := 27) 2 (by decide) dX2_clearCosts_27 ?_
      exact ih h
noncomputable def f_X2_clearCosts (a0 : Nat) (x1 : Int32) (σ : ST) : Option ST :=
    f_X2_clearCosts_2 a0 FU x1 (nI 0) σ
theorem e_X2_clearCosts {G : GP} {a0 : Nat} {x1 : Int32} {σ : ST} {s : ST} (h0 : CU a0) (h : f_X2_clearCosts a0 x1 σ = some s) : E G mX2_clearCosts (0, 0) 0 [.ref a0, .int x1, D0] [] (mem σ) (QV s) := by
  unfold f_X2_clearCosts at h
  refine E_iconst (pc := 0) 0 rfl dX2_clearCosts_0 ?_
  refine E_istore_n (pc := 1) (L2 := [_, _, _]) rfl rfl dX2_clearCosts_1 ?_
  refine e_X2_clearCosts_2 h0 FU h
noncomputable def f_X2_sizeUp (a0 : Nat) (σ : ST) : Option ST :=
    bd2 (f_X10_countOf (nI 1) σ) fun v2 s1 =>
    (pfI s1 a0 7 v2).bind fun s3 =>
    bd2 (f_X10_lowStates s3) fun v5 s4 =>
    (pfI s4 a0 8 v5).bind fun s6 =>
    (pfI s6 a0 9 ((nI 1) <<< ((s6.1 (a0 + 8) 8) &&& 31))).bind fun s7 =>
    (pfI s7 a0 10 ((((s7.1 a0 9) - (nI 1)) <<< ((nI 8) &&& 31)) + (s7.1 a0 8))).bind fun s8 =>
    some s8
theorem e_X2_sizeUp {G : GP} {a0 : Nat} {σ : ST} {s : ST} (h0 : CU a0) (h : f_X2_sizeUp a0 σ = some s) : E G mX2_sizeUp (2, 43) 0 [.ref a0] [] (mem σ) (QV s) := by
  unfold f_X2_sizeUp at h
  refine E_aload_n (pc := 0) rfl dX2_sizeUp_0 ?_
  refine E_aload_n (pc := 1) rfl dX2_sizeUp_1 ?_
  refine R_getR (pc := 2) (b := 2) f2_57 dX2_sizeUp_2 (ent_st h0.1) (by decide) rfl rfl ?_
  refine E_iconst (pc := 5) 1 rfl dX2_sizeUp_5 ?_
  obtain ⟨v2, s1, hp, h⟩ := bd2_some h
  refine E_callV (pc := 6) (As := [_]) (fc := (0, 0)) s2_100_10 oX10_countOf dX2_sizeUp_6 (mem_ob (ent_st WO2.1)) rfl rfl (Nat.le_of_ble_eq_true rfl) rfl rfl (by decide) (e_X10_countOf hp) (fun rv_ M_ hq_ => ?_)
  obtain ⟨rfl, rfl⟩ := hq_
  refine T_putI (pc := 9) f2_22 dX2_sizeUp_9 (ent_st h0.1) (by decide) rfl (by decide +kernel) h (fun s3 h => ?_)
  refine E_aload_n (pc := 12) rfl dX2_sizeUp_12 ?_
  refine E_aload_n (pc := 13) rfl dX2_sizeUp_13 ?_
  refine R_getR (pc := 14) (b := 2) f2_57 dX2_sizeUp_14 (ent_st h0.1) (by decide) rfl rfl ?_
  obtain ⟨v5, s4, hp, h⟩ := bd2_some h
  refine E_callV (pc := 17) (As := []) (fc := (1, 23)) s2_106_10 oX10_lowStates dX2_sizeUp_17 (mem_ob (ent_st WO2.1)) rfl rfl (Nat.le_of_ble_eq_true rfl) rfl rfl (by decide) (e_X10_lowStates hp) (fun rv_ M_ hq_ => ?_)
  obtain ⟨rfl, rfl⟩ := hq_
  refine T_putI (pc := 20) f2_26 dX2_sizeUp_20 (ent_st h0.1) (by decide) rfl (by decide +kernel) h (fun s6 h => ?_)
  refine E_aload_n (pc := 23) rfl dX2_sizeUp_23 ?_
  refine E_iconst (pc := 24) 1 rfl dX2_sizeUp_24 ?_
  refine E_aload_n (pc := 25) rfl dX2_sizeUp_25 ?_
  refine R_getR (pc := 26) (b := a0 + 8) f2_72 dX2_sizeUp_26 (ent_st h0.1) (by decide) rfl rfl ?_
  refine R_getI (pc := 29) f2_110 dX2_sizeUp_29 (ent_st h0.2.2.2.2.2.2.2.2.1) (by decide) rfl ?_
  refine E_ishl (pc := 32) dX2_sizeUp_32 ?_
  refine T_putI (pc := 33) f2_29 dX2_sizeUp_33 (ent_st h0.1) (by decide) rfl (by decide +kernel) h (fun s7 h => ?_)
  refine E_aload_n (pc := 36) rfl dX2_sizeUp_36 ?_
  refine E_aload_n (pc := 37) rfl dX2_sizeUp_37 ?_
  refine R_getI (pc := 38) f2_29 dX2_sizeUp_38 (ent_st h0.1) (by decide) rfl ?_
  refine E_iconst (pc := 41) 1 rfl dX2_sizeUp_41 ?_
  refine E_isub (pc := 42) dX2_sizeUp_42 ?_
  refine E_bipush (pc := 43) (nI 8) (by decide) dX2_sizeUp_43 ?_
  refine E_ishl (pc := 45) dX2_sizeUp_45 ?_
  refine E_aload_n (pc := 46) rfl dX2_sizeUp_46 ?_
  refine R_getI (pc := 47) f2_26 dX2_sizeUp_47 (ent_st h0.1) (by decide) rfl ?_
  refine E_iadd (pc := 50) dX2_sizeUp_50 ?_
  refine T_putI (pc := 51) f2_32 dX2_sizeUp_51 (ent_st h0.1) (by decide) rfl (by decide +kernel) h (fun s8 h => ?_)
  exact E_return (pc := 54) rfl dX2_sizeUp_54 (QV_of h)
noncomputable def f_X2_goesOnAsOne_3 (a0 : Nat) : Nat → Int32 → Int32 → Int32 → ST → Option (Int32 × ST)
  | 0, _, _, _, _ => none
  | n + 1, x1, x3, x4, sg =>
    if x4 < x3 then
    ((rdI sg (a0 + 3) 1024 x4).bind fun v1 =>
    (rdI sg 195 1024 v1).bind fun v2 =>
    (rdI sg 195 1024 x1).bind fun v3 =>
    if (v2 >>> ((nI 10) &&& 31)) = (v3 >>> ((nI 10) &&& 31)) then
    (some ((nI 1), sg))
    else ((f_X2_goesOnAsOne_3 a0 n) x1 x3 (x4 + nI 1) sg))
    else (some ((nI 0), sg))
theorem e_X2_goesOnAsOne_3 {G : GP} {a0 : Nat} {v : Int32} {s : ST} (h0 : CU a0) : ∀ (n : Nat) {x1 : Int32} {x3 : Int32} {x4 : Int32} {sg : ST}, f_X2_goesOnAsOne_3 a0 n x1 x3 x4 sg = some (v, s) → E G mX2_goesOnAsOne (0, 0) 3 [.ref a0, .int x1, D0, .int x3, .int x4] [] (mem sg) (QI v s) := by
  intro n
  induction n with
  | zero => intro _ _ _ _ h; rw [f_X2_goesOnAsOne_3] at h; cases h
  | succ n ih =>
    intro x1 x3 x4 sg h
    rw [f_X2_goesOnAsOne_3] at h
    refine E_iload (pc := 3) rfl dX2_goesOnAsOne_3 ?_
    refine E_iload_n (pc := 5) rfl dX2_goesOnAsOne_5 ?_
    refine T_icmp_ge (pc := 6) 44 dX2_goesOnAsOne_6 (by decide) h (fun h => ?_) (fun h => ?_)
    · refine E_iconst (pc := 44) 0 rfl dX2_goesOnAsOne_44 ?_
      exact E_ireturn (pc := 45) rfl (by decide) dX2_goesOnAsOne_45 (QI_of h)
    · refine E_aload_n (pc := 9) rfl dX2_goesOnAsOne_9 ?_
      refine R_getR (pc := 10) (b := 195) f2_61 dX2_goesOnAsOne_10 (ent_st h0.1) (by decide) rfl rfl ?_
      refine E_aload_n (pc := 13) rfl dX2_goesOnAsOne_13 ?_
      refine R_getR (pc := 14) (b := a0 + 3) f2_19 dX2_goesOnAsOne_14 (ent_st h0.1) (by decide) rfl rfl ?_
      refine E_iload (pc := 17) rfl dX2_goesOnAsOne_17 ?_
      refine T_iald (pc := 19) dX2_goesOnAsOne_19 (ent_st h0.2.2.2.1) (by decide) h (fun v1 h => ?_)
      refine T_iald (pc := 20) dX2_goesOnAsOne_20 (ent_st TR195) (by decide) h (fun v2 h => ?_)
      refine E_bipush (pc := 21) (nI 10) (by decide) dX2_goesOnAsOne_21 ?_
      refine E_ishr (pc := 23) dX2_goesOnAsOne_23 ?_
      refine E_aload_n (pc := 24) rfl dX2_goesOnAsOne_24 ?_
      refine R_getR (pc := 25) (b := 195) f2_61 dX2_goesOnAsOne_25 (ent_st h0.1) (by decide) rfl rfl ?_
      refine E_iload_n (pc := 28) rfl dX2_goesOnAsOne_28 ?_
      refine T_iald (pc := 29) dX2_goesOnAsOne_29 (ent_st TR195) (by decide) h (fun v3 h => ?_)
      refine E_bipush (pc := 30) (nI 10) (by decide) dX2_goesOnAsOne_30 ?_
      refine E_ishr (pc := 32) dX2_goesOnAsOne_32 ?_
      refine T_icmp_ne (pc := 33) 38 dX2_goesOnAsOne_33 (by decide) h (fun h => ?_) (fun h => ?_)
      · refine T_iinc (pc := 38) (m := 1) (L2 := [_, _, _, _, _]) rfl rfl rfl rfl dX2_goesOnAsOne_38 ?_
        refine E_goto (pc := 41) 3 (by decide) dX2_goesOnAsOne_41 ?_
        exact ih h
      · refine E_iconst (pc := 36) 1 rfl dX2_goesOnAsOne_36 ?_
        exact E_ireturn (pc := 37) rfl (by decide) dX2_goesOnAsOne_37 (QI_of h)
noncomputable def f_X2_goesOnAsOne (a0 : Nat) (x1 : Int32) (x2 : Int32) (x3 : Int32) (σ : ST) : Option (Int32 × ST) :=
    f_X2_goesOnAsOne_3 a0 FU x1 x3 x2 σ
theorem e_X2_goesOnAsOne {G : GP} {a0 : Nat} {x1 : Int32} {x2 : Int32} {x3 : Int32} {σ : ST} {v : Int32} {s : ST} (h0 : CU a0) (h : f_X2_goesOnAsOne a0 x1 x2 x3 σ = some (v, s)) : E G mX2_goesOnAsOne (0, 0) 0 [.ref a0, .int x1, .int x2, .int x3, D0] [] (mem σ) (QI v s) := by
  unfold f_X2_goesOnAsOne at h
  refine E_iload_n (pc := 0) rfl dX2_goesOnAsOne_0 ?_
  refine E_istore (pc := 1) (L2 := [_, _, _, _, _]) rfl rfl dX2_goesOnAsOne_1 ?_
  refine E_kp [true, true, false, true, true] (L2 := [_, _, D0, _, _]) rfl rfl ?_
  refine e_X2_goesOnAsOne_3 h0 FU h
noncomputable def f_X2_isReached_2 (a0 : Nat) : Nat → Int32 → Int32 → Int32 → ST → Option (Int32 × ST)
  | 0, _, _, _, _ => none
  | n + 1, x1, x2, x3, sg =>
    if x3 < (sg.1 a0 9) then
    ((rdI sg (a0 + 1) 13312 ((x1 * (nI 1024)) + ((x3 <<< ((nI 8) &&& 31)) ||| x2))).bind fun v1 =>
    if v1 < (nI 1048576) then
    (some ((nI 1), sg))
    else ((f_X2_isReached_2 a0 n) x1 x2 (x3 + nI 1) sg))
    else (some ((nI 0), sg))
theorem e_X2_isReached_2 {G : GP} {a0 : Nat} {v : Int32} {s : ST} (h0 : CU a0) : ∀ (n : Nat) {x1 : Int32} {x2 : Int32} {x3 : Int32} {sg : ST}, f_X2_isReached_2 a0 n x1 x2 x3 sg = some (v, s) → E G mX2_isReached (0, 0) 2 [.ref a0, .int x1, .int x2, .int x3] [] (mem sg) (QI v s) := by
  intro n
  induction n with
  | zero => intro _ _ _ _ h; rw [f_X2_isReached_2] at h; cases h
  | succ n ih =>
    intro x1 x2 x3 sg h
    rw [f_X2_isReached_2] at h
    refine E_iload_n (pc := 2) rfl dX2_isReached_2 ?_
    refine E_aload_n (pc := 3) rfl dX2_isReached_3 ?_
    refine R_getI (pc := 4) f2_29 dX2_isReached_4 (ent_st h0.1) (by decide) rfl ?_
    refine T_icmp_ge (pc := 7) 40 dX2_isReached_7 (by decide) h (fun h => ?_) (fun h => ?_)
    · refine E_iconst (pc := 40) 0 rfl dX2_isReached_40 ?_
      exact E_ireturn (pc := 41) rfl (by decide) dX2_isReached_41 (QI_of h)
    · refine E_aload_n (pc := 10) rfl dX2_isReached_10 ?_
      refine R_getR (pc := 11) (b := a0 + 1) f2_9 dX2_isReached_11 (ent_st h0.1) (by decide) rfl rfl ?_
      refine E_iload_n (pc := 14) rfl dX2_isReached_14 ?_
      refine E_sipush (pc := 15) (nI 1024) (by decide) dX2_isReached_15 ?_
      refine E_imul (pc := 18) dX2_isReached_18 ?_
      refine E_iload_n (pc := 19) rfl dX2_isReached_19 ?_
      refine E_bipush (pc := 20) (nI 8) (by decide) dX2_isReached_20 ?_
      refine E_ishl (pc := 22) dX2_isReached_22 ?_
      refine E_iload_n (pc := 23) rfl dX2_isReached_23 ?_
      refine E_ior (pc := 24) dX2_isReached_24 ?_
      refine E_iadd (pc := 25) dX2_isReached_25 ?_
      refine T_iald (pc := 26) dX2_isReached_26 (ent_st h0.2.1) (by decide) h (fun v1 h => ?_)
      refine E_ldc (pc := 27) (v := nI 1048576) q2_93 dX2_isReached_27 ?_
      refine T_icmp_ge (pc := 29) 34 dX2_isReached_29 (by decide) h (fun h => ?_) (fun h => ?_)
      · refine T_iinc (pc := 34) (m := 1) (L2 := [_, _, _, _]) rfl rfl rfl rfl dX2_isReached_34 ?_
        refine E_goto (pc := 37) 2 (by decide) dX2_isReached_37 ?_
        exact ih h
      · refine E_iconst (pc := 32) 1 rfl dX2_isReached_32 ?_
        exact E_ireturn (pc := 33) rfl (by decide) dX2_isReached_33 (QI_of h)
noncomputable def f_X2_isReached (a0 : Nat) (x1 : Int32) (x2 : Int32) (σ : ST) : Option (Int32 × ST) :=
    f_X2_isReached_2 a0 FU x1 x2 (nI 0) σ
theorem e_X2_isReached {G : GP} {a0 : Nat} {x1 : Int32} {x2 : Int32} {σ : ST} {v : Int32} {s : ST} (h0 : CU a0) (h : f_X2_isReached a0 x1 x2 σ = some (v, s)) : E G mX2_isReached (0, 0) 0 [.ref a0, .int x1, .int x2, D0] [] (mem σ) (QI v s) := by
  unfold f_X2_isReached at h
  refine E_iconst (pc := 0) 0 rfl dX2_isReached_0 ?_
  refine E_istore_n (pc := 1) (L2 := [_, _, _, _]) rfl rfl dX2_isReached_1 ?_
  refine e_X2_isReached_2 h0 FU h
noncomputable def f_X2_gatherLooks_43 (a0 : Nat) (k119 : Int32 → Int32 → Int32 → Int32 → Int32 → ST → Option (Int32 × ST)) : Nat → Int32 → Int32 → Int32 → Int32 → Int32 → Int32 → Int32 → ST → Option (Int32 × ST)
  | 0, _, _, _, _, _, _, _, _ => none
  | n + 1, x1, x2, x3, x4, x5, x6, x7, sg =>
    if x7 < x3 then
    ((rdI sg 195 1024 ((x7 <<< ((nI 8) &&& 31)) ||| x5)).bind fun v5 =>
    bd2 (f_X0_allows (a0 + 8) x2 v5 (x5 >>> ((sg.1 a0 7) &&& 31)) sg) fun v7 s6 =>
    if v7 = 0 then
    ((f_X2_gatherLooks_43 a0 k119 n) x1 x2 x3 x4 x5 x6 (x7 + nI 1) s6)
    else (if x1 = 0 then
    (bd2 (f_X2_goesOnAsOne a0 ((x7 <<< ((nI 8) &&& 31)) ||| x5) x6 x4 s6) fun v10 s9 =>
    if v10 = 0 then
    ((wrI s9 (a0 + 3) 1024 x4 ((x7 <<< ((nI 8) &&& 31)) ||| x5)).bind fun s11 =>
    (f_X2_gatherLooks_43 a0 k119 n) x1 x2 x3 (x4 + nI 1) x5 x6 (x7 + nI 1) s11)
    else ((f_X2_gatherLooks_43 a0 k119 n) x1 x2 x3 x4 x5 x6 (x7 + nI 1) s9))
    else ((wrI s6 (a0 + 3) 1024 x4 ((x7 <<< ((nI 8) &&& 31)) ||| x5)).bind fun s8 =>
    (f_X2_gatherLooks_43 a0 k119 n) x1 x2 x3 (x4 + nI 1) x5 x6 (x7 + nI 1) s8)))
    else (k119 x1 x2 x3 x4 x5 sg)
theorem e_X2_gatherLooks_43 {G : GP} {a0 : Nat} {k119 : Int32 → Int32 → Int32 → Int32 → Int32 → ST → Option (Int32 × ST)} {v : Int32} {s : ST} (h0 : CU a0) (hk119 : ∀ {x1 : Int32} {x2 : Int32} {x3 : Int32} {x4 : Int32} {x5 : Int32} {sg : ST}, k119 x1 x2 x3 x4 x5 sg = some (v, s) → E G mX2_gatherLooks (2, 43) 119 [.ref a0, .int x1, .int x2, .int x3, .int x4, .int x5, D0, D0, D0] [] (mem sg) (QI v s)) : ∀ (n : Nat) {x1 : Int32} {x2 : Int32} {x3 : Int32} {x4 : Int32} {x5 : Int32} {x6 : Int32} {x7 : Int32} {sg : ST}, f_X2_gatherLooks_43 a0 k119 n x1 x2 x3 x4 x5 x6 x7 sg = some (v, s) → E G mX2_gatherLooks (2, 43) 43 [.ref a0, .int x1, .int x2, .int x3, .int x4, .int x5, .int x6, .int x7, D0] [] (mem sg) (QI v s) := by
  intro n
  induction n with
  | zero => intro _ _ _ _ _ _ _ _ h; rw [f_X2_gatherLooks_43] at h; cases h
  | succ n ih =>
    intro x1 x2 x3 x4 x5 x6 x7 sg h
    rw [f_X2_gatherLooks_43] at h
    refine E_iload (pc := 43) rfl dX2_gatherLooks_43 ?_
    refine E_iload_n (pc := 45) rfl dX2_gatherLooks_45 ?_
    refine T_icmp_ge (pc := 46) 119 dX2_gatherLooks_46 (by decide) h (fun h => ?_) (fun h => ?_)
    · refine E_kp [true, true, true, true, true, true, false, false, false] (L2 := [_, _, _, _, _, _, D0, D0, D0]) rfl rfl ?_
      exact hk119 h
    · refine E_iload (pc := 49) rfl dX2_gatherLooks_49 ?_
      refine E_bipush (pc := 51) (nI 8) (by decide) dX2_gatherLooks_51 ?_
      refine E_ishl (pc := 53) dX2_gatherLooks_53 ?_
      refine E_iload (pc := 54) rfl dX2_gatherLooks_54 ?_
      refine E_ior (pc := 56) dX2_gatherLooks_56 ?_
      refine E_istore (pc := 57) (L2 := [_, _, _, _, _, _, _, _, _]) rfl rfl dX2_gatherLooks_57 ?_
      refine E_aload_n (pc := 59) rfl dX2_gatherLooks_59 ?_
      refine R_getR (pc := 60) (b := a0 + 8) f2_72 dX2_gatherLooks_60 (ent_st h0.1) (by decide) rfl rfl ?_
      refine E_iload_n (pc := 63) rfl dX2_gatherLooks_63 ?_
      refine E_aload_n (pc := 64) rfl dX2_gatherLooks_64 ?_
      refine R_getR (pc := 65) (b := 195) f2_61 dX2_gatherLooks_65 (ent_st h0.1) (by decide) rfl rfl ?_
      refine E_iload (pc := 68) rfl dX2_gatherLooks_68 ?_
      refine T_iald (pc := 70) dX2_gatherLooks_70 (ent_st TR195) (by decide) h (fun v5 h => ?_)
      refine E_iload (pc := 71) rfl dX2_gatherLooks_71 ?_
      refine E_aload_n (pc := 73) rfl dX2_gatherLooks_73 ?_
      refine R_getI (pc := 74) f2_22 dX2_gatherLooks_74 (ent_st h0.1) (by decide) rfl ?_
      refine E_ishr (pc := 77) dX2_gatherLooks_77 ?_
      obtain ⟨v7, s6, hp, h⟩ := bd2_some h
      refine E_callV (pc := 78) (As := [_, _, _]) (fc := (0, 0)) s2_150_0 oX0_allows dX2_gatherLooks_78 (mem_ob (ent_st h0.2.2.2.2.2.2.2.2.1)) rfl rfl (Nat.le_of_ble_eq_true rfl) rfl rfl (by decide) (e_X0_allows h0.2.2.2.2.2.2.2.2 hp) (fun rv_ M_ hq_ => ?_)
      obtain ⟨rfl, rfl⟩ := hq_
      refine T_if_eq (pc := 81) 113 dX2_gatherLooks_81 (by decide) h (fun h => ?_) (fun h => ?_)
      · refine T_iinc (pc := 113) (m := 1) (L2 := [_, _, _, _, _, _, _, _, _]) rfl rfl rfl rfl dX2_gatherLooks_113 ?_
        refine E_goto (pc := 116) 43 (by decide) dX2_gatherLooks_116 ?_
        refine E_kp [true, true, true, true, true, true, true, true, false] (L2 := [_, _, _, _, _, _, _, _, D0]) rfl rfl ?_
        exact ih h
      · refine E_iload_n (pc := 84) rfl dX2_gatherLooks_84 ?_
        refine T_if_ne (pc := 85) 101 dX2_gatherLooks_85 (by decide) h (fun h => ?_) (fun h => ?_)
        · refine E_aload_n (pc := 101) rfl dX2_gatherLooks_101 ?_
          refine R_getR (pc := 102) (b := a0 + 3) f2_19 dX2_gatherLooks_102 (ent_st h0.1) (by decide) rfl rfl ?_
          refine E_iload (pc := 105) rfl dX2_gatherLooks_105 ?_
          refine E_iload (pc := 107) rfl dX2_gatherLooks_107 ?_
          refine T_iast (pc := 109) dX2_gatherLooks_109 (ent_st h0.2.2.2.1) (by decide) h (fun s8 h => ?_)
          refine T_iinc (pc := 110) (m := 1) (L2 := [_, _, _, _, _, _, _, _, _]) rfl rfl rfl rfl dX2_gatherLooks_110 ?_
          refine T_iinc (pc := 113) (m := 1) (L2 := [_, _, _, _, _, _, _, _, _]) rfl rfl rfl rfl dX2_gatherLooks_113 ?_
          refine E_goto (pc := 116) 43 (by decide) dX2_gatherLooks_116 ?_
          refine E_kp [true, true, true, true, true, true, true, true, false] (L2 := [_, _, _, _, _, _, _, _, D0]) rfl rfl ?_
          exact ih h
        · refine E_aload_n (pc := 88) rfl dX2_gatherLooks_88 ?_
          refine E_iload (pc := 89) rfl dX2_gatherLooks_89 ?_
          refine E_iload (pc := 91) rfl dX2_gatherLooks_91 ?_
          refine E_iload (pc := 93) rfl dX2_gatherLooks_93 ?_
          obtain ⟨v10, s9, hp, h⟩ := bd2_some h
          refine E_callV (pc := 95) (As := [_, _, _]) (fc := (0, 0)) s2_154_2 oX2_goesOnAsOne dX2_gatherLooks_95 (mem_ob (ent_st h0.1)) rfl rfl (Nat.le_of_ble_eq_true rfl) rfl rfl (by decide) (e_X2_goesOnAsOne h0 hp) (fun rv_ M_ hq_ => ?_)
          obtain ⟨rfl, rfl⟩ := hq_
          refine T_if_ne (pc := 98) 113 dX2_gatherLooks_98 (by decide) h (fun h => ?_) (fun h => ?_)
          · refine T_iinc (pc := 113) (m := 1) (L2 := [_, _, _, _, _, _, _, _, _]) rfl rfl rfl rfl dX2_gatherLooks_113 ?_
            refine E_goto (pc := 116) 43 (by decide) dX2_gatherLooks_116 ?_
            refine E_kp [true, true, true, true, true, true, true, true, false] (L2 := [_, _, _, _, _, _, _, _, D0]) rfl rfl ?_
            exact ih h
          · refine E_aload_n (pc := 101) rfl dX2_gatherLooks_101 ?_
            refine R_getR (pc := 102) (b := a0 + 3) f2_19 dX2_gatherLooks_102 (ent_st h0.1) (by decide) rfl rfl ?_
            refine E_iload (pc := 105) rfl dX2_gatherLooks_105 ?_
            refine E_iload (pc := 107) rfl dX2_gatherLooks_107 ?_
            refine T_iast (pc := 109) dX2_gatherLooks_109 (ent_st h0.2.2.2.1) (by decide) h (fun s11 h => ?_)
            refine T_iinc (pc := 110) (m := 1) (L2 := [_, _, _, _, _, _, _, _, _]) rfl rfl rfl rfl dX2_gatherLooks_110 ?_
            refine T_iinc (pc := 113) (m := 1) (L2 := [_, _, _, _, _, _, _, _, _]) rfl rfl rfl rfl dX2_gatherLooks_113 ?_
            refine E_goto (pc := 116) 43 (by decide) dX2_gatherLooks_116 ?_
            refine E_kp [true, true, true, true, true, true, true, true, false] (L2 := [_, _, _, _, _, _, _, _, D0]) rfl rfl ?_
            exact ih h
noncomputable def f_X2_gatherLooks_14 (a0 : Nat) : Nat → Int32 → Int32 → Int32 → Int32 → Int32 → ST → Option (Int32 × ST)
  | 0, _, _, _, _, _, _ => none
  | n + 1, x1, x2, x3, x4, x5, sg =>
    if x5 < (sg.1 a0 8) then
    (bd2 (f_X2_isReached a0 x2 x5 sg) fun v4 s3 =>
    if v4 = 0 then
    ((f_X2_gatherLooks_14 a0 n) x1 x2 x3 x4 (x5 + nI 1) s3)
    else (f_X2_gatherLooks_43 a0 (fun x1_12 x2_13 x3_14 x4_15 x5_16 s17 =>
    (f_X2_gatherLooks_14 a0 n) x1_12 x2_13 x3_14 x4_15 (x5_16 + nI 1) s17) FU x1 x2 x3 x4 x5 x4 (nI 0) s3))
    else (some (x4, sg))
theorem e_X2_gatherLooks_14 {G : GP} {a0 : Nat} {v : Int32} {s : ST} (h0 : CU a0) : ∀ (n : Nat) {x1 : Int32} {x2 : Int32} {x3 : Int32} {x4 : Int32} {x5 : Int32} {sg : ST}, f_X2_gatherLooks_14 a0 n x1 x2 x3 x4 x5 sg = some (v, s) → E G mX2_gatherLooks (2, 43) 14 [.ref a0, .int x1, .int x2, .int x3, .int x4, .int x5, D0, D0, D0] [] (mem sg) (QI v s) := by
  intro n
  induction n with
  | zero => intro _ _ _ _ _ _ h; rw [f_X2_gatherLooks_14] at h; cases h
  | succ n ih =>
    intro x1 x2 x3 x4 x5 sg h
    rw [f_X2_gatherLooks_14] at h
    refine E_iload (pc := 14) rfl dX2_gatherLooks_14 ?_
    refine E_aload_n (pc := 16) rfl dX2_gatherLooks_16 ?_
    refine R_getI (pc := 17) f2_26 dX2_gatherLooks_17 (ent_st h0.1) (by decide) rfl ?_
    refine T_icmp_ge (pc := 20) 125 dX2_gatherLooks_20 (by decide) h (fun h => ?_) (fun h => ?_)
    · refine E_iload (pc := 125) rfl dX2_gatherLooks_125 ?_
      exact E_ireturn (pc := 127) rfl rfl dX2_gatherLooks_127 (QI_of h)
    · refine E_aload_n (pc := 23) rfl dX2_gatherLooks_23 ?_
      refine E_iload_n (pc := 24) rfl dX2_gatherLooks_24 ?_
      refine E_iload (pc := 25) rfl dX2_gatherLooks_25 ?_
      obtain ⟨v4, s3, hp, h⟩ := bd2_some h
      refine E_callV (pc := 27) (As := [_, _]) (fc := (0, 0)) s2_147_2 oX2_isReached dX2_gatherLooks_27 (mem_ob (ent_st h0.1)) rfl rfl (Nat.le_of_ble_eq_true rfl) rfl rfl (by decide) (e_X2_isReached h0 hp) (fun rv_ M_ hq_ => ?_)
      obtain ⟨rfl, rfl⟩ := hq_
      refine T_if_ne (pc := 30) 36 dX2_gatherLooks_30 (by decide) h (fun h => ?_) (fun h => ?_)
      · refine E_iload (pc := 36) rfl dX2_gatherLooks_36 ?_
        refine E_istore (pc := 38) (L2 := [_, _, _, _, _, _, _, _, _]) rfl rfl dX2_gatherLooks_38 ?_
        refine E_iconst (pc := 40) 0 rfl dX2_gatherLooks_40 ?_
        refine E_istore (pc := 41) (L2 := [_, _, _, _, _, _, _, _, _]) rfl rfl dX2_gatherLooks_41 ?_
        refine e_X2_gatherLooks_43 h0 ?_ FU h
        · intro x1_12 x2_13 x3_14 x4_15 x5_16 s17 h
          refine T_iinc (pc := 119) (m := 1) (L2 := [_, _, _, _, _, _, _, _, _]) rfl rfl rfl rfl dX2_gatherLooks_119 ?_
          refine E_goto (pc := 122) 14 (by decide) dX2_gatherLooks_122 ?_
          exact ih h
      · refine E_goto (pc := 33) 119 (by decide) dX2_gatherLooks_33 ?_
        refine T_iinc (pc := 119) (m := 1) (L2 := [_, _, _, _, _, _, _, _, _]) rfl rfl rfl rfl dX2_gatherLooks_119 ?_
        refine E_goto (pc := 122) 14 (by decide) dX2_gatherLooks_122 ?_
        exact ih h
noncomputable def f_X2_gatherLooks (a0 : Nat) (x1 : Int32) (x2 : Int32) (σ : ST) : Option (Int32 × ST) :=
    bd2 (f_X10_freeLooks σ) fun v2 s1 =>
    f_X2_gatherLooks_14 a0 FU x1 x2 v2 (nI 0) (nI 0) s1
theorem e_X2_gatherLooks {G : GP} {a0 : Nat} {x1 : Int32} {x2 : Int32} {σ : ST} {v : Int32} {s : ST} (h0 : CU a0) (h : f_X2_gatherLooks a0 x1 x2 σ = some (v, s)) : E G mX2_gatherLooks (2, 43) 0 [.ref a0, .int x1, .int x2, D0, D0, D0, D0, D0, D0] [] (mem σ) (QI v s) := by
  unfold f_X2_gatherLooks at h
  refine E_aload_n (pc := 0) rfl dX2_gatherLooks_0 ?_
  refine R_getR (pc := 1) (b := 2) f2_57 dX2_gatherLooks_1 (ent_st h0.1) (by decide) rfl rfl ?_
  obtain ⟨v2, s1, hp, h⟩ := bd2_some h
  refine E_callV (pc := 4) (As := []) (fc := (1, 23)) s2_144_10 oX10_freeLooks dX2_gatherLooks_4 (mem_ob (ent_st WO2.1)) rfl rfl (Nat.le_of_ble_eq_true rfl) rfl rfl (by decide) (e_X10_freeLooks hp) (fun rv_ M_ hq_ => ?_)
  obtain ⟨rfl, rfl⟩ := hq_
  refine E_istore_n (pc := 7) (L2 := [_, _, _, _, _, _, _, _, _]) rfl rfl dX2_gatherLooks_7 ?_
  refine E_iconst (pc := 8) 0 rfl dX2_gatherLooks_8 ?_
  refine E_istore (pc := 9) (L2 := [_, _, _, _, _, _, _, _, _]) rfl rfl dX2_gatherLooks_9 ?_
  refine E_iconst (pc := 11) 0 rfl dX2_gatherLooks_11 ?_
  refine E_istore (pc := 12) (L2 := [_, _, _, _, _, _, _, _, _]) rfl rfl dX2_gatherLooks_12 ?_
  refine e_X2_gatherLooks_14 h0 FU h
noncomputable def f_X2_layerOf (x0 : Int32) (σ : ST) : Option (Int32 × ST) :=
    some (((x0 &&& (nI 1)) * (nI 1024)), σ)
theorem e_X2_layerOf {G : GP} {x0 : Int32} {σ : ST} {v : Int32} {s : ST}  (h : f_X2_layerOf x0 σ = some (v, s)) : E G mX2_layerOf (0, 0) 0 [.int x0] [] (mem σ) (QI v s) := by
  unfold f_X2_layerOf at h
  refine E_iload_n (pc := 0) rfl dX2_layerOf_0 ?_
  refine E_iconst (pc := 1) 1 rfl dX2_layerOf_1 ?_
  refine E_iand (pc := 2) dX2_layerOf_2 ?_
  refine E_sipush (pc := 3) (nI 1024) (by decide) dX2_layerOf_3 ?_
  refine E_imul (pc := 6) dX2_layerOf_6 ?_
  exact E_ireturn (pc := 7) rfl rfl dX2_layerOf_7 (QI_of h)
noncomputable def f_X2_addTally_46 (a0 : Nat) (x1 : Int32) (x2 : Int32) (x3 : Int32) (z0 : Int32) (sg : ST) : Option ST :=
    bd2 (f_X2_layerOf x1 sg) fun v2 s1 =>
    (rdJ s1 (a0 + 2) 2048 (v2 + x2)).bind fun v3 =>
    bd2 (f_X2_layerOf (x1 + (nI 1)) s1) fun v5 s4 =>
    (rdJ s4 (a0 + 2) 2048 (v5 + x3)).bind fun v6 =>
    if z0 = 0 then
    ((wrJ s4 (a0 + 2) 2048 (v5 + x3) (v6 ||| v3)).bind fun s7 =>
    some s7)
    else ((wrJ s4 (a0 + 2) 2048 (v5 + x3) (v6 ||| (v3 <<< (((nI 1)).toInt64 &&& 63)))).bind fun s8 =>
    some s8)
theorem e_X2_addTally_46 {G : GP} {a0 : Nat} {x1 : Int32} {x2 : Int32} {x3 : Int32} {z0 : Int32} {sg : ST} {s : ST} (h0 : CU a0) (h : f_X2_addTally_46 a0 x1 x2 x3 z0 sg = some s) : E G mX2_addTally (1, 20) 46 [.ref a0, .int x1, .int x2, .int x3, D0, D0, D0, D0, D0] [.int z0] (mem sg) (QV s) := by
  unfold f_X2_addTally_46 at h
  refine E_istore (pc := 46) (L2 := [_, _, _, _, _, _, _, _, _]) rfl rfl dX2_addTally_46 ?_
  refine E_aload_n (pc := 48) rfl dX2_addTally_48 ?_
  refine R_getR (pc := 49) (b := a0 + 2) f2_15 dX2_addTally_49 (ent_st h0.1) (by decide) rfl rfl ?_
  refine E_iload_n (pc := 52) rfl dX2_addTally_52 ?_
  obtain ⟨v2, s1, hp, h⟩ := bd2_some h
  refine E_callS (pc := 53) (As := [_]) (fc := (0, 0)) s2_113 oX2_layerOf dX2_addTally_53 rfl rfl (Nat.le_of_ble_eq_true rfl) rfl rfl (by decide) (e_X2_layerOf hp) (fun rv_ M_ hq_ => ?_)
  obtain ⟨rfl, rfl⟩ := hq_
  refine E_iload_n (pc := 56) rfl dX2_addTally_56 ?_
  refine E_iadd (pc := 57) dX2_addTally_57 ?_
  refine T_jald (pc := 58) dX2_addTally_58 (ent_st h0.2.2.1) (by decide) h (fun v3 h => ?_)
  refine E_lstore (pc := 59) (L2 := [_, _, _, _, _, _, _, _, _]) rfl rfl dX2_addTally_59 ?_
  refine E_aload_n (pc := 61) rfl dX2_addTally_61 ?_
  refine R_getR (pc := 62) (b := a0 + 2) f2_15 dX2_addTally_62 (ent_st h0.1) (by decide) rfl rfl ?_
  refine E_iload_n (pc := 65) rfl dX2_addTally_65 ?_
  refine E_iconst (pc := 66) 1 rfl dX2_addTally_66 ?_
  refine E_iadd (pc := 67) dX2_addTally_67 ?_
  obtain ⟨v5, s4, hp, h⟩ := bd2_some h
  refine E_callS (pc := 68) (As := [_]) (fc := (0, 0)) s2_113 oX2_layerOf dX2_addTally_68 rfl rfl (Nat.le_of_ble_eq_true rfl) rfl rfl (by decide) (e_X2_layerOf hp) (fun rv_ M_ hq_ => ?_)
  obtain ⟨rfl, rfl⟩ := hq_
  refine E_iload_n (pc := 71) rfl dX2_addTally_71 ?_
  refine E_iadd (pc := 72) dX2_addTally_72 ?_
  refine E_dup2 (pc := 73) rfl rfl dX2_addTally_73 ?_
  refine T_jald (pc := 74) dX2_addTally_74 (ent_st h0.2.2.1) (by decide) h (fun v6 h => ?_)
  refine E_iload (pc := 75) rfl dX2_addTally_75 ?_
  refine T_if_eq (pc := 77) 87 dX2_addTally_77 (by decide) h (fun h => ?_) (fun h => ?_)
  · refine E_lload (pc := 87) rfl dX2_addTally_87 ?_
    refine E_lor (pc := 89) dX2_addTally_89 ?_
    refine T_jast (pc := 90) dX2_addTally_90 (ent_st h0.2.2.1) (by decide) h (fun s7 h => ?_)
    exact E_return (pc := 91) rfl dX2_addTally_91 (QV_of h)
  · refine E_lload (pc := 80) rfl dX2_addTally_80 ?_
    refine E_iconst (pc := 82) 1 rfl dX2_addTally_82 ?_
    refine E_lshl (pc := 83) dX2_addTally_83 ?_
    refine E_goto (pc := 84) 89 (by decide) dX2_addTally_84 ?_
    refine E_lor (pc := 89) dX2_addTally_89 ?_
    refine T_jast (pc := 90) dX2_addTally_90 (ent_st h0.2.2.1) (by decide) h (fun s8 h => ?_)
    exact E_return (pc := 91) rfl dX2_addTally_91 (QV_of h)
noncomputable def f_X2_addTally (a0 : Nat) (x1 : Int32) (x2 : Int32) (x3 : Int32) (x4 : Int32) (x5 : Int32) (σ : ST) : Option ST :=
    if (σ.1 a0 11) < (nI 10) then
    (if ((x4 >>> ((σ.1 a0 11) &&& 31)) &&& (nI 1)) = 0 then
    (f_X2_addTally_46 a0 x1 x2 x3 (nI 0) σ)
    else (f_X2_addTally_46 a0 x1 x2 x3 (nI 1) σ))
    else (if (σ.1 a0 11) = ((nI 10) + x5) then
    (f_X2_addTally_46 a0 x1 x2 x3 (nI 1) σ)
    else (f_X2_addTally_46 a0 x1 x2 x3 (nI 0) σ))
theorem e_X2_addTally {G : GP} {a0 : Nat} {x1 : Int32} {x2 : Int32} {x3 : Int32} {x4 : Int32} {x5 : Int32} {σ : ST} {s : ST} (h0 : CU a0) (h : f_X2_addTally a0 x1 x2 x3 x4 x5 σ = some s) : E G mX2_addTally (1, 20) 0 [.ref a0, .int x1, .int x2, .int x3, .int x4, .int x5, D0, D0, D0] [] (mem σ) (QV s) := by
  unfold f_X2_addTally at h
  refine E_aload_n (pc := 0) rfl dX2_addTally_0 ?_
  refine R_getI (pc := 1) f2_35 dX2_addTally_1 (ent_st h0.1) (by decide) rfl ?_
  refine E_bipush (pc := 4) (nI 10) (by decide) dX2_addTally_4 ?_
  refine T_icmp_ge (pc := 6) 29 dX2_addTally_6 (by decide) h (fun h => ?_) (fun h => ?_)
  · refine E_aload_n (pc := 29) rfl dX2_addTally_29 ?_
    refine R_getI (pc := 30) f2_35 dX2_addTally_30 (ent_st h0.1) (by decide) rfl ?_
    refine E_bipush (pc := 33) (nI 10) (by decide) dX2_addTally_33 ?_
    refine E_iload (pc := 35) rfl dX2_addTally_35 ?_
    refine E_iadd (pc := 37) dX2_addTally_37 ?_
    refine T_icmp_ne (pc := 38) 45 dX2_addTally_38 (by decide) h (fun h => ?_) (fun h => ?_)
    · refine E_iconst (pc := 45) 0 rfl dX2_addTally_45 ?_
      refine E_kp [true, true, true, true, false, false, false, false, false] (L2 := [_, _, _, _, D0, D0, D0, D0, D0]) rfl rfl ?_
      refine e_X2_addTally_46 h0 h
    · refine E_iconst (pc := 41) 1 rfl dX2_addTally_41 ?_
      refine E_goto (pc := 42) 46 (by decide) dX2_addTally_42 ?_
      refine E_kp [true, true, true, true, false, false, false, false, false] (L2 := [_, _, _, _, D0, D0, D0, D0, D0]) rfl rfl ?_
      refine e_X2_addTally_46 h0 h
  · refine E_iload (pc := 9) rfl dX2_addTally_9 ?_
    refine E_aload_n (pc := 11) rfl dX2_addTally_11 ?_
    refine R_getI (pc := 12) f2_35 dX2_addTally_12 (ent_st h0.1) (by decide) rfl ?_
    refine E_ishr (pc := 15) dX2_addTally_15 ?_
    refine E_iconst (pc := 16) 1 rfl dX2_addTally_16 ?_
    refine E_iand (pc := 17) dX2_addTally_17 ?_
    refine T_if_eq (pc := 18) 25 dX2_addTally_18 (by decide) h (fun h => ?_) (fun h => ?_)
    · refine E_iconst (pc := 25) 0 rfl dX2_addTally_25 ?_
      refine E_goto (pc := 26) 46 (by decide) dX2_addTally_26 ?_
      refine E_kp [true, true, true, true, false, false, false, false, false] (L2 := [_, _, _, _, D0, D0, D0, D0, D0]) rfl rfl ?_
      refine e_X2_addTally_46 h0 h
    · refine E_iconst (pc := 21) 1 rfl dX2_addTally_21 ?_
      refine E_goto (pc := 22) 46 (by decide) dX2_addTally_22 ?_
      refine E_kp [true, true, true, true, false, false, false, false, false] (L2 := [_, _, _, _, D0, D0, D0, D0, D0]) rfl rfl ?_
      refine e_X2_addTally_46 h0 h
noncomputable def f_X2_keep (a0 : Nat) (x1 : Int32) (x2 : Int32) (x3 : Int32) (x4 : Int32) (x5 : Int32) (σ : ST) : Option ST :=
    bd2 (f_X2_layerOf x1 σ) fun v2 s1 =>
    (rdJ s1 (a0 + 2) 2048 (v2 + x2)).bind fun v3 =>
    bd2 (f_X2_layerOf (x1 + (nI 1)) s1) fun v5 s4 =>
    (rdJ s4 (a0 + 2) 2048 (v5 + x3)).bind fun v6 =>
    (wrJ s4 (a0 + 2) 2048 (v2 + x2) (if (1000000000000000000) < (v3 + v6) then (1000000000000000000) else (v3 + v6))).bind fun s7 =>
    (rdI s7 (a0 + 4) 12 x1).bind fun v8 =>
    (wrI s7 (a0 + 4) 12 x1 (v8 &&& x4)).bind fun s9 =>
    (rdI s9 (a0 + 5) 12 x1).bind fun v10 =>
    (wrI s9 (a0 + 5) 12 x1 (v10 ||| x4)).bind fun s11 =>
    (rdI s11 (a0 + 6) 12 x1).bind fun v12 =>
    (wrI s11 (a0 + 6) 12 x1 (v12 ||| ((nI 1) <<< (x5 &&& 31)))).bind fun s13 =>
    (rdI s13 (a0 + 7) 12 x1).bind fun v14 =>
    (wrI s13 (a0 + 7) 12 x1 (v14 ||| ((nI 1) <<< (((x2 &&& (nI 255)) >>> ((s13.1 a0 7) &&& 31)) &&& 31)))).bind fun s15 =>
    some s15
theorem e_X2_keep {G : GP} {a0 : Nat} {x1 : Int32} {x2 : Int32} {x3 : Int32} {x4 : Int32} {x5 : Int32} {σ : ST} {s : ST} (h0 : CU a0) (h : f_X2_keep a0 x1 x2 x3 x4 x5 σ = some s) : E G mX2_keep (1, 24) 0 [.ref a0, .int x1, .int x2, .int x3, .int x4, .int x5, D0] [] (mem σ) (QV s) := by
  unfold f_X2_keep at h
  refine E_iload_n (pc := 0) rfl dX2_keep_0 ?_
  obtain ⟨v2, s1, hp, h⟩ := bd2_some h
  refine E_callS (pc := 1) (As := [_]) (fc := (0, 0)) s2_113 oX2_layerOf dX2_keep_1 rfl rfl (Nat.le_of_ble_eq_true rfl) rfl rfl (by decide) (e_X2_layerOf hp) (fun rv_ M_ hq_ => ?_)
  obtain ⟨rfl, rfl⟩ := hq_
  refine E_iload_n (pc := 4) rfl dX2_keep_4 ?_
  refine E_iadd (pc := 5) dX2_keep_5 ?_
  refine E_istore (pc := 6) (L2 := [_, _, _, _, _, _, _]) rfl rfl dX2_keep_6 ?_
  refine E_aload_n (pc := 8) rfl dX2_keep_8 ?_
  refine R_getR (pc := 9) (b := a0 + 2) f2_15 dX2_keep_9 (ent_st h0.1) (by decide) rfl rfl ?_
  refine E_iload (pc := 12) rfl dX2_keep_12 ?_
  refine E_aload_n (pc := 14) rfl dX2_keep_14 ?_
  refine R_getR (pc := 15) (b := a0 + 2) f2_15 dX2_keep_15 (ent_st h0.1) (by decide) rfl rfl ?_
  refine E_iload (pc := 18) rfl dX2_keep_18 ?_
  refine T_jald (pc := 20) dX2_keep_20 (ent_st h0.2.2.1) (by decide) h (fun v3 h => ?_)
  refine E_aload_n (pc := 21) rfl dX2_keep_21 ?_
  refine R_getR (pc := 22) (b := a0 + 2) f2_15 dX2_keep_22 (ent_st h0.1) (by decide) rfl rfl ?_
  refine E_iload_n (pc := 25) rfl dX2_keep_25 ?_
  refine E_iconst (pc := 26) 1 rfl dX2_keep_26 ?_
  refine E_iadd (pc := 27) dX2_keep_27 ?_
  obtain ⟨v5, s4, hp, h⟩ := bd2_some h
  refine E_callS (pc := 28) (As := [_]) (fc := (0, 0)) s2_113 oX2_layerOf dX2_keep_28 rfl rfl (Nat.le_of_ble_eq_true rfl) rfl rfl (by decide) (e_X2_layerOf hp) (fun rv_ M_ hq_ => ?_)
  obtain ⟨rfl, rfl⟩ := hq_
  refine E_iload_n (pc := 31) rfl dX2_keep_31 ?_
  refine E_iadd (pc := 32) dX2_keep_32 ?_
  refine T_jald (pc := 33) dX2_keep_33 (ent_st h0.2.2.1) (by decide) h (fun v6 h => ?_)
  refine E_ladd (pc := 34) dX2_keep_34 ?_
  refine E_ldc2 (pc := 35) q2_122 dX2_keep_35 ?_
  refine E_mminL (pc := 38) (by decide +kernel) (by decide) (Nat.le_of_ble_eq_true rfl) dX2_keep_38 ?_
  refine T_jast (pc := 41) dX2_keep_41 (ent_st h0.2.2.1) (by decide) h (fun s7 h => ?_)
  refine E_aload_n (pc := 42) rfl dX2_keep_42 ?_
  refine R_getR (pc := 43) (b := a0 + 4) f2_45 dX2_keep_43 (ent_st h0.1) (by decide) rfl rfl ?_
  refine E_iload_n (pc := 46) rfl dX2_keep_46 ?_
  refine E_dup2 (pc := 47) rfl rfl dX2_keep_47 ?_
  refine T_iald (pc := 48) dX2_keep_48 (ent_st h0.2.2.2.2.1) (by decide) h (fun v8 h => ?_)
  refine E_iload (pc := 49) rfl dX2_keep_49 ?_
  refine E_iand (pc := 51) dX2_keep_51 ?_
  refine T_iast (pc := 52) dX2_keep_52 (ent_st h0.2.2.2.2.1) (by decide) h (fun s9 h => ?_)
  refine E_aload_n (pc := 53) rfl dX2_keep_53 ?_
  refine R_getR (pc := 54) (b := a0 + 5) f2_48 dX2_keep_54 (ent_st h0.1) (by decide) rfl rfl ?_
  refine E_iload_n (pc := 57) rfl dX2_keep_57 ?_
  refine E_dup2 (pc := 58) rfl rfl dX2_keep_58 ?_
  refine T_iald (pc := 59) dX2_keep_59 (ent_st h0.2.2.2.2.2.1) (by decide) h (fun v10 h => ?_)
  refine E_iload (pc := 60) rfl dX2_keep_60 ?_
  refine E_ior (pc := 62) dX2_keep_62 ?_
  refine T_iast (pc := 63) dX2_keep_63 (ent_st h0.2.2.2.2.2.1) (by decide) h (fun s11 h => ?_)
  refine E_aload_n (pc := 64) rfl dX2_keep_64 ?_
  refine R_getR (pc := 65) (b := a0 + 6) f2_51 dX2_keep_65 (ent_st h0.1) (by decide) rfl rfl ?_
  refine E_iload_n (pc := 68) rfl dX2_keep_68 ?_
  refine E_dup2 (pc := 69) rfl rfl dX2_keep_69 ?_
  refine T_iald (pc := 70) dX2_keep_70 (ent_st h0.2.2.2.2.2.2.1) (by decide) h (fun v12 h => ?_)
  refine E_iconst (pc := 71) 1 rfl dX2_keep_71 ?_
  refine E_iload (pc := 72) rfl dX2_keep_72 ?_
  refine E_ishl (pc := 74) dX2_keep_74 ?_
  refine E_ior (pc := 75) dX2_keep_75 ?_
  refine T_iast (pc := 76) dX2_keep_76 (ent_st h0.2.2.2.2.2.2.1) (by decide) h (fun s13 h => ?_)
  refine E_aload_n (pc := 77) rfl dX2_keep_77 ?_
  refine R_getR (pc := 78) (b := a0 + 7) f2_54 dX2_keep_78 (ent_st h0.1) (by decide) rfl rfl ?_
  refine E_iload_n (pc := 81) rfl dX2_keep_81 ?_
  refine E_dup2 (pc := 82) rfl rfl dX2_keep_82 ?_
  refine T_iald (pc := 83) dX2_keep_83 (ent_st h0.2.2.2.2.2.2.2.1) (by decide) h (fun v14 h => ?_)
  refine E_iconst (pc := 84) 1 rfl dX2_keep_84 ?_
  refine E_iload_n (pc := 85) rfl dX2_keep_85 ?_
  refine E_sipush (pc := 86) (nI 255) (by decide) dX2_keep_86 ?_
  refine E_iand (pc := 89) dX2_keep_89 ?_
  refine E_aload_n (pc := 90) rfl dX2_keep_90 ?_
  refine R_getI (pc := 91) f2_22 dX2_keep_91 (ent_st h0.1) (by decide) rfl ?_
  refine E_ishr (pc := 94) dX2_keep_94 ?_
  refine E_ishl (pc := 95) dX2_keep_95 ?_
  refine E_ior (pc := 96) dX2_keep_96 ?_
  refine T_iast (pc := 97) dX2_keep_97 (ent_st h0.2.2.2.2.2.2.2.1) (by decide) h (fun s15 h => ?_)
  exact E_return (pc := 98) rfl dX2_keep_98 (QV_of h)
noncomputable def f_X2_meet_70 (a0 : Nat) (k10 : Int32 → Int32 → Int32 → Int32 → Int32 → Int32 → Int32 → Int32 → ST → Option ST) (x1 : Int32) (x2 : Int32) (x3 : Int32) (x4 : Int32) (x5 : Int32) (x6 : Int32) (x7 : Int32) (x8 : Int32) (x9 : Int32) (x10 : Int32) (z0 : Int32) (sg : ST) : Option ST :=
    if z0 = (-1) then
    (k10 x1 x2 x3 x4 x5 x6 x7 (x8 + nI 1) sg)
    else (if x1 = 0 then
    ((rdI sg (a0 + 1) 13312 (((x2 + (nI 1)) * (nI 1024)) + ((z0 <<< ((nI 8) &&& 31)) ||| x4))).bind fun v7 =>
    (wrI sg (a0 + 1) 13312 (((x2 + (nI 1)) * (nI 1024)) + ((z0 <<< ((nI 8) &&& 31)) ||| x4)) (if x10 < v7 then x10 else v7)).bind fun s8 =>
    k10 x1 x2 x3 x4 x5 x6 x7 (x8 + nI 1) s8)
    else ((rdI sg (a0 + 1) 13312 (((x2 + (nI 1)) * (nI 1024)) + ((z0 <<< ((nI 8) &&& 31)) ||| x4))).bind fun v2 =>
    if v2 = x10 then
    (if x1 = (nI 1) then
    ((rdI sg 195 1024 x3).bind fun v5 =>
    (f_X2_keep a0 x2 x9 ((z0 <<< ((nI 8) &&& 31)) ||| x4) v5 x5 sg).bind fun s6 =>
    k10 x1 x2 x3 x4 x5 x6 x7 (x8 + nI 1) s6)
    else ((rdI sg 195 1024 x3).bind fun v3 =>
    (f_X2_addTally a0 x2 x9 ((z0 <<< ((nI 8) &&& 31)) ||| x4) v3 x5 sg).bind fun s4 =>
    k10 x1 x2 x3 x4 x5 x6 x7 (x8 + nI 1) s4))
    else (k10 x1 x2 x3 x4 x5 x6 x7 (x8 + nI 1) sg)))
theorem e_X2_meet_70 {G : GP} {a0 : Nat} {k10 : Int32 → Int32 → Int32 → Int32 → Int32 → Int32 → Int32 → Int32 → ST → Option ST} {x1 : Int32} {x2 : Int32} {x3 : Int32} {x4 : Int32} {x5 : Int32} {x6 : Int32} {x7 : Int32} {x8 : Int32} {x9 : Int32} {x10 : Int32} {z0 : Int32} {sg : ST} {s : ST} (h0 : CU a0) (hk10 : ∀ {x1 : Int32} {x2 : Int32} {x3 : Int32} {x4 : Int32} {x5 : Int32} {x6 : Int32} {x7 : Int32} {x8 : Int32} {sg : ST}, k10 x1 x2 x3 x4 x5 x6 x7 x8 sg = some s → E G mX2_meet (2, 50) 10 [.ref a0, .int x1, .int x2, .int x3, .int x4, .int x5, .int x6, .int x7, .int x8, D0, D0, D0, D0, D0] [] (mem sg) (QV s)) (h : f_X2_meet_70 a0 k10 x1 x2 x3 x4 x5 x6 x7 x8 x9 x10 z0 sg = some s) : E G mX2_meet (2, 50) 70 [.ref a0, .int x1, .int x2, .int x3, .int x4, .int x5, .int x6, .int x7, .int x8, .int x9, .int x10, D0, D0, D0] [.int z0] (mem sg) (QV s) := by
  unfold f_X2_meet_70 at h
  refine E_istore (pc := 70) (L2 := [_, _, _, _, _, _, _, _, _, _, _, _, _, _]) rfl rfl dX2_meet_70 ?_
  refine E_iload (pc := 72) rfl dX2_meet_72 ?_
  refine E_im1 (pc := 74) dX2_meet_74 ?_
  refine T_icmp_ne (pc := 75) 81 dX2_meet_75 (by decide) h (fun h => ?_) (fun h => ?_)
  · refine E_iload (pc := 81) rfl dX2_meet_81 ?_
    refine E_bipush (pc := 83) (nI 8) (by decide) dX2_meet_83 ?_
    refine E_ishl (pc := 85) dX2_meet_85 ?_
    refine E_iload (pc := 86) rfl dX2_meet_86 ?_
    refine E_ior (pc := 88) dX2_meet_88 ?_
    refine E_istore (pc := 89) (L2 := [_, _, _, _, _, _, _, _, _, _, _, _, _, _]) rfl rfl dX2_meet_89 ?_
    refine E_iload_n (pc := 91) rfl dX2_meet_91 ?_
    refine E_iconst (pc := 92) 1 rfl dX2_meet_92 ?_
    refine E_iadd (pc := 93) dX2_meet_93 ?_
    refine E_sipush (pc := 94) (nI 1024) (by decide) dX2_meet_94 ?_
    refine E_imul (pc := 97) dX2_meet_97 ?_
    refine E_iload (pc := 98) rfl dX2_meet_98 ?_
    refine E_iadd (pc := 100) dX2_meet_100 ?_
    refine E_istore (pc := 101) (L2 := [_, _, _, _, _, _, _, _, _, _, _, _, _, _]) rfl rfl dX2_meet_101 ?_
    refine E_iload_n (pc := 103) rfl dX2_meet_103 ?_
    refine T_if_ne (pc := 104) 129 dX2_meet_104 (by decide) h (fun h => ?_) (fun h => ?_)
    · refine E_aload_n (pc := 129) rfl dX2_meet_129 ?_
      refine R_getR (pc := 130) (b := a0 + 1) f2_9 dX2_meet_130 (ent_st h0.1) (by decide) rfl rfl ?_
      refine E_iload (pc := 133) rfl dX2_meet_133 ?_
      refine T_iald (pc := 135) dX2_meet_135 (ent_st h0.2.1) (by decide) h (fun v2 h => ?_)
      refine E_iload (pc := 136) rfl dX2_meet_136 ?_
      refine T_icmp_ne (pc := 138) 183 dX2_meet_138 (by decide) h (fun h => ?_) (fun h => ?_)
      · refine T_iinc (pc := 183) (m := 1) (L2 := [_, _, _, _, _, _, _, _, _, _, _, _, _, _]) rfl rfl rfl rfl dX2_meet_183 ?_
        refine E_goto (pc := 186) 10 (by decide) dX2_meet_186 ?_
        refine E_kp [true, true, true, true, true, true, true, true, true, false, false, false, false, false] (L2 := [_, _, _, _, _, _, _, _, _, D0, D0, D0, D0, D0]) rfl rfl ?_
        exact hk10 h
      · refine E_iload_n (pc := 141) rfl dX2_meet_141 ?_
        refine E_iconst (pc := 142) 1 rfl dX2_meet_142 ?_
        refine T_icmp_ne (pc := 143) 166 dX2_meet_143 (by decide) h (fun h => ?_) (fun h => ?_)
        · refine E_aload_n (pc := 166) rfl dX2_meet_166 ?_
          refine E_iload_n (pc := 167) rfl dX2_meet_167 ?_
          refine E_iload (pc := 168) rfl dX2_meet_168 ?_
          refine E_iload (pc := 170) rfl dX2_meet_170 ?_
          refine E_aload_n (pc := 172) rfl dX2_meet_172 ?_
          refine R_getR (pc := 173) (b := 195) f2_61 dX2_meet_173 (ent_st h0.1) (by decide) rfl rfl ?_
          refine E_iload_n (pc := 176) rfl dX2_meet_176 ?_
          refine T_iald (pc := 177) dX2_meet_177 (ent_st TR195) (by decide) h (fun v3 h => ?_)
          refine E_iload (pc := 178) rfl dX2_meet_178 ?_
          obtain ⟨s4, hp, h⟩ := bd_some h
          refine E_callV (pc := 180) (As := [_, _, _, _, _]) (fc := (1, 20)) s2_165_2 oX2_addTally dX2_meet_180 (mem_ob (ent_st h0.1)) rfl rfl (Nat.le_of_ble_eq_true rfl) rfl rfl (by decide) (e_X2_addTally h0 hp) (fun rv_ M_ hq_ => ?_)
          obtain ⟨rfl, rfl⟩ := hq_
          refine T_iinc (pc := 183) (m := 1) (L2 := [_, _, _, _, _, _, _, _, _, _, _, _, _, _]) rfl rfl rfl rfl dX2_meet_183 ?_
          refine E_goto (pc := 186) 10 (by decide) dX2_meet_186 ?_
          refine E_kp [true, true, true, true, true, true, true, true, true, false, false, false, false, false] (L2 := [_, _, _, _, _, _, _, _, _, D0, D0, D0, D0, D0]) rfl rfl ?_
          exact hk10 h
        · refine E_aload_n (pc := 146) rfl dX2_meet_146 ?_
          refine E_iload_n (pc := 147) rfl dX2_meet_147 ?_
          refine E_iload (pc := 148) rfl dX2_meet_148 ?_
          refine E_iload (pc := 150) rfl dX2_meet_150 ?_
          refine E_aload_n (pc := 152) rfl dX2_meet_152 ?_
          refine R_getR (pc := 153) (b := 195) f2_61 dX2_meet_153 (ent_st h0.1) (by decide) rfl rfl ?_
          refine E_iload_n (pc := 156) rfl dX2_meet_156 ?_
          refine T_iald (pc := 157) dX2_meet_157 (ent_st TR195) (by decide) h (fun v5 h => ?_)
          refine E_iload (pc := 158) rfl dX2_meet_158 ?_
          obtain ⟨s6, hp, h⟩ := bd_some h
          refine E_callV (pc := 160) (As := [_, _, _, _, _]) (fc := (1, 24)) s2_161_2 oX2_keep dX2_meet_160 (mem_ob (ent_st h0.1)) rfl rfl (Nat.le_of_ble_eq_true rfl) rfl rfl (by decide) (e_X2_keep h0 hp) (fun rv_ M_ hq_ => ?_)
          obtain ⟨rfl, rfl⟩ := hq_
          refine E_goto (pc := 163) 183 (by decide) dX2_meet_163 ?_
          refine T_iinc (pc := 183) (m := 1) (L2 := [_, _, _, _, _, _, _, _, _, _, _, _, _, _]) rfl rfl rfl rfl dX2_meet_183 ?_
          refine E_goto (pc := 186) 10 (by decide) dX2_meet_186 ?_
          refine E_kp [true, true, true, true, true, true, true, true, true, false, false, false, false, false] (L2 := [_, _, _, _, _, _, _, _, _, D0, D0, D0, D0, D0]) rfl rfl ?_
          exact hk10 h
    · refine E_aload_n (pc := 107) rfl dX2_meet_107 ?_
      refine R_getR (pc := 108) (b := a0 + 1) f2_9 dX2_meet_108 (ent_st h0.1) (by decide) rfl rfl ?_
      refine E_iload (pc := 111) rfl dX2_meet_111 ?_
      refine E_aload_n (pc := 113) rfl dX2_meet_113 ?_
      refine R_getR (pc := 114) (b := a0 + 1) f2_9 dX2_meet_114 (ent_st h0.1) (by decide) rfl rfl ?_
      refine E_iload (pc := 117) rfl dX2_meet_117 ?_
      refine T_iald (pc := 119) dX2_meet_119 (ent_st h0.2.1) (by decide) h (fun v7 h => ?_)
      refine E_iload (pc := 120) rfl dX2_meet_120 ?_
      refine E_mmin (pc := 122) (by decide +kernel) (by decide) (Nat.le_of_ble_eq_true rfl) dX2_meet_122 ?_
      refine T_iast (pc := 125) dX2_meet_125 (ent_st h0.2.1) (by decide) h (fun s8 h => ?_)
      refine E_goto (pc := 126) 183 (by decide) dX2_meet_126 ?_
      refine T_iinc (pc := 183) (m := 1) (L2 := [_, _, _, _, _, _, _, _, _, _, _, _, _, _]) rfl rfl rfl rfl dX2_meet_183 ?_
      refine E_goto (pc := 186) 10 (by decide) dX2_meet_186 ?_
      refine E_kp [true, true, true, true, true, true, true, true, true, false, false, false, false, false] (L2 := [_, _, _, _, _, _, _, _, _, D0, D0, D0, D0, D0]) rfl rfl ?_
      exact hk10 h
  · refine E_goto (pc := 78) 183 (by decide) dX2_meet_78 ?_
    refine T_iinc (pc := 183) (m := 1) (L2 := [_, _, _, _, _, _, _, _, _, _, _, _, _, _]) rfl rfl rfl rfl dX2_meet_183 ?_
    refine E_goto (pc := 186) 10 (by decide) dX2_meet_186 ?_
    refine E_kp [true, true, true, true, true, true, true, true, true, false, false, false, false, false] (L2 := [_, _, _, _, _, _, _, _, _, D0, D0, D0, D0, D0]) rfl rfl ?_
    exact hk10 h
noncomputable def f_X2_meet_10 (a0 : Nat) : Nat → Int32 → Int32 → Int32 → Int32 → Int32 → Int32 → Int32 → Int32 → ST → Option ST
  | 0, _, _, _, _, _, _, _, _, _ => none
  | n + 1, x1, x2, x3, x4, x5, x6, x7, x8, sg =>
    if x8 < (sg.1 a0 9) then
    ((rdI sg (a0 + 1) 13312 ((x2 * (nI 1024)) + ((x8 <<< ((nI 8) &&& 31)) ||| x7))).bind fun v1 =>
    if (v1 + x6) < (nI 1048576) then
    (bd2 (f_X0_flagsAfter (a0 + 8) x8 x2 x5 sg) fun v10 s9 =>
    f_X2_meet_70 a0 (f_X2_meet_10 a0 n) x1 x2 x3 x4 x5 x6 x7 x8 ((x8 <<< ((nI 8) &&& 31)) ||| x7) (v1 + x6) v10 s9)
    else (f_X2_meet_70 a0 (f_X2_meet_10 a0 n) x1 x2 x3 x4 x5 x6 x7 x8 ((x8 <<< ((nI 8) &&& 31)) ||| x7) (v1 + x6) (-1) sg))
    else (some sg)
theorem e_X2_meet_10 {G : GP} {a0 : Nat} {s : ST} (h0 : CU a0) : ∀ (n : Nat) {x1 : Int32} {x2 : Int32} {x3 : Int32} {x4 : Int32} {x5 : Int32} {x6 : Int32} {x7 : Int32} {x8 : Int32} {sg : ST}, f_X2_meet_10 a0 n x1 x2 x3 x4 x5 x6 x7 x8 sg = some s → E G mX2_meet (2, 50) 10 [.ref a0, .int x1, .int x2, .int x3, .int x4, .int x5, .int x6, .int x7, .int x8, D0, D0, D0, D0, D0] [] (mem sg) (QV s) := by
  intro n
  induction n with
  | zero => intro _ _ _ _ _ _ _ _ _ h; rw [f_X2_meet_10] at h; cases h
  | succ n ih =>
    intro x1 x2 x3 x4 x5 x6 x7 x8 sg h
    rw [f_X2_meet_10] at h
    refine E_iload (pc := 10) rfl dX2_meet_10 ?_
    refine E_aload_n (pc := 12) rfl dX2_meet_12 ?_
    refine R_getI (pc := 13) f2_29 dX2_meet_13 (ent_st h0.1) (by decide) rfl ?_
    refine T_icmp_ge (pc := 16) 189 dX2_meet_16 (by decide) h (fun h => ?_) (fun h => ?_)
    · exact E_return (pc := 189) rfl dX2_meet_189 (QV_of h)
    · refine E_iload (pc := 19) rfl dX2_meet_19 ?_
      refine E_bipush (pc := 21) (nI 8) (by decide) dX2_meet_21 ?_
      refine E_ishl (pc := 23) dX2_meet_23 ?_
      refine E_iload (pc := 24) rfl dX2_meet_24 ?_
      refine E_ior (pc := 26) dX2_meet_26 ?_
      refine E_istore (pc := 27) (L2 := [_, _, _, _, _, _, _, _, _, _, _, _, _, _]) rfl rfl dX2_meet_27 ?_
      refine E_aload_n (pc := 29) rfl dX2_meet_29 ?_
      refine R_getR (pc := 30) (b := a0 + 1) f2_9 dX2_meet_30 (ent_st h0.1) (by decide) rfl rfl ?_
      refine E_iload_n (pc := 33) rfl dX2_meet_33 ?_
      refine E_sipush (pc := 34) (nI 1024) (by decide) dX2_meet_34 ?_
      refine E_imul (pc := 37) dX2_meet_37 ?_
      refine E_iload (pc := 38) rfl dX2_meet_38 ?_
      refine E_iadd (pc := 40) dX2_meet_40 ?_
      refine T_iald (pc := 41) dX2_meet_41 (ent_st h0.2.1) (by decide) h (fun v1 h => ?_)
      refine E_iload (pc := 42) rfl dX2_meet_42 ?_
      refine E_iadd (pc := 44) dX2_meet_44 ?_
      refine E_istore (pc := 45) (L2 := [_, _, _, _, _, _, _, _, _, _, _, _, _, _]) rfl rfl dX2_meet_45 ?_
      refine E_iload (pc := 47) rfl dX2_meet_47 ?_
      refine E_ldc (pc := 49) (v := nI 1048576) q2_93 dX2_meet_49 ?_
      refine T_icmp_ge (pc := 51) 69 dX2_meet_51 (by decide) h (fun h => ?_) (fun h => ?_)
      · refine E_im1 (pc := 69) dX2_meet_69 ?_
        refine e_X2_meet_70 h0 (fun h => ih h) h
      · refine E_aload_n (pc := 54) rfl dX2_meet_54 ?_
        refine R_getR (pc := 55) (b := a0 + 8) f2_72 dX2_meet_55 (ent_st h0.1) (by decide) rfl rfl ?_
        refine E_iload (pc := 58) rfl dX2_meet_58 ?_
        refine E_iload_n (pc := 60) rfl dX2_meet_60 ?_
        refine E_iload (pc := 61) rfl dX2_meet_61 ?_
        obtain ⟨v10, s9, hp, h⟩ := bd2_some h
        refine E_callV (pc := 63) (As := [_, _, _]) (fc := (0, 0)) s2_157_0 oX0_flagsAfter dX2_meet_63 (mem_ob (ent_st h0.2.2.2.2.2.2.2.2.1)) rfl rfl (Nat.le_of_ble_eq_true rfl) rfl rfl (by decide) (e_X0_flagsAfter h0.2.2.2.2.2.2.2.2 hp) (fun rv_ M_ hq_ => ?_)
        obtain ⟨rfl, rfl⟩ := hq_
        refine E_goto (pc := 66) 70 (by decide) dX2_meet_66 ?_
        refine e_X2_meet_70 h0 (fun h => ih h) h
noncomputable def f_X2_meet (a0 : Nat) (x1 : Int32) (x2 : Int32) (x3 : Int32) (x4 : Int32) (x5 : Int32) (x6 : Int32) (σ : ST) : Option ST :=
    f_X2_meet_10 a0 FU x1 x2 x3 x4 x5 x6 (x3 &&& (nI 255)) (nI 0) σ
theorem e_X2_meet {G : GP} {a0 : Nat} {x1 : Int32} {x2 : Int32} {x3 : Int32} {x4 : Int32} {x5 : Int32} {x6 : Int32} {σ : ST} {s : ST} (h0 : CU a0) (h : f_X2_meet a0 x1 x2 x3 x4 x5 x6 σ = some s) : E G mX2_meet (2, 50) 0 [.ref a0, .int x1, .int x2, .int x3, .int x4, .int x5, .int x6, D0, D0, D0, D0, D0, D0, D0] [] (mem σ) (QV s) := by
  unfold f_X2_meet at h
  refine E_iload_n (pc := 0) rfl dX2_meet_0 ?_
  refine E_sipush (pc := 1) (nI 255) (by decide) dX2_meet_1 ?_
  refine E_iand (pc := 4) dX2_meet_4 ?_
  refine E_istore (pc := 5) (L2 := [_, _, _, _, _, _, _, _, _, _, _, _, _, _]) rfl rfl dX2_meet_5 ?_
  refine E_iconst (pc := 7) 0 rfl dX2_meet_7 ?_
  refine E_istore (pc := 8) (L2 := [_, _, _, _, _, _, _, _, _, _, _, _, _, _]) rfl rfl dX2_meet_8 ?_
  refine e_X2_meet_10 h0 FU h
noncomputable def f_X2_walk_48 (a0 : Nat) (k105 : Int32 → Int32 → Int32 → Int32 → ST → Option ST) : Nat → Int32 → Int32 → Int32 → Int32 → Int32 → Int32 → ST → Option ST
  | 0, _, _, _, _, _, _, _ => none
  | n + 1, x1, x2, x3, x4, x5, x6, sg =>
    if x6 < x3 then
    ((rdI sg (a0 + 3) 1024 x6).bind fun v7 =>
    (rdI sg 196 7168 ((v7 * (nI 7)) + x4)).bind fun v8 =>
    if v8 = (-1) then
    ((f_X2_walk_48 a0 k105 n) x1 x2 x3 x4 x5 (x6 + nI 1) sg)
    else ((rdI sg (a0 + 3) 1024 x6).bind fun v9 =>
    (f_X2_meet a0 x1 x2 v9 v8 x4 x5 sg).bind fun s10 =>
    (f_X2_walk_48 a0 k105 n) x1 x2 x3 x4 x5 (x6 + nI 1) s10))
    else (k105 x1 x2 x3 x4 sg)
theorem e_X2_walk_48 {G : GP} {a0 : Nat} {k105 : Int32 → Int32 → Int32 → Int32 → ST → Option ST} {s : ST} (h0 : CU a0) (hk105 : ∀ {x1 : Int32} {x2 : Int32} {x3 : Int32} {x4 : Int32} {sg : ST}, k105 x1 x2 x3 x4 sg = some s → E G mX2_walk (3, 83) 105 [.ref a0, .int x1, .int x2, .int x3, .int x4, D0, D0, D0] [] (mem sg) (QV s)) : ∀ (n : Nat) {x1 : Int32} {x2 : Int32} {x3 : Int32} {x4 : Int32} {x5 : Int32} {x6 : Int32} {sg : ST}, f_X2_walk_48 a0 k105 n x1 x2 x3 x4 x5 x6 sg = some s → E G mX2_walk (3, 83) 48 [.ref a0, .int x1, .int x2, .int x3, .int x4, .int x5, .int x6, D0] [] (mem sg) (QV s) := by
  intro n
  induction n with
  | zero => intro _ _ _ _ _ _ _ h; rw [f_X2_walk_48] at h; cases h
  | succ n ih =>
    intro x1 x2 x3 x4 x5 x6 sg h
    rw [f_X2_walk_48] at h
    refine E_iload (pc := 48) rfl dX2_walk_48 ?_
    refine E_iload_n (pc := 50) rfl dX2_walk_50 ?_
    refine T_icmp_ge (pc := 51) 105 dX2_walk_51 (by decide) h (fun h => ?_) (fun h => ?_)
    · refine E_kp [true, true, true, true, true, false, false, false] (L2 := [_, _, _, _, _, D0, D0, D0]) rfl rfl ?_
      exact hk105 h
    · refine E_aload_n (pc := 54) rfl dX2_walk_54 ?_
      refine R_getR (pc := 55) (b := 196) f2_64 dX2_walk_55 (ent_st h0.1) (by decide) rfl rfl ?_
      refine E_aload_n (pc := 58) rfl dX2_walk_58 ?_
      refine R_getR (pc := 59) (b := a0 + 3) f2_19 dX2_walk_59 (ent_st h0.1) (by decide) rfl rfl ?_
      refine E_iload (pc := 62) rfl dX2_walk_62 ?_
      refine T_iald (pc := 64) dX2_walk_64 (ent_st h0.2.2.2.1) (by decide) h (fun v7 h => ?_)
      refine E_bipush (pc := 65) (nI 7) (by decide) dX2_walk_65 ?_
      refine E_imul (pc := 67) dX2_walk_67 ?_
      refine E_iload (pc := 68) rfl dX2_walk_68 ?_
      refine E_iadd (pc := 70) dX2_walk_70 ?_
      refine T_iald (pc := 71) dX2_walk_71 (ent_st NX196) (by decide) h (fun v8 h => ?_)
      refine E_istore (pc := 72) (L2 := [_, _, _, _, _, _, _, _]) rfl rfl dX2_walk_72 ?_
      refine E_iload (pc := 74) rfl dX2_walk_74 ?_
      refine E_im1 (pc := 76) dX2_walk_76 ?_
      refine T_icmp_eq (pc := 77) 99 dX2_walk_77 (by decide) h (fun h => ?_) (fun h => ?_)
      · refine T_iinc (pc := 99) (m := 1) (L2 := [_, _, _, _, _, _, _, _]) rfl rfl rfl rfl dX2_walk_99 ?_
        refine E_goto (pc := 102) 48 (by decide) dX2_walk_102 ?_
        refine E_kp [true, true, true, true, true, true, true, false] (L2 := [_, _, _, _, _, _, _, D0]) rfl rfl ?_
        exact ih h
      · refine E_aload_n (pc := 80) rfl dX2_walk_80 ?_
        refine E_iload_n (pc := 81) rfl dX2_walk_81 ?_
        refine E_iload_n (pc := 82) rfl dX2_walk_82 ?_
        refine E_aload_n (pc := 83) rfl dX2_walk_83 ?_
        refine R_getR (pc := 84) (b := a0 + 3) f2_19 dX2_walk_84 (ent_st h0.1) (by decide) rfl rfl ?_
        refine E_iload (pc := 87) rfl dX2_walk_87 ?_
        refine T_iald (pc := 89) dX2_walk_89 (ent_st h0.2.2.2.1) (by decide) h (fun v9 h => ?_)
        refine E_iload (pc := 90) rfl dX2_walk_90 ?_
        refine E_iload (pc := 92) rfl dX2_walk_92 ?_
        refine E_iload (pc := 94) rfl dX2_walk_94 ?_
        obtain ⟨s10, hp, h⟩ := bd_some h
        refine E_callV (pc := 96) (As := [_, _, _, _, _, _]) (fc := (2, 50)) s2_140_2 oX2_meet dX2_walk_96 (mem_ob (ent_st h0.1)) rfl rfl (Nat.le_of_ble_eq_true rfl) rfl rfl (by decide) (e_X2_meet h0 hp) (fun rv_ M_ hq_ => ?_)
        obtain ⟨rfl, rfl⟩ := hq_
        refine T_iinc (pc := 99) (m := 1) (L2 := [_, _, _, _, _, _, _, _]) rfl rfl rfl rfl dX2_walk_99 ?_
        refine E_goto (pc := 102) 48 (by decide) dX2_walk_102 ?_
        refine E_kp [true, true, true, true, true, true, true, false] (L2 := [_, _, _, _, _, _, _, D0]) rfl rfl ?_
        exact ih h
noncomputable def f_X2_walk_10 (a0 : Nat) : Nat → Int32 → Int32 → Int32 → Int32 → ST → Option ST
  | 0, _, _, _, _, _ => none
  | n + 1, x1, x2, x3, x4, sg =>
    if x4 < (nI 7) then
    (bd2 (f_X0_mayChoose (a0 + 8) x2 x4 sg) fun v4 s3 =>
    if v4 = 0 then
    ((f_X2_walk_10 a0 n) x1 x2 x3 (x4 + nI 1) s3)
    else (bd2 (f_X0_costOf (a0 + 8) x2 x4 s3) fun v6 s5 =>
    f_X2_walk_48 a0 (fun x1_11 x2_12 x3_13 x4_14 s15 =>
    (f_X2_walk_10 a0 n) x1_11 x2_12 x3_13 (x4_14 + nI 1) s15) FU x1 x2 x3 x4 v6 (nI 0) s5))
    else (some sg)
theorem e_X2_walk_10 {G : GP} {a0 : Nat} {s : ST} (h0 : CU a0) : ∀ (n : Nat) {x1 : Int32} {x2 : Int32} {x3 : Int32} {x4 : Int32} {sg : ST}, f_X2_walk_10 a0 n x1 x2 x3 x4 sg = some s → E G mX2_walk (3, 83) 10 [.ref a0, .int x1, .int x2, .int x3, .int x4, D0, D0, D0] [] (mem sg) (QV s) := by
  intro n
  induction n with
  | zero => intro _ _ _ _ _ h; rw [f_X2_walk_10] at h; cases h
  | succ n ih =>
    intro x1 x2 x3 x4 sg h
    rw [f_X2_walk_10] at h
    refine E_iload (pc := 10) rfl dX2_walk_10 ?_
    refine E_bipush (pc := 12) (nI 7) (by decide) dX2_walk_12 ?_
    refine T_icmp_ge (pc := 14) 111 dX2_walk_14 (by decide) h (fun h => ?_) (fun h => ?_)
    · exact E_return (pc := 111) rfl dX2_walk_111 (QV_of h)
    · refine E_aload_n (pc := 17) rfl dX2_walk_17 ?_
      refine R_getR (pc := 18) (b := a0 + 8) f2_72 dX2_walk_18 (ent_st h0.1) (by decide) rfl rfl ?_
      refine E_iload_n (pc := 21) rfl dX2_walk_21 ?_
      refine E_iload (pc := 22) rfl dX2_walk_22 ?_
      obtain ⟨v4, s3, hp, h⟩ := bd2_some h
      refine E_callV (pc := 24) (As := [_, _]) (fc := (0, 0)) s2_134_0 oX0_mayChoose dX2_walk_24 (mem_ob (ent_st h0.2.2.2.2.2.2.2.2.1)) rfl rfl (Nat.le_of_ble_eq_true rfl) rfl rfl (by decide) (e_X0_mayChoose h0.2.2.2.2.2.2.2.2 hp) (fun rv_ M_ hq_ => ?_)
      obtain ⟨rfl, rfl⟩ := hq_
      refine T_if_ne (pc := 27) 33 dX2_walk_27 (by decide) h (fun h => ?_) (fun h => ?_)
      · refine E_aload_n (pc := 33) rfl dX2_walk_33 ?_
        refine R_getR (pc := 34) (b := a0 + 8) f2_72 dX2_walk_34 (ent_st h0.1) (by decide) rfl rfl ?_
        refine E_iload_n (pc := 37) rfl dX2_walk_37 ?_
        refine E_iload (pc := 38) rfl dX2_walk_38 ?_
        obtain ⟨v6, s5, hp, h⟩ := bd2_some h
        refine E_callV (pc := 40) (As := [_, _]) (fc := (0, 0)) s2_137_0 oX0_costOf dX2_walk_40 (mem_ob (ent_st h0.2.2.2.2.2.2.2.2.1)) rfl rfl (Nat.le_of_ble_eq_true rfl) rfl rfl (by decide) (e_X0_costOf h0.2.2.2.2.2.2.2.2 hp) (fun rv_ M_ hq_ => ?_)
        obtain ⟨rfl, rfl⟩ := hq_
        refine E_istore (pc := 43) (L2 := [_, _, _, _, _, _, _, _]) rfl rfl dX2_walk_43 ?_
        refine E_iconst (pc := 45) 0 rfl dX2_walk_45 ?_
        refine E_istore (pc := 46) (L2 := [_, _, _, _, _, _, _, _]) rfl rfl dX2_walk_46 ?_
        refine e_X2_walk_48 h0 ?_ FU h
        · intro x1_11 x2_12 x3_13 x4_14 s15 h
          refine T_iinc (pc := 105) (m := 1) (L2 := [_, _, _, _, _, _, _, _]) rfl rfl rfl rfl dX2_walk_105 ?_
          refine E_goto (pc := 108) 10 (by decide) dX2_walk_108 ?_
          exact ih h
      · refine E_goto (pc := 30) 105 (by decide) dX2_walk_30 ?_
        refine T_iinc (pc := 105) (m := 1) (L2 := [_, _, _, _, _, _, _, _]) rfl rfl rfl rfl dX2_walk_105 ?_
        refine E_goto (pc := 108) 10 (by decide) dX2_walk_108 ?_
        exact ih h
noncomputable def f_X2_walk (a0 : Nat) (x1 : Int32) (x2 : Int32) (σ : ST) : Option ST :=
    bd2 (f_X2_gatherLooks a0 x1 x2 σ) fun v2 s1 =>
    f_X2_walk_10 a0 FU x1 x2 v2 (nI 0) s1
theorem e_X2_walk {G : GP} {a0 : Nat} {x1 : Int32} {x2 : Int32} {σ : ST} {s : ST} (h0 : CU a0) (h : f_X2_walk a0 x1 x2 σ = some s) : E G mX2_walk (3, 83) 0 [.ref a0, .int x1, .int x2, D0, D0, D0, D0, D0] [] (mem σ) (QV s) := by
  unfold f_X2_walk at h
  refine E_aload_n (pc := 0) rfl dX2_walk_0 ?_
  refine E_iload_n (pc := 1) rfl dX2_walk_1 ?_
  refine E_iload_n (pc := 2) rfl dX2_walk_2 ?_
  obtain ⟨v2, s1, hp, h⟩ := bd2_some h
  refine E_callV (pc := 3) (As := [_, _]) (fc := (2, 43)) s2_131_2 oX2_gatherLooks dX2_walk_3 (mem_ob (ent_st h0.1)) rfl rfl (Nat.le_of_ble_eq_true rfl) rfl rfl (by decide) (e_X2_gatherLooks h0 hp) (fun rv_ M_ hq_ => ?_)
  obtain ⟨rfl, rfl⟩ := hq_
  refine E_istore_n (pc := 6) (L2 := [_, _, _, _, _, _, _, _]) rfl rfl dX2_walk_6 ?_
  refine E_iconst (pc := 7) 0 rfl dX2_walk_7 ?_
  refine E_istore (pc := 8) (L2 := [_, _, _, _, _, _, _, _]) rfl rfl dX2_walk_8 ?_
  refine e_X2_walk_10 h0 FU h
noncomputable def f_X2_find_34 (a0 : Nat) (k59 : ST → Option (Int32 × ST)) : Nat → Int32 → ST → Option (Int32 × ST)
  | 0, _, _ => none
  | n + 1, x4, sg =>
    if x4 < ((nI 1) <<< ((sg.1 a0 7) &&& 31)) then
    ((wrI sg (a0 + 1) 13312 x4 (nI 0)).bind fun s4 =>
    (f_X2_find_34 a0 k59 n) (x4 + nI 1) s4)
    else (k59 sg)
theorem e_X2_find_34 {G : GP} {a0 : Nat} {k59 : ST → Option (Int32 × ST)} {v : Int32} {s : ST} (h0 : CU a0) (hk59 : ∀ {sg : ST}, k59 sg = some (v, s) → E G mX2_find (4, 110) 59 [.ref a0, D0, D0, D0, D0, D0] [] (mem sg) (QI v s)) : ∀ (n : Nat) {x4 : Int32} {sg : ST}, f_X2_find_34 a0 k59 n x4 sg = some (v, s) → E G mX2_find (4, 110) 34 [.ref a0, D0, D0, D0, .int x4, D0] [] (mem sg) (QI v s) := by
  intro n
  induction n with
  | zero => intro _ _ h; rw [f_X2_find_34] at h; cases h
  | succ n ih =>
    intro x4 sg h
    rw [f_X2_find_34] at h
    refine E_iload (pc := 34) rfl dX2_find_34 ?_
    refine E_iconst (pc := 36) 1 rfl dX2_find_36 ?_
    refine E_aload_n (pc := 37) rfl dX2_find_37 ?_
    refine R_getI (pc := 38) f2_22 dX2_find_38 (ent_st h0.1) (by decide) rfl ?_
    refine E_ishl (pc := 41) dX2_find_41 ?_
    refine T_icmp_ge (pc := 42) 59 dX2_find_42 (by decide) h (fun h => ?_) (fun h => ?_)
    · refine E_kp [true, false, false, false, false, false] (L2 := [_, D0, D0, D0, D0, D0]) rfl rfl ?_
      exact hk59 h
    · refine E_aload_n (pc := 45) rfl dX2_find_45 ?_
      refine R_getR (pc := 46) (b := a0 + 1) f2_9 dX2_find_46 (ent_st h0.1) (by decide) rfl rfl ?_
      refine E_iload (pc := 49) rfl dX2_find_49 ?_
      refine E_iconst (pc := 51) 0 rfl dX2_find_51 ?_
      refine T_iast (pc := 52) dX2_find_52 (ent_st h0.2.1) (by decide) h (fun s4 h => ?_)
      refine T_iinc (pc := 53) (m := 1) (L2 := [_, _, _, _, _, _]) rfl rfl rfl rfl dX2_find_53 ?_
      refine E_goto (pc := 56) 34 (by decide) dX2_find_56 ?_
      exact ih h
noncomputable def f_X2_find_62 (a0 : Nat) (k90 : ST → Option (Int32 × ST)) : Nat → Int32 → ST → Option (Int32 × ST)
  | 0, _, _ => none
  | n + 1, x4, sg =>
    if x4 < (nI 12) then
    ((f_X2_clearCosts a0 (x4 + (nI 1)) sg).bind fun s6 =>
    (f_X2_walk a0 (nI 0) x4 s6).bind fun s7 =>
    (f_X2_find_62 a0 k90 n) (x4 + nI 1) s7)
    else (k90 sg)
theorem e_X2_find_62 {G : GP} {a0 : Nat} {k90 : ST → Option (Int32 × ST)} {v : Int32} {s : ST} (h0 : CU a0) (hk90 : ∀ {sg : ST}, k90 sg = some (v, s) → E G mX2_find (4, 110) 90 [.ref a0, D0, D0, D0, D0, D0] [] (mem sg) (QI v s)) : ∀ (n : Nat) {x4 : Int32} {sg : ST}, f_X2_find_62 a0 k90 n x4 sg = some (v, s) → E G mX2_find (4, 110) 62 [.ref a0, D0, D0, D0, .int x4, D0] [] (mem sg) (QI v s) := by
  intro n
  induction n with
  | zero => intro _ _ h; rw [f_X2_find_62] at h; cases h
  | succ n ih =>
    intro x4 sg h
    rw [f_X2_find_62] at h
    refine E_iload (pc := 62) rfl dX2_find_62 ?_
    refine E_bipush (pc := 64) (nI 12) (by decide) dX2_find_64 ?_
    refine T_icmp_ge (pc := 66) 90 dX2_find_66 (by decide) h (fun h => ?_) (fun h => ?_)
    · refine E_kp [true, false, false, false, false, false] (L2 := [_, D0, D0, D0, D0, D0]) rfl rfl ?_
      exact hk90 h
    · refine E_aload_n (pc := 69) rfl dX2_find_69 ?_
      refine E_iload (pc := 70) rfl dX2_find_70 ?_
      refine E_iconst (pc := 72) 1 rfl dX2_find_72 ?_
      refine E_iadd (pc := 73) dX2_find_73 ?_
      obtain ⟨s6, hp, h⟩ := bd_some h
      refine E_callV (pc := 74) (As := [_]) (fc := (0, 0)) s2_87_2 oX2_clearCosts dX2_find_74 (mem_ob (ent_st h0.1)) rfl rfl (Nat.le_of_ble_eq_true rfl) rfl rfl (by decide) (e_X2_clearCosts h0 hp) (fun rv_ M_ hq_ => ?_)
      obtain ⟨rfl, rfl⟩ := hq_
      refine E_aload_n (pc := 77) rfl dX2_find_77 ?_
      refine E_iconst (pc := 78) 0 rfl dX2_find_78 ?_
      refine E_iload (pc := 79) rfl dX2_find_79 ?_
      obtain ⟨s7, hp, h⟩ := bd_some h
      refine E_callV (pc := 81) (As := [_, _]) (fc := (3, 83)) s2_90_2 oX2_walk dX2_find_81 (mem_ob (ent_st h0.1)) rfl rfl (Nat.le_of_ble_eq_true rfl) rfl rfl (by decide) (e_X2_walk h0 hp) (fun rv_ M_ hq_ => ?_)
      obtain ⟨rfl, rfl⟩ := hq_
      refine T_iinc (pc := 84) (m := 1) (L2 := [_, _, _, _, _, _]) rfl rfl rfl rfl dX2_find_84 ?_
      refine E_goto (pc := 87) 62 (by decide) dX2_find_87 ?_
      exact ih h
noncomputable def f_X2_find_97 (a0 : Nat) (k130 : Int32 → ST → Option (Int32 × ST)) : Nat → Int32 → Int32 → ST → Option (Int32 × ST)
  | 0, _, _, _ => none
  | n + 1, x4, x5, sg =>
    if x5 < (sg.1 a0 10) then
    ((rdI sg (a0 + 1) 13312 ((nI 12288) + x5)).bind fun v9 =>
    (f_X2_find_97 a0 k130 n) (if v9 < x4 then v9 else x4) (x5 + nI 1) sg)
    else (k130 x4 sg)
theorem e_X2_find_97 {G : GP} {a0 : Nat} {k130 : Int32 → ST → Option (Int32 × ST)} {v : Int32} {s : ST} (h0 : CU a0) (hk130 : ∀ {x4 : Int32} {sg : ST}, k130 x4 sg = some (v, s) → E G mX2_find (4, 110) 130 [.ref a0, D0, D0, D0, .int x4, D0] [] (mem sg) (QI v s)) : ∀ (n : Nat) {x4 : Int32} {x5 : Int32} {sg : ST}, f_X2_find_97 a0 k130 n x4 x5 sg = some (v, s) → E G mX2_find (4, 110) 97 [.ref a0, D0, D0, D0, .int x4, .int x5] [] (mem sg) (QI v s) := by
  intro n
  induction n with
  | zero => intro _ _ _ h; rw [f_X2_find_97] at h; cases h
  | succ n ih =>
    intro x4 x5 sg h
    rw [f_X2_find_97] at h
    refine E_iload (pc := 97) rfl dX2_find_97 ?_
    refine E_aload_n (pc := 99) rfl dX2_find_99 ?_
    refine R_getI (pc := 100) f2_32 dX2_find_100 (ent_st h0.1) (by decide) rfl ?_
    refine T_icmp_ge (pc := 103) 130 dX2_find_103 (by decide) h (fun h => ?_) (fun h => ?_)
    · refine E_kp [true, false, false, false, true, false] (L2 := [_, D0, D0, D0, _, D0]) rfl rfl ?_
      exact hk130 h
    · refine E_iload (pc := 106) rfl dX2_find_106 ?_
      refine E_aload_n (pc := 108) rfl dX2_find_108 ?_
      refine R_getR (pc := 109) (b := a0 + 1) f2_9 dX2_find_109 (ent_st h0.1) (by decide) rfl rfl ?_
      refine E_sipush (pc := 112) (nI 12288) (by decide) dX2_find_112 ?_
      refine E_iload (pc := 115) rfl dX2_find_115 ?_
      refine E_iadd (pc := 117) dX2_find_117 ?_
      refine T_iald (pc := 118) dX2_find_118 (ent_st h0.2.1) (by decide) h (fun v9 h => ?_)
      refine E_mmin (pc := 119) (by decide +kernel) (by decide) (Nat.le_of_ble_eq_true rfl) dX2_find_119 ?_
      refine E_istore (pc := 122) (L2 := [_, _, _, _, _, _]) rfl rfl dX2_find_122 ?_
      refine T_iinc (pc := 124) (m := 1) (L2 := [_, _, _, _, _, _]) rfl rfl rfl rfl dX2_find_124 ?_
      refine E_goto (pc := 127) 97 (by decide) dX2_find_127 ?_
      exact ih h
noncomputable def f_X2_find_144 (a0 : Nat) (b0 : Nat) (x4 : Int32) (z1 : Int32) (sg : ST) : Option (Int32 × ST) :=
    (pfI sg b0 12 z1).bind fun s12 =>
    (pfJ s12 a0 13 (0)).bind fun s13 =>
    if x4 < (nI 1048576) then
    (some ((nI 1), s13))
    else (some ((nI 0), s13))
theorem e_X2_find_144 {G : GP} {a0 : Nat} {b0 : Nat} {x4 : Int32} {z1 : Int32} {sg : ST} {v : Int32} {s : ST} (h0 : CU a0) (g0 : CU b0) (h : f_X2_find_144 a0 b0 x4 z1 sg = some (v, s)) : E G mX2_find (4, 110) 144 [.ref a0, D0, D0, D0, .int x4, D0] [.int z1, .ref b0] (mem sg) (QI v s) := by
  unfold f_X2_find_144 at h
  refine T_putI (pc := 144) f2_38 dX2_find_144 (ent_st g0.1) (by decide) rfl (by decide +kernel) h (fun s12 h => ?_)
  refine E_aload_n (pc := 147) rfl dX2_find_147 ?_
  refine E_lconst (pc := 148) 0 rfl dX2_find_148 ?_
  refine T_putJ (pc := 149) f2_41 dX2_find_149 (ent_st h0.1) (by decide) rfl (by decide +kernel) h (fun s13 h => ?_)
  refine E_iload (pc := 152) rfl dX2_find_152 ?_
  refine E_ldc (pc := 154) (v := nI 1048576) q2_93 dX2_find_154 ?_
  refine T_icmp_ge (pc := 156) 163 dX2_find_156 (by decide) h (fun h => ?_) (fun h => ?_)
  · refine E_iconst (pc := 163) 0 rfl dX2_find_163 ?_
    exact E_ireturn (pc := 164) rfl (by decide) dX2_find_164 (QI_of h)
  · refine E_iconst (pc := 159) 1 rfl dX2_find_159 ?_
    refine E_goto (pc := 160) 164 (by decide) dX2_find_160 ?_
    exact E_ireturn (pc := 164) rfl (by decide) dX2_find_164 (QI_of h)
noncomputable def f_X2_find_22 (a0 : Nat) (sg : ST) : Option (Int32 × ST) :=
    (f_X2_sizeUp a0 sg).bind fun s2 =>
    (f_X2_clearCosts a0 (nI 0) s2).bind fun s3 =>
    f_X2_find_34 a0 (fun s5 =>
    f_X2_find_62 a0 (fun s8 =>
    f_X2_find_97 a0 (fun x4_10 s11 =>
    if x4_10 < (nI 1048576) then
    (f_X2_find_144 a0 a0 x4_10 x4_10 s11)
    else (f_X2_find_144 a0 a0 x4_10 (-1) s11)) FU (nI 1048576) (nI 0) s8) FU (nI 0) s5) FU (nI 0) s3
theorem e_X2_find_22 {G : GP} {a0 : Nat} {sg : ST} {v : Int32} {s : ST} (h0 : CU a0) (h : f_X2_find_22 a0 sg = some (v, s)) : E G mX2_find (4, 110) 22 [.ref a0, D0, D0, D0, D0, D0] [] (mem sg) (QI v s) := by
  unfold f_X2_find_22 at h
  refine E_aload_n (pc := 22) rfl dX2_find_22 ?_
  obtain ⟨s2, hp, h⟩ := bd_some h
  refine E_callV (pc := 23) (As := []) (fc := (2, 43)) s2_84_2 oX2_sizeUp dX2_find_23 (mem_ob (ent_st h0.1)) rfl rfl (Nat.le_of_ble_eq_true rfl) rfl rfl (by decide) (e_X2_sizeUp h0 hp) (fun rv_ M_ hq_ => ?_)
  obtain ⟨rfl, rfl⟩ := hq_
  refine E_aload_n (pc := 26) rfl dX2_find_26 ?_
  refine E_iconst (pc := 27) 0 rfl dX2_find_27 ?_
  obtain ⟨s3, hp, h⟩ := bd_some h
  refine E_callV (pc := 28) (As := [_]) (fc := (0, 0)) s2_87_2 oX2_clearCosts dX2_find_28 (mem_ob (ent_st h0.1)) rfl rfl (Nat.le_of_ble_eq_true rfl) rfl rfl (by decide) (e_X2_clearCosts h0 hp) (fun rv_ M_ hq_ => ?_)
  obtain ⟨rfl, rfl⟩ := hq_
  refine E_iconst (pc := 31) 0 rfl dX2_find_31 ?_
  refine E_istore (pc := 32) (L2 := [_, _, _, _, _, _]) rfl rfl dX2_find_32 ?_
  refine e_X2_find_34 h0 ?_ FU h
  · intro s5 h
    refine E_iconst (pc := 59) 0 rfl dX2_find_59 ?_
    refine E_istore (pc := 60) (L2 := [_, _, _, _, _, _]) rfl rfl dX2_find_60 ?_
    refine e_X2_find_62 h0 ?_ FU h
    · intro s8 h
      refine E_ldc (pc := 90) (v := nI 1048576) q2_93 dX2_find_90 ?_
      refine E_istore (pc := 92) (L2 := [_, _, _, _, _, _]) rfl rfl dX2_find_92 ?_
      refine E_iconst (pc := 94) 0 rfl dX2_find_94 ?_
      refine E_istore (pc := 95) (L2 := [_, _, _, _, _, _]) rfl rfl dX2_find_95 ?_
      refine e_X2_find_97 h0 ?_ FU h
      · intro x4_10 s11 h
        refine E_aload_n (pc := 130) rfl dX2_find_130 ?_
        refine E_iload (pc := 131) rfl dX2_find_131 ?_
        refine E_ldc (pc := 133) (v := nI 1048576) q2_93 dX2_find_133 ?_
        refine T_icmp_ge (pc := 135) 143 dX2_find_135 (by decide) h (fun h => ?_) (fun h => ?_)
        · refine E_im1 (pc := 143) dX2_find_143 ?_
          refine e_X2_find_144 h0 h0 h
        · refine E_iload (pc := 138) rfl dX2_find_138 ?_
          refine E_goto (pc := 140) 144 (by decide) dX2_find_140 ?_
          refine e_X2_find_144 h0 h0 h
noncomputable def f_X2_find (a0 : Nat) (x1 : Int32) (x2 : Int32) (x3 : Int32) (σ : ST) : Option (Int32 × ST) :=
    (f_X0_gather (a0 + 8) x1 σ).bind fun s1 =>
    if x2 = (-1) then
    (f_X2_find_22 a0 s1)
    else ((f_X0_addSeen (a0 + 8) x2 x3 s1).bind fun s14 =>
    f_X2_find_22 a0 s14)
theorem e_X2_find {G : GP} {a0 : Nat} {x1 : Int32} {x2 : Int32} {x3 : Int32} {σ : ST} {v : Int32} {s : ST} (h0 : CU a0) (h : f_X2_find a0 x1 x2 x3 σ = some (v, s)) : E G mX2_find (4, 110) 0 [.ref a0, .int x1, .int x2, .int x3, D0, D0] [] (mem σ) (QI v s) := by
  unfold f_X2_find at h
  refine E_aload_n (pc := 0) rfl dX2_find_0 ?_
  refine R_getR (pc := 1) (b := a0 + 8) f2_72 dX2_find_1 (ent_st h0.1) (by decide) rfl rfl ?_
  refine E_iload_n (pc := 4) rfl dX2_find_4 ?_
  obtain ⟨s1, hp, h⟩ := bd_some h
  refine E_callV (pc := 5) (As := [_]) (fc := (2, 45)) s2_76_0 oX0_gather dX2_find_5 (mem_ob (ent_st h0.2.2.2.2.2.2.2.2.1)) rfl rfl (Nat.le_of_ble_eq_true rfl) rfl rfl (by decide) (e_X0_gather h0.2.2.2.2.2.2.2.2 hp) (fun rv_ M_ hq_ => ?_)
  obtain ⟨rfl, rfl⟩ := hq_
  refine E_iload_n (pc := 8) rfl dX2_find_8 ?_
  refine E_im1 (pc := 9) dX2_find_9 ?_
  refine T_icmp_eq (pc := 10) 22 dX2_find_10 (by decide) h (fun h => ?_) (fun h => ?_)
  · refine E_kp [true, false, false, false, false, false] (L2 := [_, D0, D0, D0, D0, D0]) rfl rfl ?_
    refine e_X2_find_22 h0 h
  · refine E_aload_n (pc := 13) rfl dX2_find_13 ?_
    refine R_getR (pc := 14) (b := a0 + 8) f2_72 dX2_find_14 (ent_st h0.1) (by decide) rfl rfl ?_
    refine E_iload_n (pc := 17) rfl dX2_find_17 ?_
    refine E_iload_n (pc := 18) rfl dX2_find_18 ?_
    obtain ⟨s14, hp, h⟩ := bd_some h
    refine E_callV (pc := 19) (As := [_, _]) (fc := (0, 0)) s2_80_0 oX0_addSeen dX2_find_19 (mem_ob (ent_st h0.2.2.2.2.2.2.2.2.1)) rfl rfl (Nat.le_of_ble_eq_true rfl) rfl rfl (by decide) (e_X0_addSeen h0.2.2.2.2.2.2.2.2 hp) (fun rv_ M_ hq_ => ?_)
    obtain ⟨rfl, rfl⟩ := hq_
    refine E_kp [true, false, false, false, false, false] (L2 := [_, D0, D0, D0, D0, D0]) rfl rfl ?_
    refine e_X2_find_22 h0 h
noncomputable def f_X2_clearWays_7 (a0 : Nat) : Nat → Int32 → Int32 → ST → Option ST
  | 0, _, _, _ => none
  | n + 1, x2, x3, sg =>
    if x3 < (sg.1 a0 10) then
    ((wrJ sg (a0 + 2) 2048 (x2 + x3) (0)).bind fun s3 =>
    (f_X2_clearWays_7 a0 n) x2 (x3 + nI 1) s3)
    else (some sg)
theorem e_X2_clearWays_7 {G : GP} {a0 : Nat} {s : ST} (h0 : CU a0) : ∀ (n : Nat) {x2 : Int32} {x3 : Int32} {sg : ST}, f_X2_clearWays_7 a0 n x2 x3 sg = some s → E G mX2_clearWays (1, 20) 7 [.ref a0, D0, .int x2, .int x3] [] (mem sg) (QV s) := by
  intro n
  induction n with
  | zero => intro _ _ _ h; rw [f_X2_clearWays_7] at h; cases h
  | succ n ih =>
    intro x2 x3 sg h
    rw [f_X2_clearWays_7] at h
    refine E_iload_n (pc := 7) rfl dX2_clearWays_7 ?_
    refine E_aload_n (pc := 8) rfl dX2_clearWays_8 ?_
    refine R_getI (pc := 9) f2_32 dX2_clearWays_9 (ent_st h0.1) (by decide) rfl ?_
    refine T_icmp_ge (pc := 12) 30 dX2_clearWays_12 (by decide) h (fun h => ?_) (fun h => ?_)
    · exact E_return (pc := 30) rfl dX2_clearWays_30 (QV_of h)
    · refine E_aload_n (pc := 15) rfl dX2_clearWays_15 ?_
      refine R_getR (pc := 16) (b := a0 + 2) f2_15 dX2_clearWays_16 (ent_st h0.1) (by decide) rfl rfl ?_
      refine E_iload_n (pc := 19) rfl dX2_clearWays_19 ?_
      refine E_iload_n (pc := 20) rfl dX2_clearWays_20 ?_
      refine E_iadd (pc := 21) dX2_clearWays_21 ?_
      refine E_lconst (pc := 22) 0 rfl dX2_clearWays_22 ?_
      refine T_jast (pc := 23) dX2_clearWays_23 (ent_st h0.2.2.1) (by decide) h (fun s3 h => ?_)
      refine T_iinc (pc := 24) (m := 1) (L2 := [_, _, _, _]) rfl rfl rfl rfl dX2_clearWays_24 ?_
      refine E_goto (pc := 27) 7 (by decide) dX2_clearWays_27 ?_
      exact ih h
noncomputable def f_X2_clearWays (a0 : Nat) (x1 : Int32) (σ : ST) : Option ST :=
    bd2 (f_X2_layerOf x1 σ) fun v2 s1 =>
    f_X2_clearWays_7 a0 FU v2 (nI 0) s1
theorem e_X2_clearWays {G : GP} {a0 : Nat} {x1 : Int32} {σ : ST} {s : ST} (h0 : CU a0) (h : f_X2_clearWays a0 x1 σ = some s) : E G mX2_clearWays (1, 20) 0 [.ref a0, .int x1, D0, D0] [] (mem σ) (QV s) := by
  unfold f_X2_clearWays at h
  refine E_iload_n (pc := 0) rfl dX2_clearWays_0 ?_
  obtain ⟨v2, s1, hp, h⟩ := bd2_some h
  refine E_callS (pc := 1) (As := [_]) (fc := (0, 0)) s2_113 oX2_layerOf dX2_clearWays_1 rfl rfl (Nat.le_of_ble_eq_true rfl) rfl rfl (by decide) (e_X2_layerOf hp) (fun rv_ M_ hq_ => ?_)
  obtain ⟨rfl, rfl⟩ := hq_
  refine E_istore_n (pc := 4) (L2 := [_, _, _, _]) rfl rfl dX2_clearWays_4 ?_
  refine E_iconst (pc := 5) 0 rfl dX2_clearWays_5 ?_
  refine E_istore_n (pc := 6) (L2 := [_, _, _, _]) rfl rfl dX2_clearWays_6 ?_
  refine E_kp [true, false, true, true] (L2 := [_, D0, _, _]) rfl rfl ?_
  refine e_X2_clearWays_7 h0 FU h
noncomputable def f_X2_dropUnkept_7 (a0 : Nat) : Nat → Int32 → Int32 → Int32 → ST → Option ST
  | 0, _, _, _, _ => none
  | n + 1, x1, x2, x3, sg =>
    if x3 < (sg.1 a0 10) then
    ((rdJ sg (a0 + 2) 2048 (x2 + x3)).bind fun v3 =>
    if (lg_cmp v3 (0)) = 0 then
    ((wrI sg (a0 + 1) 13312 ((x1 * (nI 1024)) + x3) (nI 1048576)).bind fun s4 =>
    (f_X2_dropUnkept_7 a0 n) x1 x2 (x3 + nI 1) s4)
    else ((f_X2_dropUnkept_7 a0 n) x1 x2 (x3 + nI 1) sg))
    else (some sg)
theorem e_X2_dropUnkept_7 {G : GP} {a0 : Nat} {s : ST} (h0 : CU a0) : ∀ (n : Nat) {x1 : Int32} {x2 : Int32} {x3 : Int32} {sg : ST}, f_X2_dropUnkept_7 a0 n x1 x2 x3 sg = some s → E G mX2_dropUnkept (1, 20) 7 [.ref a0, .int x1, .int x2, .int x3] [] (mem sg) (QV s) := by
  intro n
  induction n with
  | zero => intro _ _ _ _ h; rw [f_X2_dropUnkept_7] at h; cases h
  | succ n ih =>
    intro x1 x2 x3 sg h
    rw [f_X2_dropUnkept_7] at h
    refine E_iload_n (pc := 7) rfl dX2_dropUnkept_7 ?_
    refine E_aload_n (pc := 8) rfl dX2_dropUnkept_8 ?_
    refine R_getI (pc := 9) f2_32 dX2_dropUnkept_9 (ent_st h0.1) (by decide) rfl ?_
    refine T_icmp_ge (pc := 12) 48 dX2_dropUnkept_12 (by decide) h (fun h => ?_) (fun h => ?_)
    · exact E_return (pc := 48) rfl dX2_dropUnkept_48 (QV_of h)
    · refine E_aload_n (pc := 15) rfl dX2_dropUnkept_15 ?_
      refine R_getR (pc := 16) (b := a0 + 2) f2_15 dX2_dropUnkept_16 (ent_st h0.1) (by decide) rfl rfl ?_
      refine E_iload_n (pc := 19) rfl dX2_dropUnkept_19 ?_
      refine E_iload_n (pc := 20) rfl dX2_dropUnkept_20 ?_
      refine E_iadd (pc := 21) dX2_dropUnkept_21 ?_
      refine T_jald (pc := 22) dX2_dropUnkept_22 (ent_st h0.2.2.1) (by decide) h (fun v3 h => ?_)
      refine E_lconst (pc := 23) 0 rfl dX2_dropUnkept_23 ?_
      refine E_lcmp (pc := 24) dX2_dropUnkept_24 ?_
      refine T_if_ne (pc := 25) 42 dX2_dropUnkept_25 (by decide) h (fun h => ?_) (fun h => ?_)
      · refine T_iinc (pc := 42) (m := 1) (L2 := [_, _, _, _]) rfl rfl rfl rfl dX2_dropUnkept_42 ?_
        refine E_goto (pc := 45) 7 (by decide) dX2_dropUnkept_45 ?_
        exact ih h
      · refine E_aload_n (pc := 28) rfl dX2_dropUnkept_28 ?_
        refine R_getR (pc := 29) (b := a0 + 1) f2_9 dX2_dropUnkept_29 (ent_st h0.1) (by decide) rfl rfl ?_
        refine E_iload_n (pc := 32) rfl dX2_dropUnkept_32 ?_
        refine E_sipush (pc := 33) (nI 1024) (by decide) dX2_dropUnkept_33 ?_
        refine E_imul (pc := 36) dX2_dropUnkept_36 ?_
        refine E_iload_n (pc := 37) rfl dX2_dropUnkept_37 ?_
        refine E_iadd (pc := 38) dX2_dropUnkept_38 ?_
        refine E_ldc (pc := 39) (v := nI 1048576) q2_93 dX2_dropUnkept_39 ?_
        refine T_iast (pc := 41) dX2_dropUnkept_41 (ent_st h0.2.1) (by decide) h (fun s4 h => ?_)
        refine T_iinc (pc := 42) (m := 1) (L2 := [_, _, _, _]) rfl rfl rfl rfl dX2_dropUnkept_42 ?_
        refine E_goto (pc := 45) 7 (by decide) dX2_dropUnkept_45 ?_
        exact ih h
noncomputable def f_X2_dropUnkept (a0 : Nat) (x1 : Int32) (σ : ST) : Option ST :=
    bd2 (f_X2_layerOf x1 σ) fun v2 s1 =>
    f_X2_dropUnkept_7 a0 FU x1 v2 (nI 0) s1
theorem e_X2_dropUnkept {G : GP} {a0 : Nat} {x1 : Int32} {σ : ST} {s : ST} (h0 : CU a0) (h : f_X2_dropUnkept a0 x1 σ = some s) : E G mX2_dropUnkept (1, 20) 0 [.ref a0, .int x1, D0, D0] [] (mem σ) (QV s) := by
  unfold f_X2_dropUnkept at h
  refine E_iload_n (pc := 0) rfl dX2_dropUnkept_0 ?_
  obtain ⟨v2, s1, hp, h⟩ := bd2_some h
  refine E_callS (pc := 1) (As := [_]) (fc := (0, 0)) s2_113 oX2_layerOf dX2_dropUnkept_1 rfl rfl (Nat.le_of_ble_eq_true rfl) rfl rfl (by decide) (e_X2_layerOf hp) (fun rv_ M_ hq_ => ?_)
  obtain ⟨rfl, rfl⟩ := hq_
  refine E_istore_n (pc := 4) (L2 := [_, _, _, _]) rfl rfl dX2_dropUnkept_4 ?_
  refine E_iconst (pc := 5) 0 rfl dX2_dropUnkept_5 ?_
  refine E_istore_n (pc := 6) (L2 := [_, _, _, _]) rfl rfl dX2_dropUnkept_6 ?_
  refine e_X2_dropUnkept_7 h0 FU h
noncomputable def f_X2_keepBest_57 (a0 : Nat) (b0 : Nat) (k2 : Int32 → Int32 → ST → Option ST) (x1 : Int32) (x2 : Int32) (x4 : Int32) (z1 : Int32) (z2 : Int32) (sg : ST) : Option ST :=
    (wrI sg b0 13312 z1 z2).bind fun s2 =>
    bd2 (f_X2_layerOf (nI 12) s2) fun v4 s3 =>
    if x4 = 0 then
    ((wrJ s3 (a0 + 2) 2048 (v4 + x2) (0)).bind fun s5 =>
    k2 x1 (x2 + nI 1) s5)
    else ((wrJ s3 (a0 + 2) 2048 (v4 + x2) (1)).bind fun s6 =>
    k2 x1 (x2 + nI 1) s6)
theorem e_X2_keepBest_57 {G : GP} {a0 : Nat} {b0 : Nat} {k2 : Int32 → Int32 → ST → Option ST} {x1 : Int32} {x2 : Int32} {x4 : Int32} {z1 : Int32} {z2 : Int32} {sg : ST} {s : ST} (h0 : CU a0) (g0 : slT[b0]? = some (0, 13312, [])) (hk2 : ∀ {x1 : Int32} {x2 : Int32} {sg : ST}, k2 x1 x2 sg = some s → E G mX2_keepBest (4, 110) 2 [.ref a0, .int x1, .int x2, D0, D0] [] (mem sg) (QV s)) (h : f_X2_keepBest_57 a0 b0 k2 x1 x2 x4 z1 z2 sg = some s) : E G mX2_keepBest (4, 110) 57 [.ref a0, .int x1, .int x2, D0, .int x4] [.int z2, .int z1, .ref b0] (mem sg) (QV s) := by
  unfold f_X2_keepBest_57 at h
  refine T_iast (pc := 57) dX2_keepBest_57 (ent_st g0) (by decide) h (fun s2 h => ?_)
  refine E_aload_n (pc := 58) rfl dX2_keepBest_58 ?_
  refine R_getR (pc := 59) (b := a0 + 2) f2_15 dX2_keepBest_59 (ent_st h0.1) (by decide) rfl rfl ?_
  refine E_bipush (pc := 62) (nI 12) (by decide) dX2_keepBest_62 ?_
  obtain ⟨v4, s3, hp, h⟩ := bd2_some h
  refine E_callS (pc := 64) (As := [_]) (fc := (0, 0)) s2_113 oX2_layerOf dX2_keepBest_64 rfl rfl (Nat.le_of_ble_eq_true rfl) rfl rfl (by decide) (e_X2_layerOf hp) (fun rv_ M_ hq_ => ?_)
  obtain ⟨rfl, rfl⟩ := hq_
  refine E_iload_n (pc := 67) rfl dX2_keepBest_67 ?_
  refine E_iadd (pc := 68) dX2_keepBest_68 ?_
  refine E_iload (pc := 69) rfl dX2_keepBest_69 ?_
  refine T_if_eq (pc := 71) 78 dX2_keepBest_71 (by decide) h (fun h => ?_) (fun h => ?_)
  · refine E_lconst (pc := 78) 0 rfl dX2_keepBest_78 ?_
    refine T_jast (pc := 79) dX2_keepBest_79 (ent_st h0.2.2.1) (by decide) h (fun s5 h => ?_)
    refine T_iinc (pc := 80) (m := 1) (L2 := [_, _, _, _, _]) rfl rfl rfl rfl dX2_keepBest_80 ?_
    refine E_goto (pc := 83) 2 (by decide) dX2_keepBest_83 ?_
    refine E_kp [true, true, true, false, false] (L2 := [_, _, _, D0, D0]) rfl rfl ?_
    exact hk2 h
  · refine E_lconst (pc := 74) 1 rfl dX2_keepBest_74 ?_
    refine E_goto (pc := 75) 79 (by decide) dX2_keepBest_75 ?_
    refine T_jast (pc := 79) dX2_keepBest_79 (ent_st h0.2.2.1) (by decide) h (fun s6 h => ?_)
    refine T_iinc (pc := 80) (m := 1) (L2 := [_, _, _, _, _]) rfl rfl rfl rfl dX2_keepBest_80 ?_
    refine E_goto (pc := 83) 2 (by decide) dX2_keepBest_83 ?_
    refine E_kp [true, true, true, false, false] (L2 := [_, _, _, D0, D0]) rfl rfl ?_
    exact hk2 h
noncomputable def f_X2_keepBest_34 (a0 : Nat) (k2 : Int32 → Int32 → ST → Option ST) (x1 : Int32) (x2 : Int32) (x3 : Int32) (z0 : Int32) (sg : ST) : Option ST :=
    if z0 = 0 then
    (f_X2_keepBest_57 a0 (a0 + 1) k2 x1 x2 z0 x3 (nI 1048576) sg)
    else ((rdI sg (a0 + 1) 13312 x3).bind fun v7 =>
    f_X2_keepBest_57 a0 (a0 + 1) k2 x1 x2 z0 x3 v7 sg)
theorem e_X2_keepBest_34 {G : GP} {a0 : Nat} {k2 : Int32 → Int32 → ST → Option ST} {x1 : Int32} {x2 : Int32} {x3 : Int32} {z0 : Int32} {sg : ST} {s : ST} (h0 : CU a0) (hk2 : ∀ {x1 : Int32} {x2 : Int32} {sg : ST}, k2 x1 x2 sg = some s → E G mX2_keepBest (4, 110) 2 [.ref a0, .int x1, .int x2, D0, D0] [] (mem sg) (QV s)) (h : f_X2_keepBest_34 a0 k2 x1 x2 x3 z0 sg = some s) : E G mX2_keepBest (4, 110) 34 [.ref a0, .int x1, .int x2, .int x3, D0] [.int z0] (mem sg) (QV s) := by
  unfold f_X2_keepBest_34 at h
  refine E_istore (pc := 34) (L2 := [_, _, _, _, _]) rfl rfl dX2_keepBest_34 ?_
  refine E_aload_n (pc := 36) rfl dX2_keepBest_36 ?_
  refine R_getR (pc := 37) (b := a0 + 1) f2_9 dX2_keepBest_37 (ent_st h0.1) (by decide) rfl rfl ?_
  refine E_iload_n (pc := 40) rfl dX2_keepBest_40 ?_
  refine E_iload (pc := 41) rfl dX2_keepBest_41 ?_
  refine T_if_eq (pc := 43) 55 dX2_keepBest_43 (by decide) h (fun h => ?_) (fun h => ?_)
  · refine E_ldc (pc := 55) (v := nI 1048576) q2_93 dX2_keepBest_55 ?_
    refine E_kp [true, true, true, false, true] (L2 := [_, _, _, D0, _]) rfl rfl ?_
    refine e_X2_keepBest_57 h0 h0.2.1 (fun h => hk2 h) h
  · refine E_aload_n (pc := 46) rfl dX2_keepBest_46 ?_
    refine R_getR (pc := 47) (b := a0 + 1) f2_9 dX2_keepBest_47 (ent_st h0.1) (by decide) rfl rfl ?_
    refine E_iload_n (pc := 50) rfl dX2_keepBest_50 ?_
    refine T_iald (pc := 51) dX2_keepBest_51 (ent_st h0.2.1) (by decide) h (fun v7 h => ?_)
    refine E_goto (pc := 52) 57 (by decide) dX2_keepBest_52 ?_
    refine E_kp [true, true, true, false, true] (L2 := [_, _, _, D0, _]) rfl rfl ?_
    refine e_X2_keepBest_57 h0 h0.2.1 (fun h => hk2 h) h
noncomputable def f_X2_keepBest_2 (a0 : Nat) (k86 : Int32 → ST → Option ST) : Nat → Int32 → Int32 → ST → Option ST
  | 0, _, _, _ => none
  | n + 1, x1, x2, sg =>
    if x2 < (sg.1 a0 10) then
    ((rdI sg (a0 + 1) 13312 ((nI 12288) + x2)).bind fun v1 =>
    if v1 = (sg.1 a0 12) then
    (f_X2_keepBest_34 a0 (f_X2_keepBest_2 a0 k86 n) x1 x2 ((nI 12288) + x2) (nI 1) sg)
    else (f_X2_keepBest_34 a0 (f_X2_keepBest_2 a0 k86 n) x1 x2 ((nI 12288) + x2) (nI 0) sg))
    else (k86 x1 sg)
theorem e_X2_keepBest_2 {G : GP} {a0 : Nat} {k86 : Int32 → ST → Option ST} {s : ST} (h0 : CU a0) (hk86 : ∀ {x1 : Int32} {sg : ST}, k86 x1 sg = some s → E G mX2_keepBest (4, 110) 86 [.ref a0, .int x1, D0, D0, D0] [] (mem sg) (QV s)) : ∀ (n : Nat) {x1 : Int32} {x2 : Int32} {sg : ST}, f_X2_keepBest_2 a0 k86 n x1 x2 sg = some s → E G mX2_keepBest (4, 110) 2 [.ref a0, .int x1, .int x2, D0, D0] [] (mem sg) (QV s) := by
  intro n
  induction n with
  | zero => intro _ _ _ h; rw [f_X2_keepBest_2] at h; cases h
  | succ n ih =>
    intro x1 x2 sg h
    rw [f_X2_keepBest_2] at h
    refine E_iload_n (pc := 2) rfl dX2_keepBest_2 ?_
    refine E_aload_n (pc := 3) rfl dX2_keepBest_3 ?_
    refine R_getI (pc := 4) f2_32 dX2_keepBest_4 (ent_st h0.1) (by decide) rfl ?_
    refine T_icmp_ge (pc := 7) 86 dX2_keepBest_7 (by decide) h (fun h => ?_) (fun h => ?_)
    · refine E_kp [true, true, false, false, false] (L2 := [_, _, D0, D0, D0]) rfl rfl ?_
      exact hk86 h
    · refine E_sipush (pc := 10) (nI 12288) (by decide) dX2_keepBest_10 ?_
      refine E_iload_n (pc := 13) rfl dX2_keepBest_13 ?_
      refine E_iadd (pc := 14) dX2_keepBest_14 ?_
      refine E_istore_n (pc := 15) (L2 := [_, _, _, _, _]) rfl rfl dX2_keepBest_15 ?_
      refine E_aload_n (pc := 16) rfl dX2_keepBest_16 ?_
      refine R_getR (pc := 17) (b := a0 + 1) f2_9 dX2_keepBest_17 (ent_st h0.1) (by decide) rfl rfl ?_
      refine E_iload_n (pc := 20) rfl dX2_keepBest_20 ?_
      refine T_iald (pc := 21) dX2_keepBest_21 (ent_st h0.2.1) (by decide) h (fun v1 h => ?_)
      refine E_aload_n (pc := 22) rfl dX2_keepBest_22 ?_
      refine R_getI (pc := 23) f2_38 dX2_keepBest_23 (ent_st h0.1) (by decide) rfl ?_
      refine T_icmp_ne (pc := 26) 33 dX2_keepBest_26 (by decide) h (fun h => ?_) (fun h => ?_)
      · refine E_iconst (pc := 33) 0 rfl dX2_keepBest_33 ?_
        refine e_X2_keepBest_34 h0 (fun h => ih h) h
      · refine E_iconst (pc := 29) 1 rfl dX2_keepBest_29 ?_
        refine E_goto (pc := 30) 34 (by decide) dX2_keepBest_30 ?_
        refine e_X2_keepBest_34 h0 (fun h => ih h) h
noncomputable def f_X2_keepBest_89 (a0 : Nat) (k144 : Int32 → ST → Option ST) : Nat → Int32 → Int32 → ST → Option ST
  | 0, _, _, _ => none
  | n + 1, x1, x2, sg =>
    if x2 < x1 then
    (k144 x1 sg)
    else ((wrI sg (a0 + 4) 12 x2 (-1)).bind fun s10 =>
    (wrI s10 (a0 + 5) 12 x2 (nI 0)).bind fun s11 =>
    (wrI s11 (a0 + 6) 12 x2 (nI 0)).bind fun s12 =>
    (wrI s12 (a0 + 7) 12 x2 (nI 0)).bind fun s13 =>
    (f_X2_clearWays a0 x2 s13).bind fun s14 =>
    (f_X2_walk a0 (nI 1) x2 s14).bind fun s15 =>
    (f_X2_dropUnkept a0 x2 s15).bind fun s16 =>
    (f_X2_keepBest_89 a0 k144 n) x1 (x2 + (-1)) s16)
theorem e_X2_keepBest_89 {G : GP} {a0 : Nat} {k144 : Int32 → ST → Option ST} {s : ST} (h0 : CU a0) (hk144 : ∀ {x1 : Int32} {sg : ST}, k144 x1 sg = some s → E G mX2_keepBest (4, 110) 144 [.ref a0, .int x1, D0, D0, D0] [] (mem sg) (QV s)) : ∀ (n : Nat) {x1 : Int32} {x2 : Int32} {sg : ST}, f_X2_keepBest_89 a0 k144 n x1 x2 sg = some s → E G mX2_keepBest (4, 110) 89 [.ref a0, .int x1, .int x2, D0, D0] [] (mem sg) (QV s) := by
  intro n
  induction n with
  | zero => intro _ _ _ h; rw [f_X2_keepBest_89] at h; cases h
  | succ n ih =>
    intro x1 x2 sg h
    rw [f_X2_keepBest_89] at h
    refine E_iload_n (pc := 89) rfl dX2_keepBest_89 ?_
    refine E_iload_n (pc := 90) rfl dX2_keepBest_90 ?_
    refine T_icmp_lt (pc := 91) 144 dX2_keepBest_91 (by decide) h (fun h => ?_) (fun h => ?_)
    · refine E_kp [true, true, false, false, false] (L2 := [_, _, D0, D0, D0]) rfl rfl ?_
      exact hk144 h
    · refine E_aload_n (pc := 94) rfl dX2_keepBest_94 ?_
      refine R_getR (pc := 95) (b := a0 + 4) f2_45 dX2_keepBest_95 (ent_st h0.1) (by decide) rfl rfl ?_
      refine E_iload_n (pc := 98) rfl dX2_keepBest_98 ?_
      refine E_im1 (pc := 99) dX2_keepBest_99 ?_
      refine T_iast (pc := 100) dX2_keepBest_100 (ent_st h0.2.2.2.2.1) (by decide) h (fun s10 h => ?_)
      refine E_aload_n (pc := 101) rfl dX2_keepBest_101 ?_
      refine R_getR (pc := 102) (b := a0 + 5) f2_48 dX2_keepBest_102 (ent_st h0.1) (by decide) rfl rfl ?_
      refine E_iload_n (pc := 105) rfl dX2_keepBest_105 ?_
      refine E_iconst (pc := 106) 0 rfl dX2_keepBest_106 ?_
      refine T_iast (pc := 107) dX2_keepBest_107 (ent_st h0.2.2.2.2.2.1) (by decide) h (fun s11 h => ?_)
      refine E_aload_n (pc := 108) rfl dX2_keepBest_108 ?_
      refine R_getR (pc := 109) (b := a0 + 6) f2_51 dX2_keepBest_109 (ent_st h0.1) (by decide) rfl rfl ?_
      refine E_iload_n (pc := 112) rfl dX2_keepBest_112 ?_
      refine E_iconst (pc := 113) 0 rfl dX2_keepBest_113 ?_
      refine T_iast (pc := 114) dX2_keepBest_114 (ent_st h0.2.2.2.2.2.2.1) (by decide) h (fun s12 h => ?_)
      refine E_aload_n (pc := 115) rfl dX2_keepBest_115 ?_
      refine R_getR (pc := 116) (b := a0 + 7) f2_54 dX2_keepBest_116 (ent_st h0.1) (by decide) rfl rfl ?_
      refine E_iload_n (pc := 119) rfl dX2_keepBest_119 ?_
      refine E_iconst (pc := 120) 0 rfl dX2_keepBest_120 ?_
      refine T_iast (pc := 121) dX2_keepBest_121 (ent_st h0.2.2.2.2.2.2.2.1) (by decide) h (fun s13 h => ?_)
      refine E_aload_n (pc := 122) rfl dX2_keepBest_122 ?_
      refine E_iload_n (pc := 123) rfl dX2_keepBest_123 ?_
      obtain ⟨s14, hp, h⟩ := bd_some h
      refine E_callV (pc := 124) (As := [_]) (fc := (1, 20)) s2_116_2 oX2_clearWays dX2_keepBest_124 (mem_ob (ent_st h0.1)) rfl rfl (Nat.le_of_ble_eq_true rfl) rfl rfl (by decide) (e_X2_clearWays h0 hp) (fun rv_ M_ hq_ => ?_)
      obtain ⟨rfl, rfl⟩ := hq_
      refine E_aload_n (pc := 127) rfl dX2_keepBest_127 ?_
      refine E_iconst (pc := 128) 1 rfl dX2_keepBest_128 ?_
      refine E_iload_n (pc := 129) rfl dX2_keepBest_129 ?_
      obtain ⟨s15, hp, h⟩ := bd_some h
      refine E_callV (pc := 130) (As := [_, _]) (fc := (3, 83)) s2_90_2 oX2_walk dX2_keepBest_130 (mem_ob (ent_st h0.1)) rfl rfl (Nat.le_of_ble_eq_true rfl) rfl rfl (by decide) (e_X2_walk h0 hp) (fun rv_ M_ hq_ => ?_)
      obtain ⟨rfl, rfl⟩ := hq_
      refine E_aload_n (pc := 133) rfl dX2_keepBest_133 ?_
      refine E_iload_n (pc := 134) rfl dX2_keepBest_134 ?_
      obtain ⟨s16, hp, h⟩ := bd_some h
      refine E_callV (pc := 135) (As := [_]) (fc := (1, 20)) s2_119_2 oX2_dropUnkept dX2_keepBest_135 (mem_ob (ent_st h0.1)) rfl rfl (Nat.le_of_ble_eq_true rfl) rfl rfl (by decide) (e_X2_dropUnkept h0 hp) (fun rv_ M_ hq_ => ?_)
      obtain ⟨rfl, rfl⟩ := hq_
      refine T_idec (pc := 138) (L2 := [_, _, _, _, _]) rfl rfl rfl dX2_keepBest_138 ?_
      refine E_goto (pc := 141) 89 (by decide) dX2_keepBest_141 ?_
      exact ih h
noncomputable def f_X2_keepBest_146 (a0 : Nat) : Nat → Int32 → Int32 → ST → Option ST
  | 0, _, _, _ => none
  | n + 1, x1, x2, sg =>
    if x1 = 0 then
    (if x2 < (sg.1 a0 10) then
    (bd2 (f_X2_layerOf (nI 0) sg) fun v20 s19 =>
    (rdJ s19 (a0 + 2) 2048 (v20 + x2)).bind fun v21 =>
    (pfJ s19 a0 13 (if (1000000000000000000) < ((sg.2.1 a0 13) + v21) then (1000000000000000000) else ((sg.2.1 a0 13) + v21))).bind fun s22 =>
    (f_X2_keepBest_146 a0 n) x1 (x2 + nI 1) s22)
    else (some sg))
    else (some sg)
theorem e_X2_keepBest_146 {G : GP} {a0 : Nat} {s : ST} (h0 : CU a0) : ∀ (n : Nat) {x1 : Int32} {x2 : Int32} {sg : ST}, f_X2_keepBest_146 a0 n x1 x2 sg = some s → E G mX2_keepBest (4, 110) 146 [.ref a0, .int x1, .int x2, D0, D0] [] (mem sg) (QV s) := by
  intro n
  induction n with
  | zero => intro _ _ _ h; rw [f_X2_keepBest_146] at h; cases h
  | succ n ih =>
    intro x1 x2 sg h
    rw [f_X2_keepBest_146] at h
    refine E_iload_n (pc := 146) rfl dX2_keepBest_146 ?_
    refine T_if_ne (pc := 147) 190 dX2_keepBest_147 (by decide) h (fun h => ?_) (fun h => ?_)
    · exact E_return (pc := 190) rfl dX2_keepBest_190 (QV_of h)
    · refine E_iload_n (pc := 150) rfl dX2_keepBest_150 ?_
      refine E_aload_n (pc := 151) rfl dX2_keepBest_151 ?_
      refine R_getI (pc := 152) f2_32 dX2_keepBest_152 (ent_st h0.1) (by decide) rfl ?_
      refine T_icmp_ge (pc := 155) 190 dX2_keepBest_155 (by decide) h (fun h => ?_) (fun h => ?_)
      · exact E_return (pc := 190) rfl dX2_keepBest_190 (QV_of h)
      · refine E_aload_n (pc := 158) rfl dX2_keepBest_158 ?_
        refine E_aload_n (pc := 159) rfl dX2_keepBest_159 ?_
        refine R_getJ (pc := 160) f2_41 dX2_keepBest_160 (ent_st h0.1) (by decide) rfl ?_
        refine E_aload_n (pc := 163) rfl dX2_keepBest_163 ?_
        refine R_getR (pc := 164) (b := a0 + 2) f2_15 dX2_keepBest_164 (ent_st h0.1) (by decide) rfl rfl ?_
        refine E_iconst (pc := 167) 0 rfl dX2_keepBest_167 ?_
        obtain ⟨v20, s19, hp, h⟩ := bd2_some h
        refine E_callS (pc := 168) (As := [_]) (fc := (0, 0)) s2_113 oX2_layerOf dX2_keepBest_168 rfl rfl (Nat.le_of_ble_eq_true rfl) rfl rfl (by decide) (e_X2_layerOf hp) (fun rv_ M_ hq_ => ?_)
        obtain ⟨rfl, rfl⟩ := hq_
        refine E_iload_n (pc := 171) rfl dX2_keepBest_171 ?_
        refine E_iadd (pc := 172) dX2_keepBest_172 ?_
        refine T_jald (pc := 173) dX2_keepBest_173 (ent_st h0.2.2.1) (by decide) h (fun v21 h => ?_)
        refine E_ladd (pc := 174) dX2_keepBest_174 ?_
        refine E_ldc2 (pc := 175) q2_122 dX2_keepBest_175 ?_
        refine E_mminL (pc := 178) (by decide +kernel) (by decide) (Nat.le_of_ble_eq_true rfl) dX2_keepBest_178 ?_
        refine T_putJ (pc := 181) f2_41 dX2_keepBest_181 (ent_st h0.1) (by decide) rfl (by decide +kernel) h (fun s22 h => ?_)
        refine T_iinc (pc := 184) (m := 1) (L2 := [_, _, _, _, _]) rfl rfl rfl rfl dX2_keepBest_184 ?_
        refine E_goto (pc := 187) 146 (by decide) dX2_keepBest_187 ?_
        exact ih h
noncomputable def f_X2_keepBest (a0 : Nat) (x1 : Int32) (σ : ST) : Option ST :=
    f_X2_keepBest_2 a0 (fun x1_8 s9 =>
    f_X2_keepBest_89 a0 (fun x1_17 s18 =>
    f_X2_keepBest_146 a0 FU x1_17 (nI 0) s18) FU x1_8 (nI 11) s9) FU x1 (nI 0) σ
theorem e_X2_keepBest {G : GP} {a0 : Nat} {x1 : Int32} {σ : ST} {s : ST} (h0 : CU a0) (h : f_X2_keepBest a0 x1 σ = some s) : E G mX2_keepBest (4, 110) 0 [.ref a0, .int x1, D0, D0, D0] [] (mem σ) (QV s) := by
  unfold f_X2_keepBest at h
  refine E_iconst (pc := 0) 0 rfl dX2_keepBest_0 ?_
  refine E_istore_n (pc := 1) (L2 := [_, _, _, _, _]) rfl rfl dX2_keepBest_1 ?_
  refine e_X2_keepBest_2 h0 ?_ FU h
  · intro x1_8 s9 h
    refine E_bipush (pc := 86) (nI 11) (by decide) dX2_keepBest_86 ?_
    refine E_istore_n (pc := 88) (L2 := [_, _, _, _, _]) rfl rfl dX2_keepBest_88 ?_
    refine e_X2_keepBest_89 h0 ?_ FU h
    · intro x1_17 s18 h
      refine E_iconst (pc := 144) 0 rfl dX2_keepBest_144 ?_
      refine E_istore_n (pc := 145) (L2 := [_, _, _, _, _]) rfl rfl dX2_keepBest_145 ?_
      refine e_X2_keepBest_146 h0 FU h
noncomputable def f_X2_tally_18 (a0 : Nat) (k68 : Int32 → Int32 → ST → Option (Int32 × ST)) : Nat → Int32 → Int32 → Int32 → ST → Option (Int32 × ST)
  | 0, _, _, _, _ => none
  | n + 1, x2, x3, x4, sg =>
    if x4 < (sg.1 a0 10) then
    (bd2 (f_X2_layerOf x2 sg) fun v3 s2 =>
    (rdI s2 (a0 + 1) 13312 ((x2 * (nI 1024)) + x4)).bind fun v4 =>
    if v4 < (nI 1048576) then
    ((wrJ s2 (a0 + 2) 2048 (v3 + x4) (1)).bind fun s6 =>
    (f_X2_tally_18 a0 k68 n) x2 x3 (x4 + nI 1) s6)
    else ((wrJ s2 (a0 + 2) 2048 (v3 + x4) (0)).bind fun s5 =>
    (f_X2_tally_18 a0 k68 n) x2 x3 (x4 + nI 1) s5))
    else (k68 x2 x3 sg)
theorem e_X2_tally_18 {G : GP} {a0 : Nat} {k68 : Int32 → Int32 → ST → Option (Int32 × ST)} {v : Int32} {s : ST} (h0 : CU a0) (hk68 : ∀ {x2 : Int32} {x3 : Int32} {sg : ST}, k68 x2 x3 sg = some (v, s) → E G mX2_tally (4, 110) 68 [.ref a0, D0, .int x2, .int x3, D0, D0, D0] [] (mem sg) (QI v s)) : ∀ (n : Nat) {x2 : Int32} {x3 : Int32} {x4 : Int32} {sg : ST}, f_X2_tally_18 a0 k68 n x2 x3 x4 sg = some (v, s) → E G mX2_tally (4, 110) 18 [.ref a0, D0, .int x2, .int x3, .int x4, D0, D0] [] (mem sg) (QI v s) := by
  intro n
  induction n with
  | zero => intro _ _ _ _ h; rw [f_X2_tally_18] at h; cases h
  | succ n ih =>
    intro x2 x3 x4 sg h
    rw [f_X2_tally_18] at h
    refine E_iload (pc := 18) rfl dX2_tally_18 ?_
    refine E_aload_n (pc := 20) rfl dX2_tally_20 ?_
    refine R_getI (pc := 21) f2_32 dX2_tally_21 (ent_st h0.1) (by decide) rfl ?_
    refine T_icmp_ge (pc := 24) 68 dX2_tally_24 (by decide) h (fun h => ?_) (fun h => ?_)
    · refine E_kp [true, false, true, true, false, false, false] (L2 := [_, D0, _, _, D0, D0, D0]) rfl rfl ?_
      exact hk68 h
    · refine E_aload_n (pc := 27) rfl dX2_tally_27 ?_
      refine R_getR (pc := 28) (b := a0 + 2) f2_15 dX2_tally_28 (ent_st h0.1) (by decide) rfl rfl ?_
      refine E_iload_n (pc := 31) rfl dX2_tally_31 ?_
      obtain ⟨v3, s2, hp, h⟩ := bd2_some h
      refine E_callS (pc := 32) (As := [_]) (fc := (0, 0)) s2_113 oX2_layerOf dX2_tally_32 rfl rfl (Nat.le_of_ble_eq_true rfl) rfl rfl (by decide) (e_X2_layerOf hp) (fun rv_ M_ hq_ => ?_)
      obtain ⟨rfl, rfl⟩ := hq_
      refine E_iload (pc := 35) rfl dX2_tally_35 ?_
      refine E_iadd (pc := 37) dX2_tally_37 ?_
      refine E_aload_n (pc := 38) rfl dX2_tally_38 ?_
      refine R_getR (pc := 39) (b := a0 + 1) f2_9 dX2_tally_39 (ent_st h0.1) (by decide) rfl rfl ?_
      refine E_iload_n (pc := 42) rfl dX2_tally_42 ?_
      refine E_sipush (pc := 43) (nI 1024) (by decide) dX2_tally_43 ?_
      refine E_imul (pc := 46) dX2_tally_46 ?_
      refine E_iload (pc := 47) rfl dX2_tally_47 ?_
      refine E_iadd (pc := 49) dX2_tally_49 ?_
      refine T_iald (pc := 50) dX2_tally_50 (ent_st h0.2.1) (by decide) h (fun v4 h => ?_)
      refine E_ldc (pc := 51) (v := nI 1048576) q2_93 dX2_tally_51 ?_
      refine T_icmp_ge (pc := 53) 60 dX2_tally_53 (by decide) h (fun h => ?_) (fun h => ?_)
      · refine E_lconst (pc := 60) 0 rfl dX2_tally_60 ?_
        refine T_jast (pc := 61) dX2_tally_61 (ent_st h0.2.2.1) (by decide) h (fun s5 h => ?_)
        refine T_iinc (pc := 62) (m := 1) (L2 := [_, _, _, _, _, _, _]) rfl rfl rfl rfl dX2_tally_62 ?_
        refine E_goto (pc := 65) 18 (by decide) dX2_tally_65 ?_
        exact ih h
      · refine E_lconst (pc := 56) 1 rfl dX2_tally_56 ?_
        refine E_goto (pc := 57) 61 (by decide) dX2_tally_57 ?_
        refine T_jast (pc := 61) dX2_tally_61 (ent_st h0.2.2.1) (by decide) h (fun s6 h => ?_)
        refine T_iinc (pc := 62) (m := 1) (L2 := [_, _, _, _, _, _, _]) rfl rfl rfl rfl dX2_tally_62 ?_
        refine E_goto (pc := 65) 18 (by decide) dX2_tally_65 ?_
        exact ih h
noncomputable def f_X2_tally_71 (a0 : Nat) (k98 : Int32 → ST → Option (Int32 × ST)) : Nat → Int32 → Int32 → ST → Option (Int32 × ST)
  | 0, _, _, _ => none
  | n + 1, x3, x4, sg =>
    if x3 < x4 then
    (k98 x3 sg)
    else ((f_X2_clearWays a0 (x4 + (nI 1)) sg).bind fun s10 =>
    (f_X2_walk a0 (nI 2) x4 s10).bind fun s11 =>
    (f_X2_tally_71 a0 k98 n) x3 (x4 + nI 1) s11)
theorem e_X2_tally_71 {G : GP} {a0 : Nat} {k98 : Int32 → ST → Option (Int32 × ST)} {v : Int32} {s : ST} (h0 : CU a0) (hk98 : ∀ {x3 : Int32} {sg : ST}, k98 x3 sg = some (v, s) → E G mX2_tally (4, 110) 98 [.ref a0, D0, D0, .int x3, D0, D0, D0] [] (mem sg) (QI v s)) : ∀ (n : Nat) {x3 : Int32} {x4 : Int32} {sg : ST}, f_X2_tally_71 a0 k98 n x3 x4 sg = some (v, s) → E G mX2_tally (4, 110) 71 [.ref a0, D0, D0, .int x3, .int x4, D0, D0] [] (mem sg) (QI v s) := by
  intro n
  induction n with
  | zero => intro _ _ _ h; rw [f_X2_tally_71] at h; cases h
  | succ n ih =>
    intro x3 x4 sg h
    rw [f_X2_tally_71] at h
    refine E_iload (pc := 71) rfl dX2_tally_71 ?_
    refine E_iload_n (pc := 73) rfl dX2_tally_73 ?_
    refine T_icmp_gt (pc := 74) 98 dX2_tally_74 (by decide) h (fun h => ?_) (fun h => ?_)
    · refine E_kp [true, false, false, true, false, false, false] (L2 := [_, D0, D0, _, D0, D0, D0]) rfl rfl ?_
      exact hk98 h
    · refine E_aload_n (pc := 77) rfl dX2_tally_77 ?_
      refine E_iload (pc := 78) rfl dX2_tally_78 ?_
      refine E_iconst (pc := 80) 1 rfl dX2_tally_80 ?_
      refine E_iadd (pc := 81) dX2_tally_81 ?_
      obtain ⟨s10, hp, h⟩ := bd_some h
      refine E_callV (pc := 82) (As := [_]) (fc := (1, 20)) s2_116_2 oX2_clearWays dX2_tally_82 (mem_ob (ent_st h0.1)) rfl rfl (Nat.le_of_ble_eq_true rfl) rfl rfl (by decide) (e_X2_clearWays h0 hp) (fun rv_ M_ hq_ => ?_)
      obtain ⟨rfl, rfl⟩ := hq_
      refine E_aload_n (pc := 85) rfl dX2_tally_85 ?_
      refine E_iconst (pc := 86) 2 rfl dX2_tally_86 ?_
      refine E_iload (pc := 87) rfl dX2_tally_87 ?_
      obtain ⟨s11, hp, h⟩ := bd_some h
      refine E_callV (pc := 89) (As := [_, _]) (fc := (3, 83)) s2_90_2 oX2_walk dX2_tally_89 (mem_ob (ent_st h0.1)) rfl rfl (Nat.le_of_ble_eq_true rfl) rfl rfl (by decide) (e_X2_walk h0 hp) (fun rv_ M_ hq_ => ?_)
      obtain ⟨rfl, rfl⟩ := hq_
      refine T_iinc (pc := 92) (m := 1) (L2 := [_, _, _, _, _, _, _]) rfl rfl rfl rfl dX2_tally_92 ?_
      refine E_goto (pc := 95) 71 (by decide) dX2_tally_95 ?_
      exact ih h
noncomputable def f_X2_tally_104 (a0 : Nat) : Nat → Int32 → Int64 → Int32 → ST → Option (Int32 × ST)
  | 0, _, _, _, _ => none
  | n + 1, x3, y4, x6, sg =>
    if x6 < (sg.1 a0 10) then
    (bd2 (f_X2_layerOf (x3 + (nI 1)) sg) fun v15 s14 =>
    (rdJ s14 (a0 + 2) 2048 (v15 + x6)).bind fun v16 =>
    (f_X2_tally_104 a0 n) x3 (y4 ||| v16) (x6 + nI 1) s14)
    else (some (((y4).toInt32), sg))
theorem e_X2_tally_104 {G : GP} {a0 : Nat} {v : Int32} {s : ST} (h0 : CU a0) : ∀ (n : Nat) {x3 : Int32} {y4 : Int64} {x6 : Int32} {sg : ST}, f_X2_tally_104 a0 n x3 y4 x6 sg = some (v, s) → E G mX2_tally (4, 110) 104 [.ref a0, D0, D0, .int x3, .long y4, D0, .int x6] [] (mem sg) (QI v s) := by
  intro n
  induction n with
  | zero => intro _ _ _ _ h; rw [f_X2_tally_104] at h; cases h
  | succ n ih =>
    intro x3 y4 x6 sg h
    rw [f_X2_tally_104] at h
    refine E_iload (pc := 104) rfl dX2_tally_104 ?_
    refine E_aload_n (pc := 106) rfl dX2_tally_106 ?_
    refine R_getI (pc := 107) f2_32 dX2_tally_107 (ent_st h0.1) (by decide) rfl ?_
    refine T_icmp_ge (pc := 110) 138 dX2_tally_110 (by decide) h (fun h => ?_) (fun h => ?_)
    · refine E_lload (pc := 138) rfl dX2_tally_138 ?_
      refine E_l2i (pc := 140) dX2_tally_140 ?_
      exact E_ireturn (pc := 141) rfl rfl dX2_tally_141 (QI_of h)
    · refine E_lload (pc := 113) rfl dX2_tally_113 ?_
      refine E_aload_n (pc := 115) rfl dX2_tally_115 ?_
      refine R_getR (pc := 116) (b := a0 + 2) f2_15 dX2_tally_116 (ent_st h0.1) (by decide) rfl rfl ?_
      refine E_iload_n (pc := 119) rfl dX2_tally_119 ?_
      refine E_iconst (pc := 120) 1 rfl dX2_tally_120 ?_
      refine E_iadd (pc := 121) dX2_tally_121 ?_
      obtain ⟨v15, s14, hp, h⟩ := bd2_some h
      refine E_callS (pc := 122) (As := [_]) (fc := (0, 0)) s2_113 oX2_layerOf dX2_tally_122 rfl rfl (Nat.le_of_ble_eq_true rfl) rfl rfl (by decide) (e_X2_layerOf hp) (fun rv_ M_ hq_ => ?_)
      obtain ⟨rfl, rfl⟩ := hq_
      refine E_iload (pc := 125) rfl dX2_tally_125 ?_
      refine E_iadd (pc := 127) dX2_tally_127 ?_
      refine T_jald (pc := 128) dX2_tally_128 (ent_st h0.2.2.1) (by decide) h (fun v16 h => ?_)
      refine E_lor (pc := 129) dX2_tally_129 ?_
      refine E_lstore (pc := 130) (L2 := [_, _, _, _, _, _, _]) rfl rfl dX2_tally_130 ?_
      refine T_iinc (pc := 132) (m := 1) (L2 := [_, _, _, _, _, _, _]) rfl rfl rfl rfl dX2_tally_132 ?_
      refine E_goto (pc := 135) 104 (by decide) dX2_tally_135 ?_
      exact ih h
noncomputable def f_X2_tally (a0 : Nat) (x1 : Int32) (x2 : Int32) (x3 : Int32) (σ : ST) : Option (Int32 × ST) :=
    if (σ.1 a0 12) = (-1) then
    (some ((nI 0), σ))
    else ((pfI σ a0 11 x1).bind fun s1 =>
    f_X2_tally_18 a0 (fun x2_7 x3_8 s9 =>
    f_X2_tally_71 a0 (fun x3_12 s13 =>
    f_X2_tally_104 a0 FU x3_12 (0) (nI 0) s13) FU x3_8 x2_7 s9) FU x2 x3 (nI 0) s1)
theorem e_X2_tally {G : GP} {a0 : Nat} {x1 : Int32} {x2 : Int32} {x3 : Int32} {σ : ST} {v : Int32} {s : ST} (h0 : CU a0) (h : f_X2_tally a0 x1 x2 x3 σ = some (v, s)) : E G mX2_tally (4, 110) 0 [.ref a0, .int x1, .int x2, .int x3, D0, D0, D0] [] (mem σ) (QI v s) := by
  unfold f_X2_tally at h
  refine E_aload_n (pc := 0) rfl dX2_tally_0 ?_
  refine R_getI (pc := 1) f2_38 dX2_tally_1 (ent_st h0.1) (by decide) rfl ?_
  refine E_im1 (pc := 4) dX2_tally_4 ?_
  refine T_icmp_ne (pc := 5) 10 dX2_tally_5 (by decide) h (fun h => ?_) (fun h => ?_)
  · refine E_aload_n (pc := 10) rfl dX2_tally_10 ?_
    refine E_iload_n (pc := 11) rfl dX2_tally_11 ?_
    refine T_putI (pc := 12) f2_35 dX2_tally_12 (ent_st h0.1) (by decide) rfl (by decide +kernel) h (fun s1 h => ?_)
    refine E_iconst (pc := 15) 0 rfl dX2_tally_15 ?_
    refine E_istore (pc := 16) (L2 := [_, _, _, _, _, _, _]) rfl rfl dX2_tally_16 ?_
    refine E_kp [true, false, true, true, true, false, false] (L2 := [_, D0, _, _, _, D0, D0]) rfl rfl ?_
    refine e_X2_tally_18 h0 ?_ FU h
    · intro x2_7 x3_8 s9 h
      refine E_iload_n (pc := 68) rfl dX2_tally_68 ?_
      refine E_istore (pc := 69) (L2 := [_, _, _, _, _, _, _]) rfl rfl dX2_tally_69 ?_
      refine E_kp [true, false, false, true, true, false, false] (L2 := [_, D0, D0, _, _, D0, D0]) rfl rfl ?_
      refine e_X2_tally_71 h0 ?_ FU h
      · intro x3_12 s13 h
        refine E_lconst (pc := 98) 0 rfl dX2_tally_98 ?_
        refine E_lstore (pc := 99) (L2 := [_, _, _, _, _, _, _]) rfl rfl dX2_tally_99 ?_
        refine E_iconst (pc := 101) 0 rfl dX2_tally_101 ?_
        refine E_istore (pc := 102) (L2 := [_, _, _, _, _, _, _]) rfl rfl dX2_tally_102 ?_
        refine e_X2_tally_104 h0 FU h
  · refine E_iconst (pc := 8) 0 rfl dX2_tally_8 ?_
    exact E_ireturn (pc := 9) rfl rfl dX2_tally_9 (QI_of h)
noncomputable def f_X2_surely (a0 : Nat) (x1 : Int32) (x2 : Int32) (σ : ST) : Option (Int32 × ST) :=
    (rdI σ (a0 + 4) 12 x2).bind fun v1 =>
    if ((v1 >>> (x1 &&& 31)) &&& (nI 1)) = 0 then
    (some ((nI 0), σ))
    else (some ((nI 1), σ))
theorem e_X2_surely {G : GP} {a0 : Nat} {x1 : Int32} {x2 : Int32} {σ : ST} {v : Int32} {s : ST} (h0 : CU a0) (h : f_X2_surely a0 x1 x2 σ = some (v, s)) : E G mX2_surely (0, 0) 0 [.ref a0, .int x1, .int x2] [] (mem σ) (QI v s) := by
  unfold f_X2_surely at h
  refine E_aload_n (pc := 0) rfl dX2_surely_0 ?_
  refine R_getR (pc := 1) (b := a0 + 4) f2_45 dX2_surely_1 (ent_st h0.1) (by decide) rfl rfl ?_
  refine E_iload_n (pc := 4) rfl dX2_surely_4 ?_
  refine T_iald (pc := 5) dX2_surely_5 (ent_st h0.2.2.2.2.1) (by decide) h (fun v1 h => ?_)
  refine E_iload_n (pc := 6) rfl dX2_surely_6 ?_
  refine E_ishr (pc := 7) dX2_surely_7 ?_
  refine E_iconst (pc := 8) 1 rfl dX2_surely_8 ?_
  refine E_iand (pc := 9) dX2_surely_9 ?_
  refine T_if_eq (pc := 10) 17 dX2_surely_10 (by decide) h (fun h => ?_) (fun h => ?_)
  · refine E_iconst (pc := 17) 0 rfl dX2_surely_17 ?_
    exact E_ireturn (pc := 18) rfl (by decide) dX2_surely_18 (QI_of h)
  · refine E_iconst (pc := 13) 1 rfl dX2_surely_13 ?_
    refine E_goto (pc := 14) 18 (by decide) dX2_surely_14 ?_
    exact E_ireturn (pc := 18) rfl (by decide) dX2_surely_18 (QI_of h)
noncomputable def f_X2_soOf (a0 : Nat) (x1 : Int32) (x2 : Int32) (σ : ST) : Option (Int32 × ST) :=
    if (σ.1 a0 12) = (-1) then
    (some ((-1), σ))
    else (bd2 (f_X2_surely a0 x1 x2 σ) fun v2 s1 =>
    if v2 = 0 then
    ((rdI s1 (a0 + 5) 12 x2).bind fun v3 =>
    if ((v3 >>> (x1 &&& 31)) &&& (nI 1)) = 0 then
    (some ((nI 0), s1))
    else (some ((nI 2), s1)))
    else (some ((nI 1), s1)))
theorem e_X2_soOf {G : GP} {a0 : Nat} {x1 : Int32} {x2 : Int32} {σ : ST} {v : Int32} {s : ST} (h0 : CU a0) (h : f_X2_soOf a0 x1 x2 σ = some (v, s)) : E G mX2_soOf (1, 22) 0 [.ref a0, .int x1, .int x2] [] (mem σ) (QI v s) := by
  unfold f_X2_soOf at h
  refine E_aload_n (pc := 0) rfl dX2_soOf_0 ?_
  refine R_getI (pc := 1) f2_38 dX2_soOf_1 (ent_st h0.1) (by decide) rfl ?_
  refine E_im1 (pc := 4) dX2_soOf_4 ?_
  refine T_icmp_ne (pc := 5) 10 dX2_soOf_5 (by decide) h (fun h => ?_) (fun h => ?_)
  · refine E_aload_n (pc := 10) rfl dX2_soOf_10 ?_
    refine E_iload_n (pc := 11) rfl dX2_soOf_11 ?_
    refine E_iload_n (pc := 12) rfl dX2_soOf_12 ?_
    obtain ⟨v2, s1, hp, h⟩ := bd2_some h
    refine E_callV (pc := 13) (As := [_, _]) (fc := (0, 0)) s2_127_2 oX2_surely dX2_soOf_13 (mem_ob (ent_st h0.1)) rfl rfl (Nat.le_of_ble_eq_true rfl) rfl rfl (by decide) (e_X2_surely h0 hp) (fun rv_ M_ hq_ => ?_)
    obtain ⟨rfl, rfl⟩ := hq_
    refine T_if_eq (pc := 16) 21 dX2_soOf_16 (by decide) h (fun h => ?_) (fun h => ?_)
    · refine E_aload_n (pc := 21) rfl dX2_soOf_21 ?_
      refine R_getR (pc := 22) (b := a0 + 5) f2_48 dX2_soOf_22 (ent_st h0.1) (by decide) rfl rfl ?_
      refine E_iload_n (pc := 25) rfl dX2_soOf_25 ?_
      refine T_iald (pc := 26) dX2_soOf_26 (ent_st h0.2.2.2.2.2.1) (by decide) h (fun v3 h => ?_)
      refine E_iload_n (pc := 27) rfl dX2_soOf_27 ?_
      refine E_ishr (pc := 28) dX2_soOf_28 ?_
      refine E_iconst (pc := 29) 1 rfl dX2_soOf_29 ?_
      refine E_iand (pc := 30) dX2_soOf_30 ?_
      refine T_if_ne (pc := 31) 38 dX2_soOf_31 (by decide) h (fun h => ?_) (fun h => ?_)
      · refine E_iconst (pc := 38) 2 rfl dX2_soOf_38 ?_
        exact E_ireturn (pc := 39) rfl rfl dX2_soOf_39 (QI_of h)
      · refine E_iconst (pc := 34) 0 rfl dX2_soOf_34 ?_
        refine E_goto (pc := 35) 39 (by decide) dX2_soOf_35 ?_
        exact E_ireturn (pc := 39) rfl rfl dX2_soOf_39 (QI_of h)
    · refine E_iconst (pc := 19) 1 rfl dX2_soOf_19 ?_
      exact E_ireturn (pc := 20) rfl rfl dX2_soOf_20 (QI_of h)
  · refine E_im1 (pc := 8) dX2_soOf_8 ?_
    exact E_ireturn (pc := 9) rfl rfl dX2_soOf_9 (QI_of h)
