/-! ===== functions: 32.tlA ===== -/
noncomputable def f_J7_fill_53178_5 (a0 : Nat) (n0 : Nat) : Nat → Int32 → Int32 → Int32 → ST → Option ST
  | 0, _, _, _, _ => none
  | n + 1, x1, x2, x3, sg =>
    if x2 < x3 then
    ((wrI sg a0 n0 x2 x1).bind fun s1 =>
    (f_J7_fill_53178_5 a0 n0 n) x1 (x2 + nI 1) x3 s1)
    else (some sg)
theorem e_J7_fill_53178_5 {G : GP} {a0 : Nat} {n0 : Nat} {s : ST} (h0 : slT[a0]? = some (0, n0, []) ∧ n0 < 2 ^ 31) : ∀ (n : Nat) {x1 : Int32} {x2 : Int32} {x3 : Int32} {sg : ST}, f_J7_fill_53178_5 a0 n0 n x1 x2 x3 sg = some s → E G mJ7_fill_53178 (0, 0) 5 [.ref a0, .int x1, .int x2, .int x3] [] (mem sg) (QV s) := by
  intro n
  induction n with
  | zero => intro _ _ _ _ h; rw [f_J7_fill_53178_5] at h; cases h
  | succ n ih =>
    intro x1 x2 x3 sg h
    rw [f_J7_fill_53178_5] at h
    refine E_iload_n (pc := 5) rfl dJ7_fill_53178_5 ?_
    refine E_iload_n (pc := 6) rfl dJ7_fill_53178_6 ?_
    refine T_icmp_ge (pc := 7) 20 dJ7_fill_53178_7 (by decide) h (fun h => ?_) (fun h => ?_)
    · exact E_return (pc := 20) rfl dJ7_fill_53178_20 (QV_of h)
    · refine E_aload_n (pc := 10) rfl dJ7_fill_53178_10 ?_
      refine E_iload_n (pc := 11) rfl dJ7_fill_53178_11 ?_
      refine E_iload_n (pc := 12) rfl dJ7_fill_53178_12 ?_
      refine T_iast (pc := 13) dJ7_fill_53178_13 (ent_st h0.1) h0.2 h (fun s1 h => ?_)
      refine T_iinc (pc := 14) (m := 1) (L2 := [_, _, _, _]) rfl rfl rfl rfl dJ7_fill_53178_14 ?_
      refine E_goto (pc := 17) 5 (by decide) dJ7_fill_53178_17 ?_
      exact ih h
noncomputable def f_J7_fill_53178 (a0 : Nat) (n0 : Nat) (x1 : Int32) (σ : ST) : Option ST :=
    f_J7_fill_53178_5 a0 n0 FU x1 (nI 0) (nI n0) σ
theorem e_J7_fill_53178 {G : GP} {a0 : Nat} {n0 : Nat} {x1 : Int32} {σ : ST} {s : ST} (h0 : slT[a0]? = some (0, n0, []) ∧ n0 < 2 ^ 31) (h : f_J7_fill_53178 a0 n0 x1 σ = some s) : E G mJ7_fill_53178 (0, 0) 0 [.ref a0, .int x1, D0, D0] [] (mem σ) (QV s) := by
  unfold f_J7_fill_53178 at h
  refine E_iconst (pc := 0) 0 rfl dJ7_fill_53178_0 ?_
  refine E_istore_n (pc := 1) (L2 := [_, _, _, _]) rfl rfl dJ7_fill_53178_1 ?_
  refine E_aload_n (pc := 2) rfl dJ7_fill_53178_2 ?_
  refine R_alen (pc := 3) (v := nI n0) dJ7_fill_53178_3 (ent_st h0.1) (by decide) rfl ?_
  refine E_istore_n (pc := 4) (L2 := [_, _, _, _]) rfl rfl dJ7_fill_53178_4 ?_
  refine e_J7_fill_53178_5 ⟨h0.1, h0.2⟩ FU h
noncomputable def f_X1_become (a0 : Nat) (a1 : Nat) (σ : ST) : Option ST :=
    (pfI σ a0 0 (σ.1 a1 0)).bind fun s1 =>
    (cpI s1 (a1 + 1) 30 (a0 + 1) 30 (nI 0) (nI 0) (nI 30)).bind fun s2 =>
    (cpI s2 (a1 + 2) 30 (a0 + 2) 30 (nI 0) (nI 0) (nI 30)).bind fun s3 =>
    (cpI s3 (a1 + 3) 30 (a0 + 3) 30 (nI 0) (nI 0) (nI 30)).bind fun s4 =>
    (cpI s4 (a1 + 4) 30 (a0 + 4) 30 (nI 0) (nI 0) (nI 30)).bind fun s5 =>
    some s5
theorem e_X1_become {G : GP} {a0 : Nat} {a1 : Nat} {σ : ST} {s : ST} (h0 : CO a0) (h1 : CO a1) (h : f_X1_become a0 a1 σ = some s) : E G mX1_become (1, 60) 0 [.ref a0, .ref a1] [] (mem σ) (QV s) := by
  unfold f_X1_become at h
  refine E_aload_n (pc := 0) rfl dX1_become_0 ?_
  refine E_aload_n (pc := 1) rfl dX1_become_1 ?_
  refine R_getI (pc := 2) f1_9 dX1_become_2 (ent_st h1.1) (by decide) rfl ?_
  refine T_putI (pc := 5) f1_9 dX1_become_5 (ent_st h0.1) (by decide) rfl (by decide +kernel) h (fun s1 h => ?_)
  refine E_aload_n (pc := 8) rfl dX1_become_8 ?_
  refine R_getR (pc := 9) (b := a1 + 1) f1_15 dX1_become_9 (ent_st h1.1) (by decide) rfl rfl ?_
  refine E_iconst (pc := 12) 0 rfl dX1_become_12 ?_
  refine E_aload_n (pc := 13) rfl dX1_become_13 ?_
  refine R_getR (pc := 14) (b := a0 + 1) f1_15 dX1_become_14 (ent_st h0.1) (by decide) rfl rfl ?_
  refine E_iconst (pc := 17) 0 rfl dX1_become_17 ?_
  refine E_bipush (pc := 18) (nI 30) (by decide) dX1_become_18 ?_
  refine T_copyI (pc := 20) (by decide +kernel) (by decide) (Nat.le_of_ble_eq_true rfl) dX1_become_20 (ent_st h1.2.1) (ent_st h0.2.1) (by decide) h (fun s2 h => ?_)
  refine E_aload_n (pc := 23) rfl dX1_become_23 ?_
  refine R_getR (pc := 24) (b := a1 + 2) f1_19 dX1_become_24 (ent_st h1.1) (by decide) rfl rfl ?_
  refine E_iconst (pc := 27) 0 rfl dX1_become_27 ?_
  refine E_aload_n (pc := 28) rfl dX1_become_28 ?_
  refine R_getR (pc := 29) (b := a0 + 2) f1_19 dX1_become_29 (ent_st h0.1) (by decide) rfl rfl ?_
  refine E_iconst (pc := 32) 0 rfl dX1_become_32 ?_
  refine E_bipush (pc := 33) (nI 30) (by decide) dX1_become_33 ?_
  refine T_copyI (pc := 35) (by decide +kernel) (by decide) (Nat.le_of_ble_eq_true rfl) dX1_become_35 (ent_st h1.2.2.1) (ent_st h0.2.2.1) (by decide) h (fun s3 h => ?_)
  refine E_aload_n (pc := 38) rfl dX1_become_38 ?_
  refine R_getR (pc := 39) (b := a1 + 3) f1_22 dX1_become_39 (ent_st h1.1) (by decide) rfl rfl ?_
  refine E_iconst (pc := 42) 0 rfl dX1_become_42 ?_
  refine E_aload_n (pc := 43) rfl dX1_become_43 ?_
  refine R_getR (pc := 44) (b := a0 + 3) f1_22 dX1_become_44 (ent_st h0.1) (by decide) rfl rfl ?_
  refine E_iconst (pc := 47) 0 rfl dX1_become_47 ?_
  refine E_bipush (pc := 48) (nI 30) (by decide) dX1_become_48 ?_
  refine T_copyI (pc := 50) (by decide +kernel) (by decide) (Nat.le_of_ble_eq_true rfl) dX1_become_50 (ent_st h1.2.2.2.1) (ent_st h0.2.2.2.1) (by decide) h (fun s4 h => ?_)
  refine E_aload_n (pc := 53) rfl dX1_become_53 ?_
  refine R_getR (pc := 54) (b := a1 + 4) f1_25 dX1_become_54 (ent_st h1.1) (by decide) rfl rfl ?_
  refine E_iconst (pc := 57) 0 rfl dX1_become_57 ?_
  refine E_aload_n (pc := 58) rfl dX1_become_58 ?_
  refine R_getR (pc := 59) (b := a0 + 4) f1_25 dX1_become_59 (ent_st h0.1) (by decide) rfl rfl ?_
  refine E_iconst (pc := 62) 0 rfl dX1_become_62 ?_
  refine E_bipush (pc := 63) (nI 30) (by decide) dX1_become_63 ?_
  refine T_copyI (pc := 65) (by decide +kernel) (by decide) (Nat.le_of_ble_eq_true rfl) dX1_become_65 (ent_st h1.2.2.2.2) (ent_st h0.2.2.2.2) (by decide) h (fun s5 h => ?_)
  exact E_return (pc := 68) rfl dX1_become_68 (QV_of h)
noncomputable def f_X1_openAll (a0 : Nat) (σ : ST) : Option ST :=
    if (σ.1 a0 0) < (nI 30) then
    ((wrI σ (a0 + 1) 30 (σ.1 a0 0) (nI 0)).bind fun s1 =>
    (wrI s1 (a0 + 2) 30 (s1.1 a0 0) (nI 0)).bind fun s2 =>
    (wrI s2 (a0 + 3) 30 (s2.1 a0 0) (-1)).bind fun s3 =>
    (wrI s3 (a0 + 4) 30 (s3.1 a0 0) (nI 7)).bind fun s4 =>
    (pfI s4 a0 0 ((s4.1 a0 0) + (nI 1))).bind fun s5 =>
    some s5)
    else (some σ)
theorem e_X1_openAll {G : GP} {a0 : Nat} {σ : ST} {s : ST} (h0 : CO a0) (h : f_X1_openAll a0 σ = some s) : E G mX1_openAll (0, 0) 0 [.ref a0] [] (mem σ) (QV s) := by
  unfold f_X1_openAll at h
  refine E_aload_n (pc := 0) rfl dX1_openAll_0 ?_
  refine R_getI (pc := 1) f1_9 dX1_openAll_1 (ent_st h0.1) (by decide) rfl ?_
  refine E_bipush (pc := 4) (nI 30) (by decide) dX1_openAll_4 ?_
  refine T_icmp_ge (pc := 6) 60 dX1_openAll_6 (by decide) h (fun h => ?_) (fun h => ?_)
  · exact E_return (pc := 60) rfl dX1_openAll_60 (QV_of h)
  · refine E_aload_n (pc := 9) rfl dX1_openAll_9 ?_
    refine R_getR (pc := 10) (b := a0 + 1) f1_15 dX1_openAll_10 (ent_st h0.1) (by decide) rfl rfl ?_
    refine E_aload_n (pc := 13) rfl dX1_openAll_13 ?_
    refine R_getI (pc := 14) f1_9 dX1_openAll_14 (ent_st h0.1) (by decide) rfl ?_
    refine E_iconst (pc := 17) 0 rfl dX1_openAll_17 ?_
    refine T_iast (pc := 18) dX1_openAll_18 (ent_st h0.2.1) (by decide) h (fun s1 h => ?_)
    refine E_aload_n (pc := 19) rfl dX1_openAll_19 ?_
    refine R_getR (pc := 20) (b := a0 + 2) f1_19 dX1_openAll_20 (ent_st h0.1) (by decide) rfl rfl ?_
    refine E_aload_n (pc := 23) rfl dX1_openAll_23 ?_
    refine R_getI (pc := 24) f1_9 dX1_openAll_24 (ent_st h0.1) (by decide) rfl ?_
    refine E_iconst (pc := 27) 0 rfl dX1_openAll_27 ?_
    refine T_iast (pc := 28) dX1_openAll_28 (ent_st h0.2.2.1) (by decide) h (fun s2 h => ?_)
    refine E_aload_n (pc := 29) rfl dX1_openAll_29 ?_
    refine R_getR (pc := 30) (b := a0 + 3) f1_22 dX1_openAll_30 (ent_st h0.1) (by decide) rfl rfl ?_
    refine E_aload_n (pc := 33) rfl dX1_openAll_33 ?_
    refine R_getI (pc := 34) f1_9 dX1_openAll_34 (ent_st h0.1) (by decide) rfl ?_
    refine E_im1 (pc := 37) dX1_openAll_37 ?_
    refine T_iast (pc := 38) dX1_openAll_38 (ent_st h0.2.2.2.1) (by decide) h (fun s3 h => ?_)
    refine E_aload_n (pc := 39) rfl dX1_openAll_39 ?_
    refine R_getR (pc := 40) (b := a0 + 4) f1_25 dX1_openAll_40 (ent_st h0.1) (by decide) rfl rfl ?_
    refine E_aload_n (pc := 43) rfl dX1_openAll_43 ?_
    refine R_getI (pc := 44) f1_9 dX1_openAll_44 (ent_st h0.1) (by decide) rfl ?_
    refine E_bipush (pc := 47) (nI 7) (by decide) dX1_openAll_47 ?_
    refine T_iast (pc := 49) dX1_openAll_49 (ent_st h0.2.2.2.2) (by decide) h (fun s4 h => ?_)
    refine E_aload_n (pc := 50) rfl dX1_openAll_50 ?_
    refine E_dup (pc := 51) rfl dX1_openAll_51 ?_
    refine R_getI (pc := 52) f1_9 dX1_openAll_52 (ent_st h0.1) (by decide) rfl ?_
    refine E_iconst (pc := 55) 1 rfl dX1_openAll_55 ?_
    refine E_iadd (pc := 56) dX1_openAll_56 ?_
    refine T_putI (pc := 57) f1_9 dX1_openAll_57 (ent_st h0.1) (by decide) rfl (by decide +kernel) h (fun s5 h => ?_)
    exact E_return (pc := 60) rfl dX1_openAll_60 (QV_of h)
noncomputable def f_X1_addSo (a0 : Nat) (x1 : Int32) (x2 : Int32) (σ : ST) : Option ST :=
    if ((σ.1 a0 0) - (nI 1)) < 0 then
    (some σ)
    else (if x2 = 0 then
    ((rdI σ (a0 + 1) 30 ((σ.1 a0 0) - (nI 1))).bind fun v1 =>
    (wrI σ (a0 + 1) 30 ((σ.1 a0 0) - (nI 1)) (v1 ||| ((nI 1) <<< (x1 &&& 31)))).bind fun s2 =>
    some s2)
    else ((rdI σ (a0 + 2) 30 ((σ.1 a0 0) - (nI 1))).bind fun v3 =>
    (wrI σ (a0 + 2) 30 ((σ.1 a0 0) - (nI 1)) (v3 ||| ((nI 1) <<< (x1 &&& 31)))).bind fun s4 =>
    some s4))
theorem e_X1_addSo {G : GP} {a0 : Nat} {x1 : Int32} {x2 : Int32} {σ : ST} {s : ST} (h0 : CO a0) (h : f_X1_addSo a0 x1 x2 σ = some s) : E G mX1_addSo (0, 0) 0 [.ref a0, .int x1, .int x2, D0] [] (mem σ) (QV s) := by
  unfold f_X1_addSo at h
  refine E_aload_n (pc := 0) rfl dX1_addSo_0 ?_
  refine R_getI (pc := 1) f1_9 dX1_addSo_1 (ent_st h0.1) (by decide) rfl ?_
  refine E_iconst (pc := 4) 1 rfl dX1_addSo_4 ?_
  refine E_isub (pc := 5) dX1_addSo_5 ?_
  refine E_istore_n (pc := 6) (L2 := [_, _, _, _]) rfl rfl dX1_addSo_6 ?_
  refine E_iload_n (pc := 7) rfl dX1_addSo_7 ?_
  refine T_if_ge (pc := 8) 12 dX1_addSo_8 (by decide) h (fun h => ?_) (fun h => ?_)
  · refine E_iload_n (pc := 12) rfl dX1_addSo_12 ?_
    refine T_if_eq (pc := 13) 31 dX1_addSo_13 (by decide) h (fun h => ?_) (fun h => ?_)
    · refine E_aload_n (pc := 31) rfl dX1_addSo_31 ?_
      refine R_getR (pc := 32) (b := a0 + 1) f1_15 dX1_addSo_32 (ent_st h0.1) (by decide) rfl rfl ?_
      refine E_iload_n (pc := 35) rfl dX1_addSo_35 ?_
      refine E_dup2 (pc := 36) rfl rfl dX1_addSo_36 ?_
      refine T_iald (pc := 37) dX1_addSo_37 (ent_st h0.2.1) (by decide) h (fun v1 h => ?_)
      refine E_iconst (pc := 38) 1 rfl dX1_addSo_38 ?_
      refine E_iload_n (pc := 39) rfl dX1_addSo_39 ?_
      refine E_ishl (pc := 40) dX1_addSo_40 ?_
      refine E_ior (pc := 41) dX1_addSo_41 ?_
      refine T_iast (pc := 42) dX1_addSo_42 (ent_st h0.2.1) (by decide) h (fun s2 h => ?_)
      exact E_return (pc := 43) rfl dX1_addSo_43 (QV_of h)
    · refine E_aload_n (pc := 16) rfl dX1_addSo_16 ?_
      refine R_getR (pc := 17) (b := a0 + 2) f1_19 dX1_addSo_17 (ent_st h0.1) (by decide) rfl rfl ?_
      refine E_iload_n (pc := 20) rfl dX1_addSo_20 ?_
      refine E_dup2 (pc := 21) rfl rfl dX1_addSo_21 ?_
      refine T_iald (pc := 22) dX1_addSo_22 (ent_st h0.2.2.1) (by decide) h (fun v3 h => ?_)
      refine E_iconst (pc := 23) 1 rfl dX1_addSo_23 ?_
      refine E_iload_n (pc := 24) rfl dX1_addSo_24 ?_
      refine E_ishl (pc := 25) dX1_addSo_25 ?_
      refine E_ior (pc := 26) dX1_addSo_26 ?_
      refine T_iast (pc := 27) dX1_addSo_27 (ent_st h0.2.2.1) (by decide) h (fun s4 h => ?_)
      refine E_goto (pc := 28) 43 (by decide) dX1_addSo_28 ?_
      exact E_return (pc := 43) rfl dX1_addSo_43 (QV_of h)
  · exact E_return (pc := 11) rfl dX1_addSo_11 (QV_of h)
noncomputable def f_X1_addAbove (a0 : Nat) (x1 : Int32) (x2 : Int32) (σ : ST) : Option ST :=
    if ((σ.1 a0 0) - (nI 1)) < 0 then
    (some σ)
    else (if x2 = 0 then
    ((rdI σ (a0 + 3) 30 ((σ.1 a0 0) - (nI 1))).bind fun v1 =>
    (wrI σ (a0 + 3) 30 ((σ.1 a0 0) - (nI 1)) (if v1 < x1 then x1 else v1)).bind fun s2 =>
    some s2)
    else ((rdI σ (a0 + 4) 30 ((σ.1 a0 0) - (nI 1))).bind fun v3 =>
    (wrI σ (a0 + 4) 30 ((σ.1 a0 0) - (nI 1)) (if x1 < v3 then x1 else v3)).bind fun s4 =>
    some s4))
theorem e_X1_addAbove {G : GP} {a0 : Nat} {x1 : Int32} {x2 : Int32} {σ : ST} {s : ST} (h0 : CO a0) (h : f_X1_addAbove a0 x1 x2 σ = some s) : E G mX1_addAbove (1, 24) 0 [.ref a0, .int x1, .int x2, D0] [] (mem σ) (QV s) := by
  unfold f_X1_addAbove at h
  refine E_aload_n (pc := 0) rfl dX1_addAbove_0 ?_
  refine R_getI (pc := 1) f1_9 dX1_addAbove_1 (ent_st h0.1) (by decide) rfl ?_
  refine E_iconst (pc := 4) 1 rfl dX1_addAbove_4 ?_
  refine E_isub (pc := 5) dX1_addAbove_5 ?_
  refine E_istore_n (pc := 6) (L2 := [_, _, _, _]) rfl rfl dX1_addAbove_6 ?_
  refine E_iload_n (pc := 7) rfl dX1_addAbove_7 ?_
  refine T_if_ge (pc := 8) 12 dX1_addAbove_8 (by decide) h (fun h => ?_) (fun h => ?_)
  · refine E_iload_n (pc := 12) rfl dX1_addAbove_12 ?_
    refine T_if_eq (pc := 13) 35 dX1_addAbove_13 (by decide) h (fun h => ?_) (fun h => ?_)
    · refine E_aload_n (pc := 35) rfl dX1_addAbove_35 ?_
      refine R_getR (pc := 36) (b := a0 + 3) f1_22 dX1_addAbove_36 (ent_st h0.1) (by decide) rfl rfl ?_
      refine E_iload_n (pc := 39) rfl dX1_addAbove_39 ?_
      refine E_aload_n (pc := 40) rfl dX1_addAbove_40 ?_
      refine R_getR (pc := 41) (b := a0 + 3) f1_22 dX1_addAbove_41 (ent_st h0.1) (by decide) rfl rfl ?_
      refine E_iload_n (pc := 44) rfl dX1_addAbove_44 ?_
      refine T_iald (pc := 45) dX1_addAbove_45 (ent_st h0.2.2.2.1) (by decide) h (fun v1 h => ?_)
      refine E_iload_n (pc := 46) rfl dX1_addAbove_46 ?_
      refine E_mmax (pc := 47) (by decide +kernel) (by decide) (Nat.le_of_ble_eq_true rfl) dX1_addAbove_47 ?_
      refine T_iast (pc := 50) dX1_addAbove_50 (ent_st h0.2.2.2.1) (by decide) h (fun s2 h => ?_)
      exact E_return (pc := 51) rfl dX1_addAbove_51 (QV_of h)
    · refine E_aload_n (pc := 16) rfl dX1_addAbove_16 ?_
      refine R_getR (pc := 17) (b := a0 + 4) f1_25 dX1_addAbove_17 (ent_st h0.1) (by decide) rfl rfl ?_
      refine E_iload_n (pc := 20) rfl dX1_addAbove_20 ?_
      refine E_aload_n (pc := 21) rfl dX1_addAbove_21 ?_
      refine R_getR (pc := 22) (b := a0 + 4) f1_25 dX1_addAbove_22 (ent_st h0.1) (by decide) rfl rfl ?_
      refine E_iload_n (pc := 25) rfl dX1_addAbove_25 ?_
      refine T_iald (pc := 26) dX1_addAbove_26 (ent_st h0.2.2.2.2) (by decide) h (fun v3 h => ?_)
      refine E_iload_n (pc := 27) rfl dX1_addAbove_27 ?_
      refine E_mmin (pc := 28) (by decide +kernel) (by decide) (Nat.le_of_ble_eq_true rfl) dX1_addAbove_28 ?_
      refine T_iast (pc := 31) dX1_addAbove_31 (ent_st h0.2.2.2.2) (by decide) h (fun s4 h => ?_)
      refine E_goto (pc := 32) 51 (by decide) dX1_addAbove_32 ?_
      exact E_return (pc := 51) rfl dX1_addAbove_51 (QV_of h)
  · exact E_return (pc := 11) rfl dX1_addAbove_11 (QV_of h)
noncomputable def f_X1_isMet_43 (a0 : Nat) (k2 : Int32 → Int32 → Int32 → ST → Option (Int32 × ST)) (x1 : Int32) (x2 : Int32) (x3 : Int32) (z0 : Int32) (sg : ST) : Option (Int32 × ST) :=
    if z0 = 0 then
    (k2 x1 x2 (x3 + nI 1) sg)
    else ((rdI sg (a0 + 3) 30 x3).bind fun v3 =>
    if v3 < x2 then
    ((rdI sg (a0 + 4) 30 x3).bind fun v4 =>
    if v4 < x2 then
    (k2 x1 x2 (x3 + nI 1) sg)
    else (some ((nI 1), sg)))
    else (k2 x1 x2 (x3 + nI 1) sg))
theorem e_X1_isMet_43 {G : GP} {a0 : Nat} {k2 : Int32 → Int32 → Int32 → ST → Option (Int32 × ST)} {x1 : Int32} {x2 : Int32} {x3 : Int32} {z0 : Int32} {sg : ST} {v : Int32} {s : ST} (h0 : CO a0) (hk2 : ∀ {x1 : Int32} {x2 : Int32} {x3 : Int32} {sg : ST}, k2 x1 x2 x3 sg = some (v, s) → E G mX1_isMet (0, 0) 2 [.ref a0, .int x1, .int x2, .int x3, D0] [] (mem sg) (QI v s)) (h : f_X1_isMet_43 a0 k2 x1 x2 x3 z0 sg = some (v, s)) : E G mX1_isMet (0, 0) 43 [.ref a0, .int x1, .int x2, .int x3, D0] [.int z0] (mem sg) (QI v s) := by
  unfold f_X1_isMet_43 at h
  refine E_istore (pc := 43) (L2 := [_, _, _, _, _]) rfl rfl dX1_isMet_43 ?_
  refine E_iload (pc := 45) rfl dX1_isMet_45 ?_
  refine T_if_eq (pc := 47) 72 dX1_isMet_47 (by decide) h (fun h => ?_) (fun h => ?_)
  · refine T_iinc (pc := 72) (m := 1) (L2 := [_, _, _, _, _]) rfl rfl rfl rfl dX1_isMet_72 ?_
    refine E_goto (pc := 75) 2 (by decide) dX1_isMet_75 ?_
    refine E_kp [true, true, true, true, false] (L2 := [_, _, _, _, D0]) rfl rfl ?_
    exact hk2 h
  · refine E_iload_n (pc := 50) rfl dX1_isMet_50 ?_
    refine E_aload_n (pc := 51) rfl dX1_isMet_51 ?_
    refine R_getR (pc := 52) (b := a0 + 3) f1_22 dX1_isMet_52 (ent_st h0.1) (by decide) rfl rfl ?_
    refine E_iload_n (pc := 55) rfl dX1_isMet_55 ?_
    refine T_iald (pc := 56) dX1_isMet_56 (ent_st h0.2.2.2.1) (by decide) h (fun v3 h => ?_)
    refine T_icmp_le (pc := 57) 72 dX1_isMet_57 (by decide) h (fun h => ?_) (fun h => ?_)
    · refine T_iinc (pc := 72) (m := 1) (L2 := [_, _, _, _, _]) rfl rfl rfl rfl dX1_isMet_72 ?_
      refine E_goto (pc := 75) 2 (by decide) dX1_isMet_75 ?_
      refine E_kp [true, true, true, true, false] (L2 := [_, _, _, _, D0]) rfl rfl ?_
      exact hk2 h
    · refine E_iload_n (pc := 60) rfl dX1_isMet_60 ?_
      refine E_aload_n (pc := 61) rfl dX1_isMet_61 ?_
      refine R_getR (pc := 62) (b := a0 + 4) f1_25 dX1_isMet_62 (ent_st h0.1) (by decide) rfl rfl ?_
      refine E_iload_n (pc := 65) rfl dX1_isMet_65 ?_
      refine T_iald (pc := 66) dX1_isMet_66 (ent_st h0.2.2.2.2) (by decide) h (fun v4 h => ?_)
      refine T_icmp_gt (pc := 67) 72 dX1_isMet_67 (by decide) h (fun h => ?_) (fun h => ?_)
      · refine T_iinc (pc := 72) (m := 1) (L2 := [_, _, _, _, _]) rfl rfl rfl rfl dX1_isMet_72 ?_
        refine E_goto (pc := 75) 2 (by decide) dX1_isMet_75 ?_
        refine E_kp [true, true, true, true, false] (L2 := [_, _, _, _, D0]) rfl rfl ?_
        exact hk2 h
      · refine E_iconst (pc := 70) 1 rfl dX1_isMet_70 ?_
        exact E_ireturn (pc := 71) rfl (by decide) dX1_isMet_71 (QI_of h)
noncomputable def f_X1_isMet_42 (a0 : Nat) (k2 : Int32 → Int32 → Int32 → ST → Option (Int32 × ST)) (x1 : Int32) (x2 : Int32) (x3 : Int32) (sg : ST) : Option (Int32 × ST) :=
    f_X1_isMet_43 a0 k2 x1 x2 x3 (nI 0) sg
theorem e_X1_isMet_42 {G : GP} {a0 : Nat} {k2 : Int32 → Int32 → Int32 → ST → Option (Int32 × ST)} {x1 : Int32} {x2 : Int32} {x3 : Int32} {sg : ST} {v : Int32} {s : ST} (h0 : CO a0) (hk2 : ∀ {x1 : Int32} {x2 : Int32} {x3 : Int32} {sg : ST}, k2 x1 x2 x3 sg = some (v, s) → E G mX1_isMet (0, 0) 2 [.ref a0, .int x1, .int x2, .int x3, D0] [] (mem sg) (QI v s)) (h : f_X1_isMet_42 a0 k2 x1 x2 x3 sg = some (v, s)) : E G mX1_isMet (0, 0) 42 [.ref a0, .int x1, .int x2, .int x3, D0] [] (mem sg) (QI v s) := by
  unfold f_X1_isMet_42 at h
  refine E_iconst (pc := 42) 0 rfl dX1_isMet_42 ?_
  refine e_X1_isMet_43 h0 (fun h => hk2 h) h
noncomputable def f_X1_isMet_2 (a0 : Nat) (k78 : ST → Option (Int32 × ST)) : Nat → Int32 → Int32 → Int32 → ST → Option (Int32 × ST)
  | 0, _, _, _, _ => none
  | n + 1, x1, x2, x3, sg =>
    if x3 < (sg.1 a0 0) then
    ((rdI sg (a0 + 1) 30 x3).bind fun v1 =>
    (rdI sg (a0 + 1) 30 x3).bind fun v2 =>
    if (x1 &&& v1) = v2 then
    ((rdI sg (a0 + 2) 30 x3).bind fun v5 =>
    if (x1 &&& v5) = 0 then
    (f_X1_isMet_43 a0 (f_X1_isMet_2 a0 k78 n) x1 x2 x3 (nI 1) sg)
    else (f_X1_isMet_42 a0 (f_X1_isMet_2 a0 k78 n) x1 x2 x3 sg))
    else (f_X1_isMet_42 a0 (f_X1_isMet_2 a0 k78 n) x1 x2 x3 sg))
    else (k78 sg)
theorem e_X1_isMet_2 {G : GP} {a0 : Nat} {k78 : ST → Option (Int32 × ST)} {v : Int32} {s : ST} (h0 : CO a0) (hk78 : ∀ {sg : ST}, k78 sg = some (v, s) → E G mX1_isMet (0, 0) 78 [.ref a0, D0, D0, D0, D0] [] (mem sg) (QI v s)) : ∀ (n : Nat) {x1 : Int32} {x2 : Int32} {x3 : Int32} {sg : ST}, f_X1_isMet_2 a0 k78 n x1 x2 x3 sg = some (v, s) → E G mX1_isMet (0, 0) 2 [.ref a0, .int x1, .int x2, .int x3, D0] [] (mem sg) (QI v s) := by
  intro n
  induction n with
  | zero => intro _ _ _ _ h; rw [f_X1_isMet_2] at h; cases h
  | succ n ih =>
    intro x1 x2 x3 sg h
    rw [f_X1_isMet_2] at h
    refine E_iload_n (pc := 2) rfl dX1_isMet_2 ?_
    refine E_aload_n (pc := 3) rfl dX1_isMet_3 ?_
    refine R_getI (pc := 4) f1_9 dX1_isMet_4 (ent_st h0.1) (by decide) rfl ?_
    refine T_icmp_ge (pc := 7) 78 dX1_isMet_7 (by decide) h (fun h => ?_) (fun h => ?_)
    · refine E_kp [true, false, false, false, false] (L2 := [_, D0, D0, D0, D0]) rfl rfl ?_
      exact hk78 h
    · refine E_iload_n (pc := 10) rfl dX1_isMet_10 ?_
      refine E_aload_n (pc := 11) rfl dX1_isMet_11 ?_
      refine R_getR (pc := 12) (b := a0 + 1) f1_15 dX1_isMet_12 (ent_st h0.1) (by decide) rfl rfl ?_
      refine E_iload_n (pc := 15) rfl dX1_isMet_15 ?_
      refine T_iald (pc := 16) dX1_isMet_16 (ent_st h0.2.1) (by decide) h (fun v1 h => ?_)
      refine E_iand (pc := 17) dX1_isMet_17 ?_
      refine E_aload_n (pc := 18) rfl dX1_isMet_18 ?_
      refine R_getR (pc := 19) (b := a0 + 1) f1_15 dX1_isMet_19 (ent_st h0.1) (by decide) rfl rfl ?_
      refine E_iload_n (pc := 22) rfl dX1_isMet_22 ?_
      refine T_iald (pc := 23) dX1_isMet_23 (ent_st h0.2.1) (by decide) h (fun v2 h => ?_)
      refine T_icmp_ne (pc := 24) 42 dX1_isMet_24 (by decide) h (fun h => ?_) (fun h => ?_)
      · refine e_X1_isMet_42 h0 (fun h => ih h) h
      · refine E_iload_n (pc := 27) rfl dX1_isMet_27 ?_
        refine E_aload_n (pc := 28) rfl dX1_isMet_28 ?_
        refine R_getR (pc := 29) (b := a0 + 2) f1_19 dX1_isMet_29 (ent_st h0.1) (by decide) rfl rfl ?_
        refine E_iload_n (pc := 32) rfl dX1_isMet_32 ?_
        refine T_iald (pc := 33) dX1_isMet_33 (ent_st h0.2.2.1) (by decide) h (fun v5 h => ?_)
        refine E_iand (pc := 34) dX1_isMet_34 ?_
        refine T_if_ne (pc := 35) 42 dX1_isMet_35 (by decide) h (fun h => ?_) (fun h => ?_)
        · refine e_X1_isMet_42 h0 (fun h => ih h) h
        · refine E_iconst (pc := 38) 1 rfl dX1_isMet_38 ?_
          refine E_goto (pc := 39) 43 (by decide) dX1_isMet_39 ?_
          refine e_X1_isMet_43 h0 (fun h => ih h) h
noncomputable def f_X1_isMet (a0 : Nat) (x1 : Int32) (x2 : Int32) (σ : ST) : Option (Int32 × ST) :=
    f_X1_isMet_2 a0 (fun s6 =>
    if (s6.1 a0 0) = 0 then
    (some ((nI 1), s6))
    else (some ((nI 0), s6))) FU x1 x2 (nI 0) σ
theorem e_X1_isMet {G : GP} {a0 : Nat} {x1 : Int32} {x2 : Int32} {σ : ST} {v : Int32} {s : ST} (h0 : CO a0) (h : f_X1_isMet a0 x1 x2 σ = some (v, s)) : E G mX1_isMet (0, 0) 0 [.ref a0, .int x1, .int x2, D0, D0] [] (mem σ) (QI v s) := by
  unfold f_X1_isMet at h
  refine E_iconst (pc := 0) 0 rfl dX1_isMet_0 ?_
  refine E_istore_n (pc := 1) (L2 := [_, _, _, _, _]) rfl rfl dX1_isMet_1 ?_
  refine e_X1_isMet_2 h0 ?_ FU h
  · intro s6 h
    refine E_aload_n (pc := 78) rfl dX1_isMet_78 ?_
    refine R_getI (pc := 79) f1_9 dX1_isMet_79 (ent_st h0.1) (by decide) rfl ?_
    refine T_if_ne (pc := 82) 89 dX1_isMet_82 (by decide) h (fun h => ?_) (fun h => ?_)
    · refine E_iconst (pc := 89) 0 rfl dX1_isMet_89 ?_
      exact E_ireturn (pc := 90) rfl (by decide) dX1_isMet_90 (QI_of h)
    · refine E_iconst (pc := 85) 1 rfl dX1_isMet_85 ?_
      refine E_goto (pc := 86) 90 (by decide) dX1_isMet_86 ?_
      exact E_ireturn (pc := 90) rfl (by decide) dX1_isMet_90 (QI_of h)
noncomputable def f_X3_become (a0 : Nat) (a1 : Nat) (σ : ST) : Option ST :=
    (f_X1_become (a0 + 1) (a1 + 1) σ).bind fun s1 =>
    (pfI s1 a0 1 (s1.1 a1 1)).bind fun s2 =>
    (pfI s2 a0 2 (s2.1 a1 2)).bind fun s3 =>
    (pfZ s3 a0 3 (s3.1 a1 3)).bind fun s4 =>
    (pfI s4 a0 4 (s4.1 a1 4)).bind fun s5 =>
    (pfZ s5 a0 5 (s5.1 a1 5)).bind fun s6 =>
    some s6
theorem e_X3_become {G : GP} {a0 : Nat} {a1 : Nat} {σ : ST} {s : ST} (h0 : LA a0) (h1 : LA a1) (h : f_X3_become a0 a1 σ = some s) : E G mX3_become (2, 81) 0 [.ref a0, .ref a1] [] (mem σ) (QV s) := by
  unfold f_X3_become at h
  refine E_aload_n (pc := 0) rfl dX3_become_0 ?_
  refine R_getR (pc := 1) (b := a0 + 1) f3_10 dX3_become_1 (ent_st h0.1) (by decide) rfl rfl ?_
  refine E_aload_n (pc := 4) rfl dX3_become_4 ?_
  refine R_getR (pc := 5) (b := a1 + 1) f3_10 dX3_become_5 (ent_st h1.1) (by decide) rfl rfl ?_
  obtain ⟨s1, hp, h⟩ := bd_some h
  refine E_callV (pc := 8) (As := [_]) (fc := (1, 60)) s3_33_1 oX1_become dX3_become_8 (mem_ob (ent_st h0.2.1)) rfl rfl (Nat.le_of_ble_eq_true rfl) rfl rfl (by decide) (e_X1_become h0.2 h1.2 hp) (fun rv_ M_ hq_ => ?_)
  obtain ⟨rfl, rfl⟩ := hq_
  refine E_aload_n (pc := 11) rfl dX3_become_11 ?_
  refine E_aload_n (pc := 12) rfl dX3_become_12 ?_
  refine R_getI (pc := 13) f3_16 dX3_become_13 (ent_st h1.1) (by decide) rfl ?_
  refine T_putI (pc := 16) f3_16 dX3_become_16 (ent_st h0.1) (by decide) rfl (by decide +kernel) h (fun s2 h => ?_)
  refine E_aload_n (pc := 19) rfl dX3_become_19 ?_
  refine E_aload_n (pc := 20) rfl dX3_become_20 ?_
  refine R_getI (pc := 21) f3_20 dX3_become_21 (ent_st h1.1) (by decide) rfl ?_
  refine T_putI (pc := 24) f3_20 dX3_become_24 (ent_st h0.1) (by decide) rfl (by decide +kernel) h (fun s3 h => ?_)
  refine E_aload_n (pc := 27) rfl dX3_become_27 ?_
  refine E_aload_n (pc := 28) rfl dX3_become_28 ?_
  refine R_getI (pc := 29) f3_23 dX3_become_29 (ent_st h1.1) (by decide) rfl ?_
  refine T_putZ (pc := 32) f3_23 dX3_become_32 (ent_st h0.1) (by decide) rfl (by decide +kernel) h (fun s4 h => ?_)
  refine E_aload_n (pc := 35) rfl dX3_become_35 ?_
  refine E_aload_n (pc := 36) rfl dX3_become_36 ?_
  refine R_getI (pc := 37) f3_27 dX3_become_37 (ent_st h1.1) (by decide) rfl ?_
  refine T_putI (pc := 40) f3_27 dX3_become_40 (ent_st h0.1) (by decide) rfl (by decide +kernel) h (fun s5 h => ?_)
  refine E_aload_n (pc := 43) rfl dX3_become_43 ?_
  refine E_aload_n (pc := 44) rfl dX3_become_44 ?_
  refine R_getI (pc := 45) f3_30 dX3_become_45 (ent_st h1.1) (by decide) rfl ?_
  refine T_putZ (pc := 48) f3_30 dX3_become_48 (ent_st h0.1) (by decide) rfl (by decide +kernel) h (fun s6 h => ?_)
  exact E_return (pc := 51) rfl dX3_become_51 (QV_of h)
noncomputable def f_X3_clear (a0 : Nat) (σ : ST) : Option ST :=
    (pfI σ (a0 + 1) 0 (nI 0)).bind fun s1 =>
    (pfI s1 a0 1 (nI 0)).bind fun s2 =>
    (pfI s2 a0 2 (nI 0)).bind fun s3 =>
    (pfZ s3 a0 3 (nI 0)).bind fun s4 =>
    some s4
theorem e_X3_clear {G : GP} {a0 : Nat} {σ : ST} {s : ST} (h0 : LA a0) (h : f_X3_clear a0 σ = some s) : E G mX3_clear (0, 0) 0 [.ref a0] [] (mem σ) (QV s) := by
  unfold f_X3_clear at h
  refine E_aload_n (pc := 0) rfl dX3_clear_0 ?_
  refine R_getR (pc := 1) (b := a0 + 1) f3_10 dX3_clear_1 (ent_st h0.1) (by decide) rfl rfl ?_
  refine E_iconst (pc := 4) 0 rfl dX3_clear_4 ?_
  refine T_putI (pc := 5) f3_37 dX3_clear_5 (ent_st h0.2.1) (by decide) rfl (by decide +kernel) h (fun s1 h => ?_)
  refine E_aload_n (pc := 8) rfl dX3_clear_8 ?_
  refine E_iconst (pc := 9) 0 rfl dX3_clear_9 ?_
  refine T_putI (pc := 10) f3_16 dX3_clear_10 (ent_st h0.1) (by decide) rfl (by decide +kernel) h (fun s2 h => ?_)
  refine E_aload_n (pc := 13) rfl dX3_clear_13 ?_
  refine E_iconst (pc := 14) 0 rfl dX3_clear_14 ?_
  refine T_putI (pc := 15) f3_20 dX3_clear_15 (ent_st h0.1) (by decide) rfl (by decide +kernel) h (fun s3 h => ?_)
  refine E_aload_n (pc := 18) rfl dX3_clear_18 ?_
  refine E_iconst (pc := 19) 0 rfl dX3_clear_19 ?_
  refine T_putZ (pc := 20) f3_23 dX3_clear_20 (ent_st h0.1) (by decide) rfl (by decide +kernel) h (fun s4 h => ?_)
  exact E_return (pc := 23) rfl dX3_clear_23 (QV_of h)
noncomputable def f_X3_addEffect_26 (a0 : Nat) (b0 : Nat) (x2 : Int32) (x3 : Int32) (z1 : Int32) (sg : ST) : Option ST :=
    (pfI sg b0 1 z1).bind fun s1 =>
    if x2 = 0 then
    ((pfI s1 a0 2 ((s1.1 a0 2) ||| x3)).bind fun s2 =>
    some s2)
    else ((pfI s1 a0 2 ((s1.1 a0 2) &&& (x3 ^^^ (-1)))).bind fun s3 =>
    some s3)
theorem e_X3_addEffect_26 {G : GP} {a0 : Nat} {b0 : Nat} {x2 : Int32} {x3 : Int32} {z1 : Int32} {sg : ST} {s : ST} (h0 : LA a0) (g0 : LA b0) (h : f_X3_addEffect_26 a0 b0 x2 x3 z1 sg = some s) : E G mX3_addEffect (0, 0) 26 [.ref a0, D0, .int x2, .int x3] [.int z1, .ref b0] (mem sg) (QV s) := by
  unfold f_X3_addEffect_26 at h
  refine T_putI (pc := 26) f3_16 dX3_addEffect_26 (ent_st g0.1) (by decide) rfl (by decide +kernel) h (fun s1 h => ?_)
  refine E_aload_n (pc := 29) rfl dX3_addEffect_29 ?_
  refine E_iload_n (pc := 30) rfl dX3_addEffect_30 ?_
  refine T_if_eq (pc := 31) 45 dX3_addEffect_31 (by decide) h (fun h => ?_) (fun h => ?_)
  · refine E_aload_n (pc := 45) rfl dX3_addEffect_45 ?_
    refine R_getI (pc := 46) f3_20 dX3_addEffect_46 (ent_st h0.1) (by decide) rfl ?_
    refine E_iload_n (pc := 49) rfl dX3_addEffect_49 ?_
    refine E_ior (pc := 50) dX3_addEffect_50 ?_
    refine T_putI (pc := 51) f3_20 dX3_addEffect_51 (ent_st h0.1) (by decide) rfl (by decide +kernel) h (fun s2 h => ?_)
    exact E_return (pc := 54) rfl dX3_addEffect_54 (QV_of h)
  · refine E_aload_n (pc := 34) rfl dX3_addEffect_34 ?_
    refine R_getI (pc := 35) f3_20 dX3_addEffect_35 (ent_st h0.1) (by decide) rfl ?_
    refine E_iload_n (pc := 38) rfl dX3_addEffect_38 ?_
    refine E_im1 (pc := 39) dX3_addEffect_39 ?_
    refine E_ixor (pc := 40) dX3_addEffect_40 ?_
    refine E_iand (pc := 41) dX3_addEffect_41 ?_
    refine E_goto (pc := 42) 51 (by decide) dX3_addEffect_42 ?_
    refine T_putI (pc := 51) f3_20 dX3_addEffect_51 (ent_st h0.1) (by decide) rfl (by decide +kernel) h (fun s3 h => ?_)
    exact E_return (pc := 54) rfl dX3_addEffect_54 (QV_of h)
noncomputable def f_X3_addEffect (a0 : Nat) (x1 : Int32) (x2 : Int32) (σ : ST) : Option ST :=
    if x2 = 0 then
    (f_X3_addEffect_26 a0 a0 x2 ((nI 1) <<< (x1 &&& 31)) ((σ.1 a0 1) &&& (((nI 1) <<< (x1 &&& 31)) ^^^ (-1))) σ)
    else (f_X3_addEffect_26 a0 a0 x2 ((nI 1) <<< (x1 &&& 31)) ((σ.1 a0 1) ||| ((nI 1) <<< (x1 &&& 31))) σ)
theorem e_X3_addEffect {G : GP} {a0 : Nat} {x1 : Int32} {x2 : Int32} {σ : ST} {s : ST} (h0 : LA a0) (h : f_X3_addEffect a0 x1 x2 σ = some s) : E G mX3_addEffect (0, 0) 0 [.ref a0, .int x1, .int x2, D0] [] (mem σ) (QV s) := by
  unfold f_X3_addEffect at h
  refine E_iconst (pc := 0) 1 rfl dX3_addEffect_0 ?_
  refine E_iload_n (pc := 1) rfl dX3_addEffect_1 ?_
  refine E_ishl (pc := 2) dX3_addEffect_2 ?_
  refine E_istore_n (pc := 3) (L2 := [_, _, _, _]) rfl rfl dX3_addEffect_3 ?_
  refine E_aload_n (pc := 4) rfl dX3_addEffect_4 ?_
  refine E_iload_n (pc := 5) rfl dX3_addEffect_5 ?_
  refine T_if_eq (pc := 6) 18 dX3_addEffect_6 (by decide) h (fun h => ?_) (fun h => ?_)
  · refine E_aload_n (pc := 18) rfl dX3_addEffect_18 ?_
    refine R_getI (pc := 19) f3_16 dX3_addEffect_19 (ent_st h0.1) (by decide) rfl ?_
    refine E_iload_n (pc := 22) rfl dX3_addEffect_22 ?_
    refine E_im1 (pc := 23) dX3_addEffect_23 ?_
    refine E_ixor (pc := 24) dX3_addEffect_24 ?_
    refine E_iand (pc := 25) dX3_addEffect_25 ?_
    refine E_kp [true, false, true, true] (L2 := [_, D0, _, _]) rfl rfl ?_
    refine e_X3_addEffect_26 h0 h0 h
  · refine E_aload_n (pc := 9) rfl dX3_addEffect_9 ?_
    refine R_getI (pc := 10) f3_16 dX3_addEffect_10 (ent_st h0.1) (by decide) rfl ?_
    refine E_iload_n (pc := 13) rfl dX3_addEffect_13 ?_
    refine E_ior (pc := 14) dX3_addEffect_14 ?_
    refine E_goto (pc := 15) 26 (by decide) dX3_addEffect_15 ?_
    refine E_kp [true, false, true, true] (L2 := [_, D0, _, _]) rfl rfl ?_
    refine e_X3_addEffect_26 h0 h0 h
noncomputable def f_X5_closeAtom_17 (sg : ST) : Option ST :=
    if (sg.1 188 6) = (-1) then
    ((f_X1_addSo 190 (sg.1 188 5) (sg.1 188 4) sg).bind fun s2 =>
    some s2)
    else ((f_X1_addAbove 190 (sg.1 188 6) (sg.1 188 4) sg).bind fun s1 =>
    some s1)
theorem e_X5_closeAtom_17 {G : GP} {sg : ST} {s : ST}  (h : f_X5_closeAtom_17 sg = some s) : E G mX5_closeAtom (2, 47) 17 [.ref 188] [] (mem sg) (QV s) := by
  unfold f_X5_closeAtom_17 at h
  refine E_aload_n (pc := 17) rfl dX5_closeAtom_17 ?_
  refine R_getI (pc := 18) f5_32 dX5_closeAtom_18 (ent_st RD188) (by decide) rfl ?_
  refine E_im1 (pc := 21) dX5_closeAtom_21 ?_
  refine T_icmp_ne (pc := 22) 46 dX5_closeAtom_22 (by decide) h (fun h => ?_) (fun h => ?_)
  · refine E_aload_n (pc := 46) rfl dX5_closeAtom_46 ?_
    refine R_getR (pc := 47) (b := 189) f5_12 dX5_closeAtom_47 (ent_st RD188) (by decide) rfl rfl ?_
    refine R_getR (pc := 50) (b := 190) f5_83 dX5_closeAtom_50 (ent_st LA189.1) (by decide) rfl rfl ?_
    refine E_aload_n (pc := 53) rfl dX5_closeAtom_53 ?_
    refine R_getI (pc := 54) f5_32 dX5_closeAtom_54 (ent_st RD188) (by decide) rfl ?_
    refine E_aload_n (pc := 57) rfl dX5_closeAtom_57 ?_
    refine R_getI (pc := 58) f5_25 dX5_closeAtom_58 (ent_st RD188) (by decide) rfl ?_
    obtain ⟨s1, hp, h⟩ := bd_some h
    refine E_callV (pc := 61) (As := [_, _]) (fc := (1, 24)) s5_96_1 oX1_addAbove dX5_closeAtom_61 (mem_ob (ent_st LA189.2.1)) rfl rfl (Nat.le_of_ble_eq_true rfl) rfl rfl (by decide) (e_X1_addAbove LA189.2 hp) (fun rv_ M_ hq_ => ?_)
    obtain ⟨rfl, rfl⟩ := hq_
    exact E_return (pc := 64) rfl dX5_closeAtom_64 (QV_of h)
  · refine E_aload_n (pc := 25) rfl dX5_closeAtom_25 ?_
    refine R_getR (pc := 26) (b := 189) f5_12 dX5_closeAtom_26 (ent_st RD188) (by decide) rfl rfl ?_
    refine R_getR (pc := 29) (b := 190) f5_83 dX5_closeAtom_29 (ent_st LA189.1) (by decide) rfl rfl ?_
    refine E_aload_n (pc := 32) rfl dX5_closeAtom_32 ?_
    refine R_getI (pc := 33) f5_28 dX5_closeAtom_33 (ent_st RD188) (by decide) rfl ?_
    refine E_aload_n (pc := 36) rfl dX5_closeAtom_36 ?_
    refine R_getI (pc := 37) f5_25 dX5_closeAtom_37 (ent_st RD188) (by decide) rfl ?_
    obtain ⟨s2, hp, h⟩ := bd_some h
    refine E_callV (pc := 40) (As := [_, _]) (fc := (0, 0)) s5_92_1 oX1_addSo dX5_closeAtom_40 (mem_ob (ent_st LA189.2.1)) rfl rfl (Nat.le_of_ble_eq_true rfl) rfl rfl (by decide) (e_X1_addSo LA189.2 hp) (fun rv_ M_ hq_ => ?_)
    obtain ⟨rfl, rfl⟩ := hq_
    refine E_goto (pc := 43) 64 (by decide) dX5_closeAtom_43 ?_
    exact E_return (pc := 64) rfl dX5_closeAtom_64 (QV_of h)
noncomputable def f_X5_closeAtom (σ : ST) : Option ST :=
    if (σ.1 188 3) = 0 then
    (f_X5_closeAtom_17 σ)
    else ((f_X1_openAll 190 σ).bind fun s3 =>
    f_X5_closeAtom_17 s3)
theorem e_X5_closeAtom {G : GP} {σ : ST} {s : ST}  (h : f_X5_closeAtom σ = some s) : E G mX5_closeAtom (2, 47) 0 [.ref 188] [] (mem σ) (QV s) := by
  unfold f_X5_closeAtom at h
  refine E_aload_n (pc := 0) rfl dX5_closeAtom_0 ?_
  refine R_getI (pc := 1) f5_22 dX5_closeAtom_1 (ent_st RD188) (by decide) rfl ?_
  refine T_if_eq (pc := 4) 17 dX5_closeAtom_4 (by decide) h (fun h => ?_) (fun h => ?_)
  · refine e_X5_closeAtom_17  h
  · refine E_aload_n (pc := 7) rfl dX5_closeAtom_7 ?_
    refine R_getR (pc := 8) (b := 189) f5_12 dX5_closeAtom_8 (ent_st RD188) (by decide) rfl rfl ?_
    refine R_getR (pc := 11) (b := 190) f5_83 dX5_closeAtom_11 (ent_st LA189.1) (by decide) rfl rfl ?_
    obtain ⟨s3, hp, h⟩ := bd_some h
    refine E_callV (pc := 14) (As := []) (fc := (0, 0)) s5_87_1 oX1_openAll dX5_closeAtom_14 (mem_ob (ent_st LA189.2.1)) rfl rfl (Nat.le_of_ble_eq_true rfl) rfl rfl (by decide) (e_X1_openAll LA189.2 hp) (fun rv_ M_ hq_ => ?_)
    obtain ⟨rfl, rfl⟩ := hq_
    refine e_X5_closeAtom_17  h
noncomputable def f_X5_afterAtom_44 (x1 : Int32) (z1 : Int32) (sg : ST) : Option (Int32 × ST) :=
    (pfZ sg 188 3 z1).bind fun s2 =>
    if x1 = (nI 58) then
    (some ((nI 6), s2))
    else (some ((nI 1), s2))
theorem e_X5_afterAtom_44 {G : GP} {x1 : Int32} {z1 : Int32} {sg : ST} {v : Int32} {s : ST}  (h : f_X5_afterAtom_44 x1 z1 sg = some (v, s)) : E G mX5_afterAtom (3, 67) 44 [D0, .int x1] [.int z1, .ref 188] (mem sg) (QI v s) := by
  unfold f_X5_afterAtom_44 at h
  refine T_putZ (pc := 44) f5_22 dX5_afterAtom_44 (ent_st RD188) (by decide) rfl (by decide +kernel) h (fun s2 h => ?_)
  refine E_iload_n (pc := 47) rfl dX5_afterAtom_47 ?_
  refine E_bipush (pc := 48) (nI 58) (by decide) dX5_afterAtom_48 ?_
  refine T_icmp_ne (pc := 50) 58 dX5_afterAtom_50 (by decide) h (fun h => ?_) (fun h => ?_)
  · refine E_iconst (pc := 58) 1 rfl dX5_afterAtom_58 ?_
    exact E_ireturn (pc := 59) rfl rfl dX5_afterAtom_59 (QI_of h)
  · refine E_bipush (pc := 53) (nI 6) (by decide) dX5_afterAtom_53 ?_
    refine E_goto (pc := 55) 59 (by decide) dX5_afterAtom_55 ?_
    exact E_ireturn (pc := 59) rfl rfl dX5_afterAtom_59 (QI_of h)
noncomputable def f_X5_afterAtom_28 (x1 : Int32) (sg : ST) : Option (Int32 × ST) :=
    (f_X5_closeAtom sg).bind fun s1 =>
    if x1 = (nI 124) then
    (f_X5_afterAtom_44 x1 (nI 1) s1)
    else (f_X5_afterAtom_44 x1 (nI 0) s1)
theorem e_X5_afterAtom_28 {G : GP} {x1 : Int32} {sg : ST} {v : Int32} {s : ST}  (h : f_X5_afterAtom_28 x1 sg = some (v, s)) : E G mX5_afterAtom (3, 67) 28 [.ref 188, .int x1] [] (mem sg) (QI v s) := by
  unfold f_X5_afterAtom_28 at h
  refine E_aload_n (pc := 28) rfl dX5_afterAtom_28 ?_
  obtain ⟨s1, hp, h⟩ := bd_some h
  refine E_callV (pc := 29) (As := []) (fc := (2, 47)) s5_55_5 oX5_closeAtom dX5_afterAtom_29 (mem_ob (ent_st RD188)) rfl rfl (Nat.le_of_ble_eq_true rfl) rfl rfl (by decide) (e_X5_closeAtom hp) (fun rv_ M_ hq_ => ?_)
  obtain ⟨rfl, rfl⟩ := hq_
  refine E_aload_n (pc := 32) rfl dX5_afterAtom_32 ?_
  refine E_iload_n (pc := 33) rfl dX5_afterAtom_33 ?_
  refine E_bipush (pc := 34) (nI 124) (by decide) dX5_afterAtom_34 ?_
  refine T_icmp_ne (pc := 36) 43 dX5_afterAtom_36 (by decide) h (fun h => ?_) (fun h => ?_)
  · refine E_iconst (pc := 43) 0 rfl dX5_afterAtom_43 ?_
    refine E_kp [false, true] (L2 := [D0, _]) rfl rfl ?_
    refine e_X5_afterAtom_44  h
  · refine E_iconst (pc := 39) 1 rfl dX5_afterAtom_39 ?_
    refine E_goto (pc := 40) 44 (by decide) dX5_afterAtom_40 ?_
    refine E_kp [false, true] (L2 := [D0, _]) rfl rfl ?_
    refine e_X5_afterAtom_44  h
noncomputable def f_X5_afterAtom (x1 : Int32) (σ : ST) : Option (Int32 × ST) :=
    if x1 = (nI 38) then
    (f_X5_afterAtom_28 x1 σ)
    else (if x1 = (nI 124) then
    (f_X5_afterAtom_28 x1 σ)
    else (if x1 = (nI 58) then
    (if (σ.1 188 2) = 0 then
    (some ((nI 11), σ))
    else (f_X5_afterAtom_28 x1 σ))
    else (some ((nI 11), σ))))
theorem e_X5_afterAtom {G : GP} {x1 : Int32} {σ : ST} {v : Int32} {s : ST}  (h : f_X5_afterAtom x1 σ = some (v, s)) : E G mX5_afterAtom (3, 67) 0 [.ref 188, .int x1] [] (mem σ) (QI v s) := by
  unfold f_X5_afterAtom at h
  refine E_iload_n (pc := 0) rfl dX5_afterAtom_0 ?_
  refine E_bipush (pc := 1) (nI 38) (by decide) dX5_afterAtom_1 ?_
  refine T_icmp_eq (pc := 3) 28 dX5_afterAtom_3 (by decide) h (fun h => ?_) (fun h => ?_)
  · refine e_X5_afterAtom_28  h
  · refine E_iload_n (pc := 6) rfl dX5_afterAtom_6 ?_
    refine E_bipush (pc := 7) (nI 124) (by decide) dX5_afterAtom_7 ?_
    refine T_icmp_eq (pc := 9) 28 dX5_afterAtom_9 (by decide) h (fun h => ?_) (fun h => ?_)
    · refine e_X5_afterAtom_28  h
    · refine E_iload_n (pc := 12) rfl dX5_afterAtom_12 ?_
      refine E_bipush (pc := 13) (nI 58) (by decide) dX5_afterAtom_13 ?_
      refine T_icmp_ne (pc := 15) 25 dX5_afterAtom_15 (by decide) h (fun h => ?_) (fun h => ?_)
      · refine E_bipush (pc := 25) (nI 11) (by decide) dX5_afterAtom_25 ?_
        exact E_ireturn (pc := 27) rfl rfl dX5_afterAtom_27 (QI_of h)
      · refine E_aload_n (pc := 18) rfl dX5_afterAtom_18 ?_
        refine R_getI (pc := 19) f5_18 dX5_afterAtom_19 (ent_st RD188) (by decide) rfl ?_
        refine T_if_ne (pc := 22) 28 dX5_afterAtom_22 (by decide) h (fun h => ?_) (fun h => ?_)
        · refine e_X5_afterAtom_28  h
        · refine E_bipush (pc := 25) (nI 11) (by decide) dX5_afterAtom_25 ?_
          exact E_ireturn (pc := 27) rfl rfl dX5_afterAtom_27 (QI_of h)
noncomputable def f_X5_kindOf (x1 : Int32) (σ : ST) : Option (Int32 × ST) :=
    if x1 < 0 then
    (some ((-1), σ))
    else (if x1 < (σ.1 2 0) then
    ((rdI σ 3 10 x1).bind fun v1 =>
    some (v1, σ))
    else (some ((-1), σ)))
theorem e_X5_kindOf {G : GP} {x1 : Int32} {σ : ST} {v : Int32} {s : ST}  (h : f_X5_kindOf x1 σ = some (v, s)) : E G mX5_kindOf (0, 0) 0 [.ref 188, .int x1] [] (mem σ) (QI v s) := by
  unfold f_X5_kindOf at h
  refine E_iload_n (pc := 0) rfl dX5_kindOf_0 ?_
  refine T_if_lt (pc := 1) 27 dX5_kindOf_1 (by decide) h (fun h => ?_) (fun h => ?_)
  · refine E_im1 (pc := 27) dX5_kindOf_27 ?_
    exact E_ireturn (pc := 28) rfl rfl dX5_kindOf_28 (QI_of h)
  · refine E_iload_n (pc := 4) rfl dX5_kindOf_4 ?_
    refine E_aload_n (pc := 5) rfl dX5_kindOf_5 ?_
    refine R_getR (pc := 6) (b := 2) f5_35 dX5_kindOf_6 (ent_st RD188) (by decide) rfl rfl ?_
    refine R_getI (pc := 9) f5_111 dX5_kindOf_9 (ent_st WO2.1) (by decide) rfl ?_
    refine T_icmp_ge (pc := 12) 27 dX5_kindOf_12 (by decide) h (fun h => ?_) (fun h => ?_)
    · refine E_im1 (pc := 27) dX5_kindOf_27 ?_
      exact E_ireturn (pc := 28) rfl rfl dX5_kindOf_28 (QI_of h)
    · refine E_aload_n (pc := 15) rfl dX5_kindOf_15 ?_
      refine R_getR (pc := 16) (b := 2) f5_35 dX5_kindOf_16 (ent_st RD188) (by decide) rfl rfl ?_
      refine R_getR (pc := 19) (b := 3) f5_114 dX5_kindOf_19 (ent_st WO2.1) (by decide) rfl rfl ?_
      refine E_iload_n (pc := 22) rfl dX5_kindOf_22 ?_
      refine T_iald (pc := 23) dX5_kindOf_23 (ent_st WO2.2.1) (by decide) h (fun v1 h => ?_)
      refine E_goto (pc := 24) 28 (by decide) dX5_kindOf_24 ?_
      exact E_ireturn (pc := 28) rfl rfl dX5_kindOf_28 (QI_of h)
noncomputable def f_X5_afterName (x1 : Int32) (x2 : Int32) (σ : ST) : Option (Int32 × ST) :=
    bd2 (f_X5_kindOf (x1 - (nI 48)) σ) fun v2 s1 =>
    if v2 = (-1) then
    (some ((nI 11), s1))
    else ((pfI s1 188 5 (x1 - (nI 48))).bind fun s3 =>
    (pfZ s3 188 4 x2).bind fun s4 =>
    (pfI s4 188 6 (-1)).bind fun s5 =>
    some ((nI 3), s5))
theorem e_X5_afterName {G : GP} {x1 : Int32} {x2 : Int32} {σ : ST} {v : Int32} {s : ST}  (h : f_X5_afterName x1 x2 σ = some (v, s)) : E G mX5_afterName (1, 21) 0 [.ref 188, .int x1, .int x2, D0] [] (mem σ) (QI v s) := by
  unfold f_X5_afterName at h
  refine E_iload_n (pc := 0) rfl dX5_afterName_0 ?_
  refine E_bipush (pc := 1) (nI 48) (by decide) dX5_afterName_1 ?_
  refine E_isub (pc := 3) dX5_afterName_3 ?_
  refine E_istore_n (pc := 4) (L2 := [_, _, _, _]) rfl rfl dX5_afterName_4 ?_
  refine E_aload_n (pc := 5) rfl dX5_afterName_5 ?_
  refine E_iload_n (pc := 6) rfl dX5_afterName_6 ?_
  obtain ⟨v2, s1, hp, h⟩ := bd2_some h
  refine E_callV (pc := 7) (As := [_]) (fc := (0, 0)) s5_65_5 oX5_kindOf dX5_afterName_7 (mem_ob (ent_st RD188)) rfl rfl (Nat.le_of_ble_eq_true rfl) rfl rfl (by decide) (e_X5_kindOf hp) (fun rv_ M_ hq_ => ?_)
  obtain ⟨rfl, rfl⟩ := hq_
  refine E_im1 (pc := 10) dX5_afterName_10 ?_
  refine T_icmp_ne (pc := 11) 17 dX5_afterName_11 (by decide) h (fun h => ?_) (fun h => ?_)
  · refine E_aload_n (pc := 17) rfl dX5_afterName_17 ?_
    refine E_iload_n (pc := 18) rfl dX5_afterName_18 ?_
    refine T_putI (pc := 19) f5_28 dX5_afterName_19 (ent_st RD188) (by decide) rfl (by decide +kernel) h (fun s3 h => ?_)
    refine E_aload_n (pc := 22) rfl dX5_afterName_22 ?_
    refine E_iload_n (pc := 23) rfl dX5_afterName_23 ?_
    refine T_putZ (pc := 24) f5_25 dX5_afterName_24 (ent_st RD188) (by decide) rfl (by decide +kernel) h (fun s4 h => ?_)
    refine E_aload_n (pc := 27) rfl dX5_afterName_27 ?_
    refine E_im1 (pc := 28) dX5_afterName_28 ?_
    refine T_putI (pc := 29) f5_32 dX5_afterName_29 (ent_st RD188) (by decide) rfl (by decide +kernel) h (fun s5 h => ?_)
    refine E_iconst (pc := 32) 3 rfl dX5_afterName_32 ?_
    exact E_ireturn (pc := 33) rfl rfl dX5_afterName_33 (QI_of h)
  · refine E_bipush (pc := 14) (nI 11) (by decide) dX5_afterName_14 ?_
    exact E_ireturn (pc := 16) rfl rfl dX5_afterName_16 (QI_of h)
noncomputable def f_X5_afterAtomBegan (x1 : Int32) (σ : ST) : Option (Int32 × ST) :=
    if x1 = (nI 33) then
    (some ((nI 2), σ))
    else (bd2 (f_X5_afterName x1 (nI 0) σ) fun v2 s1 =>
    some (v2, s1))
theorem e_X5_afterAtomBegan {G : GP} {x1 : Int32} {σ : ST} {v : Int32} {s : ST}  (h : f_X5_afterAtomBegan x1 σ = some (v, s)) : E G mX5_afterAtomBegan (2, 44) 0 [.ref 188, .int x1] [] (mem σ) (QI v s) := by
  unfold f_X5_afterAtomBegan at h
  refine E_iload_n (pc := 0) rfl dX5_afterAtomBegan_0 ?_
  refine E_bipush (pc := 1) (nI 33) (by decide) dX5_afterAtomBegan_1 ?_
  refine T_icmp_ne (pc := 3) 10 dX5_afterAtomBegan_3 (by decide) h (fun h => ?_) (fun h => ?_)
  · refine E_aload_n (pc := 10) rfl dX5_afterAtomBegan_10 ?_
    refine E_iload_n (pc := 11) rfl dX5_afterAtomBegan_11 ?_
    refine E_iconst (pc := 12) 0 rfl dX5_afterAtomBegan_12 ?_
    obtain ⟨v2, s1, hp, h⟩ := bd2_some h
    refine E_callV (pc := 13) (As := [_, _]) (fc := (1, 21)) s5_61_5 oX5_afterName dX5_afterAtomBegan_13 (mem_ob (ent_st RD188)) rfl rfl (Nat.le_of_ble_eq_true rfl) rfl rfl (by decide) (e_X5_afterName hp) (fun rv_ M_ hq_ => ?_)
    obtain ⟨rfl, rfl⟩ := hq_
    exact E_ireturn (pc := 16) rfl rfl dX5_afterAtomBegan_16 (QI_of h)
  · refine E_iconst (pc := 6) 2 rfl dX5_afterAtomBegan_6 ?_
    refine E_goto (pc := 7) 16 (by decide) dX5_afterAtomBegan_7 ?_
    exact E_ireturn (pc := 16) rfl rfl dX5_afterAtomBegan_16 (QI_of h)
noncomputable def f_X5_afterBound (x1 : Int32) (σ : ST) : Option (Int32 × ST) :=
    if x1 < (nI 48) then
    (some ((nI 11), σ))
    else (if (nI 55) < x1 then
    (some ((nI 11), σ))
    else ((pfI σ 188 6 (x1 - (nI 48))).bind fun s1 =>
    some ((nI 5), s1)))
theorem e_X5_afterBound {G : GP} {x1 : Int32} {σ : ST} {v : Int32} {s : ST}  (h : f_X5_afterBound x1 σ = some (v, s)) : E G mX5_afterBound (0, 0) 0 [.ref 188, .int x1] [] (mem σ) (QI v s) := by
  unfold f_X5_afterBound at h
  refine E_iload_n (pc := 0) rfl dX5_afterBound_0 ?_
  refine E_bipush (pc := 1) (nI 48) (by decide) dX5_afterBound_1 ?_
  refine T_icmp_lt (pc := 3) 12 dX5_afterBound_3 (by decide) h (fun h => ?_) (fun h => ?_)
  · refine E_bipush (pc := 12) (nI 11) (by decide) dX5_afterBound_12 ?_
    exact E_ireturn (pc := 14) rfl rfl dX5_afterBound_14 (QI_of h)
  · refine E_iload_n (pc := 6) rfl dX5_afterBound_6 ?_
    refine E_bipush (pc := 7) (nI 55) (by decide) dX5_afterBound_7 ?_
    refine T_icmp_le (pc := 9) 15 dX5_afterBound_9 (by decide) h (fun h => ?_) (fun h => ?_)
    · refine E_aload_n (pc := 15) rfl dX5_afterBound_15 ?_
      refine E_iload_n (pc := 16) rfl dX5_afterBound_16 ?_
      refine E_bipush (pc := 17) (nI 48) (by decide) dX5_afterBound_17 ?_
      refine E_isub (pc := 19) dX5_afterBound_19 ?_
      refine T_putI (pc := 20) f5_32 dX5_afterBound_20 (ent_st RD188) (by decide) rfl (by decide +kernel) h (fun s1 h => ?_)
      refine E_iconst (pc := 23) 5 rfl dX5_afterBound_23 ?_
      exact E_ireturn (pc := 24) rfl rfl dX5_afterBound_24 (QI_of h)
    · refine E_bipush (pc := 12) (nI 11) (by decide) dX5_afterBound_12 ?_
      exact E_ireturn (pc := 14) rfl rfl dX5_afterBound_14 (QI_of h)
noncomputable def f_X5_afterEffectBegan (x1 : Int32) (σ : ST) : Option (Int32 × ST) :=
    if x1 = nI 98 then
    (some ((nI 7), σ))
    else if x1 = nI 101 then
    (some ((nI 8), σ))
    else if x1 = nI 122 then
    (some ((nI 9), σ))
    else (some ((nI 11), σ))
theorem e_X5_afterEffectBegan {G : GP} {x1 : Int32} {σ : ST} {v : Int32} {s : ST}  (h : f_X5_afterEffectBegan x1 σ = some (v, s)) : E G mX5_afterEffectBegan (0, 0) 0 [.ref 188, .int x1] [] (mem σ) (QI v s) := by
  unfold f_X5_afterEffectBegan at h
  refine E_iload_n (pc := 0) rfl dX5_afterEffectBegan_0 ?_
  refine T_lkp (pc := 1) (m := 98) 36 (by omega) dX5_afterEffectBegan_1 (by decide) rfl (by decide) h (fun h => ?_) (fun u1_98 h => ?_)
  · refine E_bipush (pc := 36) (nI 7) (by decide) dX5_afterEffectBegan_36 ?_
    exact E_ireturn (pc := 38) rfl rfl dX5_afterEffectBegan_38 (QI_of h)
  refine T_lkp (pc := 1) (m := 101) 39 (by omega) dX5_afterEffectBegan_1 (by decide) rfl (by decide) h (fun h => ?_) (fun u1_101 h => ?_)
  · refine E_bipush (pc := 39) (nI 8) (by decide) dX5_afterEffectBegan_39 ?_
    exact E_ireturn (pc := 41) rfl rfl dX5_afterEffectBegan_41 (QI_of h)
  refine T_lkp (pc := 1) (m := 122) 42 (by omega) dX5_afterEffectBegan_1 (by decide) rfl (by decide) h (fun h => ?_) (fun u1_122 h => ?_)
  · refine E_bipush (pc := 42) (nI 9) (by decide) dX5_afterEffectBegan_42 ?_
    exact E_ireturn (pc := 44) rfl rfl dX5_afterEffectBegan_44 (QI_of h)
  refine E_lkp (pc := 1) 45 (by decide) (off := 44) (T_lkpD u1_98 u1_101 u1_122) (by decide) dX5_afterEffectBegan_1 ?_
  refine E_bipush (pc := 45) (nI 11) (by decide) dX5_afterEffectBegan_45 ?_
  exact E_ireturn (pc := 47) rfl rfl dX5_afterEffectBegan_47 (QI_of h)
noncomputable def f_X5_afterKept (x1 : Int32) (x2 : Int32) (σ : ST) : Option (Int32 × ST) :=
    bd2 (f_X5_kindOf (x1 - (nI 48)) σ) fun v2 s1 =>
    if v2 = (nI 1) then
    ((rdI s1 4 10 (x1 - (nI 48))).bind fun v3 =>
    (f_X3_addEffect 189 v3 x2 s1).bind fun s4 =>
    some ((nI 10), s4))
    else (some ((nI 11), s1))
theorem e_X5_afterKept {G : GP} {x1 : Int32} {x2 : Int32} {σ : ST} {v : Int32} {s : ST}  (h : f_X5_afterKept x1 x2 σ = some (v, s)) : E G mX5_afterKept (1, 23) 0 [.ref 188, .int x1, .int x2, D0] [] (mem σ) (QI v s) := by
  unfold f_X5_afterKept at h
  refine E_iload_n (pc := 0) rfl dX5_afterKept_0 ?_
  refine E_bipush (pc := 1) (nI 48) (by decide) dX5_afterKept_1 ?_
  refine E_isub (pc := 3) dX5_afterKept_3 ?_
  refine E_istore_n (pc := 4) (L2 := [_, _, _, _]) rfl rfl dX5_afterKept_4 ?_
  refine E_aload_n (pc := 5) rfl dX5_afterKept_5 ?_
  refine E_iload_n (pc := 6) rfl dX5_afterKept_6 ?_
  obtain ⟨v2, s1, hp, h⟩ := bd2_some h
  refine E_callV (pc := 7) (As := [_]) (fc := (0, 0)) s5_65_5 oX5_kindOf dX5_afterKept_7 (mem_ob (ent_st RD188)) rfl rfl (Nat.le_of_ble_eq_true rfl) rfl rfl (by decide) (e_X5_kindOf hp) (fun rv_ M_ hq_ => ?_)
  obtain ⟨rfl, rfl⟩ := hq_
  refine E_iconst (pc := 10) 1 rfl dX5_afterKept_10 ?_
  refine T_icmp_eq (pc := 11) 17 dX5_afterKept_11 (by decide) h (fun h => ?_) (fun h => ?_)
  · refine E_aload_n (pc := 17) rfl dX5_afterKept_17 ?_
    refine R_getR (pc := 18) (b := 189) f5_12 dX5_afterKept_18 (ent_st RD188) (by decide) rfl rfl ?_
    refine E_aload_n (pc := 21) rfl dX5_afterKept_21 ?_
    refine R_getR (pc := 22) (b := 2) f5_35 dX5_afterKept_22 (ent_st RD188) (by decide) rfl rfl ?_
    refine R_getR (pc := 25) (b := 4) f5_99 dX5_afterKept_25 (ent_st WO2.1) (by decide) rfl rfl ?_
    refine E_iload_n (pc := 28) rfl dX5_afterKept_28 ?_
    refine T_iald (pc := 29) dX5_afterKept_29 (ent_st WO2.2.2.1) (by decide) h (fun v3 h => ?_)
    refine E_iload_n (pc := 30) rfl dX5_afterKept_30 ?_
    obtain ⟨s4, hp, h⟩ := bd_some h
    refine E_callV (pc := 31) (As := [_, _]) (fc := (0, 0)) s5_105_3 oX3_addEffect dX5_afterKept_31 (mem_ob (ent_st LA189.1)) rfl rfl (Nat.le_of_ble_eq_true rfl) rfl rfl (by decide) (e_X3_addEffect LA189 hp) (fun rv_ M_ hq_ => ?_)
    obtain ⟨rfl, rfl⟩ := hq_
    refine E_bipush (pc := 34) (nI 10) (by decide) dX5_afterKept_34 ?_
    exact E_ireturn (pc := 36) rfl rfl dX5_afterKept_36 (QI_of h)
  · refine E_bipush (pc := 14) (nI 11) (by decide) dX5_afterKept_14 ?_
    exact E_ireturn (pc := 16) rfl rfl dX5_afterKept_16 (QI_of h)
noncomputable def f_X5_afterStilled (x1 : Int32) (σ : ST) : Option (Int32 × ST) :=
    bd2 (f_X5_kindOf (x1 - (nI 48)) σ) fun v2 s1 =>
    if v2 = (nI 3) then
    ((pfZ s1 189 3 (nI 1)).bind fun s3 =>
    some ((nI 10), s3))
    else (some ((nI 11), s1))
theorem e_X5_afterStilled {G : GP} {x1 : Int32} {σ : ST} {v : Int32} {s : ST}  (h : f_X5_afterStilled x1 σ = some (v, s)) : E G mX5_afterStilled (1, 21) 0 [.ref 188, .int x1] [] (mem σ) (QI v s) := by
  unfold f_X5_afterStilled at h
  refine E_aload_n (pc := 0) rfl dX5_afterStilled_0 ?_
  refine E_iload_n (pc := 1) rfl dX5_afterStilled_1 ?_
  refine E_bipush (pc := 2) (nI 48) (by decide) dX5_afterStilled_2 ?_
  refine E_isub (pc := 4) dX5_afterStilled_4 ?_
  obtain ⟨v2, s1, hp, h⟩ := bd2_some h
  refine E_callV (pc := 5) (As := [_]) (fc := (0, 0)) s5_65_5 oX5_kindOf dX5_afterStilled_5 (mem_ob (ent_st RD188)) rfl rfl (Nat.le_of_ble_eq_true rfl) rfl rfl (by decide) (e_X5_kindOf hp) (fun rv_ M_ hq_ => ?_)
  obtain ⟨rfl, rfl⟩ := hq_
  refine E_iconst (pc := 8) 3 rfl dX5_afterStilled_8 ?_
  refine T_icmp_eq (pc := 9) 15 dX5_afterStilled_9 (by decide) h (fun h => ?_) (fun h => ?_)
  · refine E_aload_n (pc := 15) rfl dX5_afterStilled_15 ?_
    refine R_getR (pc := 16) (b := 189) f5_12 dX5_afterStilled_16 (ent_st RD188) (by decide) rfl rfl ?_
    refine E_iconst (pc := 19) 1 rfl dX5_afterStilled_19 ?_
    refine T_putZ (pc := 20) f5_108 dX5_afterStilled_20 (ent_st LA189.1) (by decide) rfl (by decide +kernel) h (fun s3 h => ?_)
    refine E_bipush (pc := 23) (nI 10) (by decide) dX5_afterStilled_23 ?_
    exact E_ireturn (pc := 25) rfl rfl dX5_afterStilled_25 (QI_of h)
  · refine E_bipush (pc := 12) (nI 11) (by decide) dX5_afterStilled_12 ?_
    exact E_ireturn (pc := 14) rfl rfl dX5_afterStilled_14 (QI_of h)
noncomputable def f_X5_after (x1 : Int32) (x2 : Int32) (σ : ST) : Option (Int32 × ST) :=
    if x1 = nI 0 then
    (if x2 = (nI 58) then
    (some ((nI 6), σ))
    else (bd2 (f_X5_afterAtomBegan x2 σ) fun v2 s1 =>
    some (v2, s1)))
    else if x1 = nI 1 then
    (bd2 (f_X5_afterAtomBegan x2 σ) fun v4 s3 =>
    some (v4, s3))
    else if x1 = nI 2 then
    (bd2 (f_X5_afterName x2 (nI 1) σ) fun v6 s5 =>
    some (v6, s5))
    else if x1 = nI 3 then
    (if x2 = (nI 62) then
    (bd2 (f_X5_kindOf (σ.1 188 5) σ) fun v10 s9 =>
    if v10 = (nI 3) then
    (some ((nI 4), s9))
    else (bd2 (f_X5_afterAtom x2 s9) fun v12 s11 =>
    some (v12, s11)))
    else (bd2 (f_X5_afterAtom x2 σ) fun v8 s7 =>
    some (v8, s7)))
    else if x1 = nI 4 then
    (bd2 (f_X5_afterBound x2 σ) fun v14 s13 =>
    some (v14, s13))
    else if x1 = nI 5 then
    (bd2 (f_X5_afterAtom x2 σ) fun v16 s15 =>
    some (v16, s15))
    else if x1 = nI 6 then
    (bd2 (f_X5_afterEffectBegan x2 σ) fun v18 s17 =>
    some (v18, s17))
    else if x1 = nI 7 then
    (bd2 (f_X5_afterKept x2 (nI 1) σ) fun v20 s19 =>
    some (v20, s19))
    else if x1 = nI 8 then
    (bd2 (f_X5_afterKept x2 (nI 0) σ) fun v22 s21 =>
    some (v22, s21))
    else if x1 = nI 9 then
    (bd2 (f_X5_afterStilled x2 σ) fun v24 s23 =>
    some (v24, s23))
    else (bd2 (f_X5_afterEffectBegan x2 σ) fun v26 s25 =>
    some (v26, s25))
theorem e_X5_after {G : GP} {x1 : Int32} {x2 : Int32} {σ : ST} {v : Int32} {s : ST}  (h : f_X5_after x1 x2 σ = some (v, s)) : E G mX5_after (4, 88) 0 [.ref 188, .int x1, .int x2] [] (mem σ) (QI v s) := by
  unfold f_X5_after at h
  refine E_iload_n (pc := 0) rfl dX5_after_0 ?_
  refine T_tbl (pc := 1) (m := 0) 56 (by omega) (by decide) (by decide) dX5_after_1 rfl (by decide) h (fun h => ?_) (fun u1_0 h => ?_)
  · refine E_iload_n (pc := 56) rfl dX5_after_56 ?_
    refine E_bipush (pc := 57) (nI 58) (by decide) dX5_after_57 ?_
    refine T_icmp_ne (pc := 59) 67 dX5_after_59 (by decide) h (fun h => ?_) (fun h => ?_)
    · refine E_aload_n (pc := 67) rfl dX5_after_67 ?_
      refine E_iload_n (pc := 68) rfl dX5_after_68 ?_
      obtain ⟨v2, s1, hp, h⟩ := bd2_some h
      refine E_callV (pc := 69) (As := [_]) (fc := (2, 44)) s5_58_5 oX5_afterAtomBegan dX5_after_69 (mem_ob (ent_st RD188)) rfl rfl (Nat.le_of_ble_eq_true rfl) rfl rfl (by decide) (e_X5_afterAtomBegan hp) (fun rv_ M_ hq_ => ?_)
      obtain ⟨rfl, rfl⟩ := hq_
      exact E_ireturn (pc := 72) rfl rfl dX5_after_72 (QI_of h)
    · refine E_bipush (pc := 62) (nI 6) (by decide) dX5_after_62 ?_
      refine E_goto (pc := 64) 72 (by decide) dX5_after_64 ?_
      exact E_ireturn (pc := 72) rfl rfl dX5_after_72 (QI_of h)
  refine T_tbl (pc := 1) (m := 1) 73 (by omega) (by decide) (by decide) dX5_after_1 rfl (by decide) h (fun h => ?_) (fun u1_1 h => ?_)
  · refine E_aload_n (pc := 73) rfl dX5_after_73 ?_
    refine E_iload_n (pc := 74) rfl dX5_after_74 ?_
    obtain ⟨v4, s3, hp, h⟩ := bd2_some h
    refine E_callV (pc := 75) (As := [_]) (fc := (2, 44)) s5_58_5 oX5_afterAtomBegan dX5_after_75 (mem_ob (ent_st RD188)) rfl rfl (Nat.le_of_ble_eq_true rfl) rfl rfl (by decide) (e_X5_afterAtomBegan hp) (fun rv_ M_ hq_ => ?_)
    obtain ⟨rfl, rfl⟩ := hq_
    exact E_ireturn (pc := 78) rfl rfl dX5_after_78 (QI_of h)
  refine T_tbl (pc := 1) (m := 2) 79 (by omega) (by decide) (by decide) dX5_after_1 rfl (by decide) h (fun h => ?_) (fun u1_2 h => ?_)
  · refine E_aload_n (pc := 79) rfl dX5_after_79 ?_
    refine E_iload_n (pc := 80) rfl dX5_after_80 ?_
    refine E_iconst (pc := 81) 1 rfl dX5_after_81 ?_
    obtain ⟨v6, s5, hp, h⟩ := bd2_some h
    refine E_callV (pc := 82) (As := [_, _]) (fc := (1, 21)) s5_61_5 oX5_afterName dX5_after_82 (mem_ob (ent_st RD188)) rfl rfl (Nat.le_of_ble_eq_true rfl) rfl rfl (by decide) (e_X5_afterName hp) (fun rv_ M_ hq_ => ?_)
    obtain ⟨rfl, rfl⟩ := hq_
    exact E_ireturn (pc := 85) rfl rfl dX5_after_85 (QI_of h)
  refine T_tbl (pc := 1) (m := 3) 86 (by omega) (by decide) (by decide) dX5_after_1 rfl (by decide) h (fun h => ?_) (fun u1_3 h => ?_)
  · refine E_iload_n (pc := 86) rfl dX5_after_86 ?_
    refine E_bipush (pc := 87) (nI 62) (by decide) dX5_after_87 ?_
    refine T_icmp_ne (pc := 89) 108 dX5_after_89 (by decide) h (fun h => ?_) (fun h => ?_)
    · refine E_aload_n (pc := 108) rfl dX5_after_108 ?_
      refine E_iload_n (pc := 109) rfl dX5_after_109 ?_
      obtain ⟨v8, s7, hp, h⟩ := bd2_some h
      refine E_callV (pc := 110) (As := [_]) (fc := (3, 67)) s5_68_5 oX5_afterAtom dX5_after_110 (mem_ob (ent_st RD188)) rfl rfl (Nat.le_of_ble_eq_true rfl) rfl rfl (by decide) (e_X5_afterAtom hp) (fun rv_ M_ hq_ => ?_)
      obtain ⟨rfl, rfl⟩ := hq_
      exact E_ireturn (pc := 113) rfl rfl dX5_after_113 (QI_of h)
    · refine E_aload_n (pc := 92) rfl dX5_after_92 ?_
      refine E_aload_n (pc := 93) rfl dX5_after_93 ?_
      refine R_getI (pc := 94) f5_28 dX5_after_94 (ent_st RD188) (by decide) rfl ?_
      obtain ⟨v10, s9, hp, h⟩ := bd2_some h
      refine E_callV (pc := 97) (As := [_]) (fc := (0, 0)) s5_65_5 oX5_kindOf dX5_after_97 (mem_ob (ent_st RD188)) rfl rfl (Nat.le_of_ble_eq_true rfl) rfl rfl (by decide) (e_X5_kindOf hp) (fun rv_ M_ hq_ => ?_)
      obtain ⟨rfl, rfl⟩ := hq_
      refine E_iconst (pc := 100) 3 rfl dX5_after_100 ?_
      refine T_icmp_ne (pc := 101) 108 dX5_after_101 (by decide) h (fun h => ?_) (fun h => ?_)
      · refine E_aload_n (pc := 108) rfl dX5_after_108 ?_
        refine E_iload_n (pc := 109) rfl dX5_after_109 ?_
        obtain ⟨v12, s11, hp, h⟩ := bd2_some h
        refine E_callV (pc := 110) (As := [_]) (fc := (3, 67)) s5_68_5 oX5_afterAtom dX5_after_110 (mem_ob (ent_st RD188)) rfl rfl (Nat.le_of_ble_eq_true rfl) rfl rfl (by decide) (e_X5_afterAtom hp) (fun rv_ M_ hq_ => ?_)
        obtain ⟨rfl, rfl⟩ := hq_
        exact E_ireturn (pc := 113) rfl rfl dX5_after_113 (QI_of h)
      · refine E_iconst (pc := 104) 4 rfl dX5_after_104 ?_
        refine E_goto (pc := 105) 113 (by decide) dX5_after_105 ?_
        exact E_ireturn (pc := 113) rfl rfl dX5_after_113 (QI_of h)
  refine T_tbl (pc := 1) (m := 4) 114 (by omega) (by decide) (by decide) dX5_after_1 rfl (by decide) h (fun h => ?_) (fun u1_4 h => ?_)
  · refine E_aload_n (pc := 114) rfl dX5_after_114 ?_
    refine E_iload_n (pc := 115) rfl dX5_after_115 ?_
    obtain ⟨v14, s13, hp, h⟩ := bd2_some h
    refine E_callV (pc := 116) (As := [_]) (fc := (0, 0)) s5_71_5 oX5_afterBound dX5_after_116 (mem_ob (ent_st RD188)) rfl rfl (Nat.le_of_ble_eq_true rfl) rfl rfl (by decide) (e_X5_afterBound hp) (fun rv_ M_ hq_ => ?_)
    obtain ⟨rfl, rfl⟩ := hq_
    exact E_ireturn (pc := 119) rfl rfl dX5_after_119 (QI_of h)
  refine T_tbl (pc := 1) (m := 5) 120 (by omega) (by decide) (by decide) dX5_after_1 rfl (by decide) h (fun h => ?_) (fun u1_5 h => ?_)
  · refine E_aload_n (pc := 120) rfl dX5_after_120 ?_
    refine E_iload_n (pc := 121) rfl dX5_after_121 ?_
    obtain ⟨v16, s15, hp, h⟩ := bd2_some h
    refine E_callV (pc := 122) (As := [_]) (fc := (3, 67)) s5_68_5 oX5_afterAtom dX5_after_122 (mem_ob (ent_st RD188)) rfl rfl (Nat.le_of_ble_eq_true rfl) rfl rfl (by decide) (e_X5_afterAtom hp) (fun rv_ M_ hq_ => ?_)
    obtain ⟨rfl, rfl⟩ := hq_
    exact E_ireturn (pc := 125) rfl rfl dX5_after_125 (QI_of h)
  refine T_tbl (pc := 1) (m := 6) 146 (by omega) (by decide) (by decide) dX5_after_1 rfl (by decide) h (fun h => ?_) (fun u1_6 h => ?_)
  · refine E_aload_n (pc := 146) rfl dX5_after_146 ?_
    refine E_iload_n (pc := 147) rfl dX5_after_147 ?_
    obtain ⟨v18, s17, hp, h⟩ := bd2_some h
    refine E_callV (pc := 148) (As := [_]) (fc := (0, 0)) s5_80_5 oX5_afterEffectBegan dX5_after_148 (mem_ob (ent_st RD188)) rfl rfl (Nat.le_of_ble_eq_true rfl) rfl rfl (by decide) (e_X5_afterEffectBegan hp) (fun rv_ M_ hq_ => ?_)
    obtain ⟨rfl, rfl⟩ := hq_
    exact E_ireturn (pc := 151) rfl rfl dX5_after_151 (QI_of h)
  refine T_tbl (pc := 1) (m := 7) 126 (by omega) (by decide) (by decide) dX5_after_1 rfl (by decide) h (fun h => ?_) (fun u1_7 h => ?_)
  · refine E_aload_n (pc := 126) rfl dX5_after_126 ?_
    refine E_iload_n (pc := 127) rfl dX5_after_127 ?_
    refine E_iconst (pc := 128) 1 rfl dX5_after_128 ?_
    obtain ⟨v20, s19, hp, h⟩ := bd2_some h
    refine E_callV (pc := 129) (As := [_, _]) (fc := (1, 23)) s5_74_5 oX5_afterKept dX5_after_129 (mem_ob (ent_st RD188)) rfl rfl (Nat.le_of_ble_eq_true rfl) rfl rfl (by decide) (e_X5_afterKept hp) (fun rv_ M_ hq_ => ?_)
    obtain ⟨rfl, rfl⟩ := hq_
    exact E_ireturn (pc := 132) rfl rfl dX5_after_132 (QI_of h)
  refine T_tbl (pc := 1) (m := 8) 133 (by omega) (by decide) (by decide) dX5_after_1 rfl (by decide) h (fun h => ?_) (fun u1_8 h => ?_)
  · refine E_aload_n (pc := 133) rfl dX5_after_133 ?_
    refine E_iload_n (pc := 134) rfl dX5_after_134 ?_
    refine E_iconst (pc := 135) 0 rfl dX5_after_135 ?_
    obtain ⟨v22, s21, hp, h⟩ := bd2_some h
    refine E_callV (pc := 136) (As := [_, _]) (fc := (1, 23)) s5_74_5 oX5_afterKept dX5_after_136 (mem_ob (ent_st RD188)) rfl rfl (Nat.le_of_ble_eq_true rfl) rfl rfl (by decide) (e_X5_afterKept hp) (fun rv_ M_ hq_ => ?_)
    obtain ⟨rfl, rfl⟩ := hq_
    exact E_ireturn (pc := 139) rfl rfl dX5_after_139 (QI_of h)
  refine T_tbl (pc := 1) (m := 9) 140 (by omega) (by decide) (by decide) dX5_after_1 rfl (by decide) h (fun h => ?_) (fun u1_9 h => ?_)
  · refine E_aload_n (pc := 140) rfl dX5_after_140 ?_
    refine E_iload_n (pc := 141) rfl dX5_after_141 ?_
    obtain ⟨v24, s23, hp, h⟩ := bd2_some h
    refine E_callV (pc := 142) (As := [_]) (fc := (1, 21)) s5_77_5 oX5_afterStilled dX5_after_142 (mem_ob (ent_st RD188)) rfl rfl (Nat.le_of_ble_eq_true rfl) rfl rfl (by decide) (e_X5_afterStilled hp) (fun rv_ M_ hq_ => ?_)
    obtain ⟨rfl, rfl⟩ := hq_
    exact E_ireturn (pc := 145) rfl rfl dX5_after_145 (QI_of h)
  refine E_tblOut (pc := 1) 146 (by omega) (by decide) dX5_after_1 ?_
  refine E_aload_n (pc := 146) rfl dX5_after_146 ?_
  refine E_iload_n (pc := 147) rfl dX5_after_147 ?_
  obtain ⟨v26, s25, hp, h⟩ := bd2_some h
  refine E_callV (pc := 148) (As := [_]) (fc := (0, 0)) s5_80_5 oX5_afterEffectBegan dX5_after_148 (mem_ob (ent_st RD188)) rfl rfl (Nat.le_of_ble_eq_true rfl) rfl rfl (by decide) (e_X5_afterEffectBegan hp) (fun rv_ M_ hq_ => ?_)
  obtain ⟨rfl, rfl⟩ := hq_
  exact E_ireturn (pc := 151) rfl rfl dX5_after_151 (QI_of h)
noncomputable def f_X7_has (a0 : Nat) (x1 : Int32) (σ : ST) : Option (Int32 × ST) :=
    if x1 < 0 then
    (some ((nI 0), σ))
    else (if x1 < (σ.1 a0 1) then
    (some ((nI 1), σ))
    else (some ((nI 0), σ)))
theorem e_X7_has {G : GP} {a0 : Nat} {x1 : Int32} {σ : ST} {v : Int32} {s : ST} (h0 : SH a0) (h : f_X7_has a0 x1 σ = some (v, s)) : E G mX7_has (0, 0) 0 [.ref a0, .int x1] [] (mem σ) (QI v s) := by
  unfold f_X7_has at h
  refine E_iload_n (pc := 0) rfl dX7_has_0 ?_
  refine T_if_lt (pc := 1) 16 dX7_has_1 (by decide) h (fun h => ?_) (fun h => ?_)
  · refine E_iconst (pc := 16) 0 rfl dX7_has_16 ?_
    exact E_ireturn (pc := 17) rfl (by decide) dX7_has_17 (QI_of h)
  · refine E_iload_n (pc := 4) rfl dX7_has_4 ?_
    refine E_aload_n (pc := 5) rfl dX7_has_5 ?_
    refine R_getI (pc := 6) f7_15 dX7_has_6 (ent_st h0.1) (by decide) rfl ?_
    refine T_icmp_ge (pc := 9) 16 dX7_has_9 (by decide) h (fun h => ?_) (fun h => ?_)
    · refine E_iconst (pc := 16) 0 rfl dX7_has_16 ?_
      exact E_ireturn (pc := 17) rfl (by decide) dX7_has_17 (QI_of h)
    · refine E_iconst (pc := 12) 1 rfl dX7_has_12 ?_
      refine E_goto (pc := 13) 17 (by decide) dX7_has_13 ?_
      exact E_ireturn (pc := 17) rfl (by decide) dX7_has_17 (QI_of h)
noncomputable def f_X7_cellAt (a0 : Nat) (x1 : Int32) (σ : ST) : Option (Int64 × ST) :=
    bd2 (f_X7_has a0 x1 σ) fun v2 s1 =>
    if v2 = 0 then
    (some ((0), s1))
    else ((rdJ s1 (a0 + 1) 60 x1).bind fun v3 =>
    some (v3, s1))
theorem e_X7_cellAt {G : GP} {a0 : Nat} {x1 : Int32} {σ : ST} {v : Int64} {s : ST} (h0 : SH a0) (h : f_X7_cellAt a0 x1 σ = some (v, s)) : E G mX7_cellAt (1, 21) 0 [.ref a0, .int x1] [] (mem σ) (QJ v s) := by
  unfold f_X7_cellAt at h
  refine E_aload_n (pc := 0) rfl dX7_cellAt_0 ?_
  refine E_iload_n (pc := 1) rfl dX7_cellAt_1 ?_
  obtain ⟨v2, s1, hp, h⟩ := bd2_some h
  refine E_callV (pc := 2) (As := [_]) (fc := (0, 0)) s7_28_7 oX7_has dX7_cellAt_2 (mem_ob (ent_st h0.1)) rfl rfl (Nat.le_of_ble_eq_true rfl) rfl rfl (by decide) (e_X7_has h0 hp) (fun rv_ M_ hq_ => ?_)
  obtain ⟨rfl, rfl⟩ := hq_
  refine T_if_eq (pc := 5) 17 dX7_cellAt_5 (by decide) h (fun h => ?_) (fun h => ?_)
  · refine E_lconst (pc := 17) 0 rfl dX7_cellAt_17 ?_
    exact E_lreturn (pc := 18) rfl dX7_cellAt_18 (QJ_of h)
  · refine E_aload_n (pc := 8) rfl dX7_cellAt_8 ?_
    refine R_getR (pc := 9) (b := a0 + 1) f7_18 dX7_cellAt_9 (ent_st h0.1) (by decide) rfl rfl ?_
    refine E_iload_n (pc := 12) rfl dX7_cellAt_12 ?_
    refine T_jald (pc := 13) dX7_cellAt_13 (ent_st h0.2) (by decide) h (fun v3 h => ?_)
    refine E_goto (pc := 14) 18 (by decide) dX7_cellAt_14 ?_
    exact E_lreturn (pc := 18) rfl dX7_cellAt_18 (QJ_of h)
noncomputable def f_X7_intAt (a0 : Nat) (x1 : Int32) (σ : ST) : Option (Int32 × ST) :=
    bd2 (f_X7_cellAt a0 x1 σ) fun v2 s1 =>
    some (((v2).toInt32), s1)
theorem e_X7_intAt {G : GP} {a0 : Nat} {x1 : Int32} {σ : ST} {v : Int32} {s : ST} (h0 : SH a0) (h : f_X7_intAt a0 x1 σ = some (v, s)) : E G mX7_intAt (2, 42) 0 [.ref a0, .int x1] [] (mem σ) (QI v s) := by
  unfold f_X7_intAt at h
  refine E_aload_n (pc := 0) rfl dX7_intAt_0 ?_
  refine E_iload_n (pc := 1) rfl dX7_intAt_1 ?_
  obtain ⟨v2, s1, hp, h⟩ := bd2_some h
  refine E_callV (pc := 2) (As := [_]) (fc := (1, 21)) s7_36_7 oX7_cellAt dX7_intAt_2 (mem_ob (ent_st h0.1)) rfl rfl (Nat.le_of_ble_eq_true rfl) rfl rfl (by decide) (e_X7_cellAt h0 hp) (fun rv_ M_ hq_ => ?_)
  obtain ⟨rfl, rfl⟩ := hq_
  refine E_l2i (pc := 5) dX7_intAt_5 ?_
  exact E_ireturn (pc := 6) rfl rfl dX7_intAt_6 (QI_of h)
noncomputable def f_X5_read_33 (a1 : Nat) (k69 : Int32 → ST → Option (Int32 × ST)) : Nat → Int32 → Int32 → ST → Option (Int32 × ST)
  | 0, _, _, _ => none
  | n + 1, x3, x4, sg =>
    if x4 < (sg.1 a1 1) then
    (bd2 (f_X7_intAt a1 x4 sg) fun v5 s4 =>
    bd2 (f_X5_after x3 v5 s4) fun v7 s6 =>
    if v7 = (nI 11) then
    (some (x4, s6))
    else ((f_X5_read_33 a1 k69 n) v7 (x4 + nI 1) s6))
    else (k69 x3 sg)
theorem e_X5_read_33 {G : GP} {a1 : Nat} {k69 : Int32 → ST → Option (Int32 × ST)} {v : Int32} {s : ST} (h1 : SH a1) (hk69 : ∀ {x3 : Int32} {sg : ST}, k69 x3 sg = some (v, s) → E G mX5_read (5, 110) 69 [.ref 188, .ref a1, D0, .int x3, D0] [] (mem sg) (QI v s)) : ∀ (n : Nat) {x3 : Int32} {x4 : Int32} {sg : ST}, f_X5_read_33 a1 k69 n x3 x4 sg = some (v, s) → E G mX5_read (5, 110) 33 [.ref 188, .ref a1, D0, .int x3, .int x4] [] (mem sg) (QI v s) := by
  intro n
  induction n with
  | zero => intro _ _ _ h; rw [f_X5_read_33] at h; cases h
  | succ n ih =>
    intro x3 x4 sg h
    rw [f_X5_read_33] at h
    refine E_iload (pc := 33) rfl dX5_read_33 ?_
    refine E_aload_n (pc := 35) rfl dX5_read_35 ?_
    refine R_getI (pc := 36) f5_42 dX5_read_36 (ent_st h1.1) (by decide) rfl ?_
    refine T_icmp_ge (pc := 39) 69 dX5_read_39 (by decide) h (fun h => ?_) (fun h => ?_)
    · refine E_kp [true, true, false, true, false] (L2 := [_, _, D0, _, D0]) rfl rfl ?_
      exact hk69 h
    · refine E_aload_n (pc := 42) rfl dX5_read_42 ?_
      refine E_iload_n (pc := 43) rfl dX5_read_43 ?_
      refine E_aload_n (pc := 44) rfl dX5_read_44 ?_
      refine E_iload (pc := 45) rfl dX5_read_45 ?_
      obtain ⟨v5, s4, hp, h⟩ := bd2_some h
      refine E_callV (pc := 47) (As := [_]) (fc := (2, 42)) s5_47_7 oX7_intAt dX5_read_47 (mem_ob (ent_st h1.1)) rfl rfl (Nat.le_of_ble_eq_true rfl) rfl rfl (by decide) (e_X7_intAt h1 hp) (fun rv_ M_ hq_ => ?_)
      obtain ⟨rfl, rfl⟩ := hq_
      obtain ⟨v7, s6, hp, h⟩ := bd2_some h
      refine E_callV (pc := 50) (As := [_, _]) (fc := (4, 88)) s5_51_5 oX5_after dX5_read_50 (mem_ob (ent_st RD188)) rfl rfl (Nat.le_of_ble_eq_true rfl) rfl rfl (by decide) (e_X5_after hp) (fun rv_ M_ hq_ => ?_)
      obtain ⟨rfl, rfl⟩ := hq_
      refine E_istore_n (pc := 53) (L2 := [_, _, _, _, _]) rfl rfl dX5_read_53 ?_
      refine E_iload_n (pc := 54) rfl dX5_read_54 ?_
      refine E_bipush (pc := 55) (nI 11) (by decide) dX5_read_55 ?_
      refine T_icmp_ne (pc := 57) 63 dX5_read_57 (by decide) h (fun h => ?_) (fun h => ?_)
      · refine T_iinc (pc := 63) (m := 1) (L2 := [_, _, _, _, _]) rfl rfl rfl rfl dX5_read_63 ?_
        refine E_goto (pc := 66) 33 (by decide) dX5_read_66 ?_
        exact ih h
      · refine E_iload (pc := 60) rfl dX5_read_60 ?_
        exact E_ireturn (pc := 62) rfl rfl dX5_read_62 (QI_of h)
noncomputable def f_X5_read_29 (a1 : Nat) (z0 : Int32) (sg : ST) : Option (Int32 × ST) :=
    f_X5_read_33 a1 (fun x3_8 s9 =>
    if (s9.1 188 2) = 0 then
    (if x3_8 = (nI 3) then
    ((f_X5_closeAtom s9).bind fun s10 =>
    some ((-1), s10))
    else (if x3_8 = (nI 5) then
    ((f_X5_closeAtom s9).bind fun s11 =>
    some ((-1), s11))
    else (some ((s9.1 a1 1), s9))))
    else (if x3_8 = (nI 10) then
    (some ((-1), s9))
    else (some ((s9.1 a1 1), s9)))) FU z0 (nI 0) sg
theorem e_X5_read_29 {G : GP} {a1 : Nat} {z0 : Int32} {sg : ST} {v : Int32} {s : ST} (h1 : SH a1) (h : f_X5_read_29 a1 z0 sg = some (v, s)) : E G mX5_read (5, 110) 29 [.ref 188, .ref a1, D0, D0, D0] [.int z0] (mem sg) (QI v s) := by
  unfold f_X5_read_29 at h
  refine E_istore_n (pc := 29) (L2 := [_, _, _, _, _]) rfl rfl dX5_read_29 ?_
  refine E_iconst (pc := 30) 0 rfl dX5_read_30 ?_
  refine E_istore (pc := 31) (L2 := [_, _, _, _, _]) rfl rfl dX5_read_31 ?_
  refine e_X5_read_33 h1 ?_ FU h
  · intro x3_8 s9 h
    refine E_aload_n (pc := 69) rfl dX5_read_69 ?_
    refine R_getI (pc := 70) f5_18 dX5_read_70 (ent_st RD188) (by decide) rfl ?_
    refine T_if_eq (pc := 73) 91 dX5_read_73 (by decide) h (fun h => ?_) (fun h => ?_)
    · refine E_iload_n (pc := 91) rfl dX5_read_91 ?_
      refine E_iconst (pc := 92) 3 rfl dX5_read_92 ?_
      refine T_icmp_eq (pc := 93) 106 dX5_read_93 (by decide) h (fun h => ?_) (fun h => ?_)
      · refine E_aload_n (pc := 106) rfl dX5_read_106 ?_
        obtain ⟨s10, hp, h⟩ := bd_some h
        refine E_callV (pc := 107) (As := []) (fc := (2, 47)) s5_55_5 oX5_closeAtom dX5_read_107 (mem_ob (ent_st RD188)) rfl rfl (Nat.le_of_ble_eq_true rfl) rfl rfl (by decide) (e_X5_closeAtom hp) (fun rv_ M_ hq_ => ?_)
        obtain ⟨rfl, rfl⟩ := hq_
        refine E_im1 (pc := 110) dX5_read_110 ?_
        exact E_ireturn (pc := 111) rfl rfl dX5_read_111 (QI_of h)
      · refine E_iload_n (pc := 96) rfl dX5_read_96 ?_
        refine E_iconst (pc := 97) 5 rfl dX5_read_97 ?_
        refine T_icmp_eq (pc := 98) 106 dX5_read_98 (by decide) h (fun h => ?_) (fun h => ?_)
        · refine E_aload_n (pc := 106) rfl dX5_read_106 ?_
          obtain ⟨s11, hp, h⟩ := bd_some h
          refine E_callV (pc := 107) (As := []) (fc := (2, 47)) s5_55_5 oX5_closeAtom dX5_read_107 (mem_ob (ent_st RD188)) rfl rfl (Nat.le_of_ble_eq_true rfl) rfl rfl (by decide) (e_X5_closeAtom hp) (fun rv_ M_ hq_ => ?_)
          obtain ⟨rfl, rfl⟩ := hq_
          refine E_im1 (pc := 110) dX5_read_110 ?_
          exact E_ireturn (pc := 111) rfl rfl dX5_read_111 (QI_of h)
        · refine E_aload_n (pc := 101) rfl dX5_read_101 ?_
          refine R_getI (pc := 102) f5_42 dX5_read_102 (ent_st h1.1) (by decide) rfl ?_
          exact E_ireturn (pc := 105) rfl rfl dX5_read_105 (QI_of h)
    · refine E_iload_n (pc := 76) rfl dX5_read_76 ?_
      refine E_bipush (pc := 77) (nI 10) (by decide) dX5_read_77 ?_
      refine T_icmp_ne (pc := 79) 86 dX5_read_79 (by decide) h (fun h => ?_) (fun h => ?_)
      · refine E_aload_n (pc := 86) rfl dX5_read_86 ?_
        refine R_getI (pc := 87) f5_42 dX5_read_87 (ent_st h1.1) (by decide) rfl ?_
        exact E_ireturn (pc := 90) rfl rfl dX5_read_90 (QI_of h)
      · refine E_im1 (pc := 82) dX5_read_82 ?_
        refine E_goto (pc := 83) 90 (by decide) dX5_read_83 ?_
        exact E_ireturn (pc := 90) rfl rfl dX5_read_90 (QI_of h)
noncomputable def f_X5_read (a1 : Nat) (x2 : Int32) (σ : ST) : Option (Int32 × ST) :=
    (f_X3_clear 189 σ).bind fun s1 =>
    (pfZ s1 188 2 x2).bind fun s2 =>
    (pfZ s2 188 3 (nI 1)).bind fun s3 =>
    if (s3.1 188 2) = 0 then
    (f_X5_read_29 a1 (nI 1) s3)
    else (f_X5_read_29 a1 (nI 0) s3)
theorem e_X5_read {G : GP} {a1 : Nat} {x2 : Int32} {σ : ST} {v : Int32} {s : ST} (h1 : SH a1) (h : f_X5_read a1 x2 σ = some (v, s)) : E G mX5_read (5, 110) 0 [.ref 188, .ref a1, .int x2, D0, D0] [] (mem σ) (QI v s) := by
  unfold f_X5_read at h
  refine E_aload_n (pc := 0) rfl dX5_read_0 ?_
  refine R_getR (pc := 1) (b := 189) f5_12 dX5_read_1 (ent_st RD188) (by decide) rfl rfl ?_
  obtain ⟨s1, hp, h⟩ := bd_some h
  refine E_callV (pc := 4) (As := []) (fc := (0, 0)) s5_39_3 oX3_clear dX5_read_4 (mem_ob (ent_st LA189.1)) rfl rfl (Nat.le_of_ble_eq_true rfl) rfl rfl (by decide) (e_X3_clear LA189 hp) (fun rv_ M_ hq_ => ?_)
  obtain ⟨rfl, rfl⟩ := hq_
  refine E_aload_n (pc := 7) rfl dX5_read_7 ?_
  refine E_iload_n (pc := 8) rfl dX5_read_8 ?_
  refine T_putZ (pc := 9) f5_18 dX5_read_9 (ent_st RD188) (by decide) rfl (by decide +kernel) h (fun s2 h => ?_)
  refine E_aload_n (pc := 12) rfl dX5_read_12 ?_
  refine E_iconst (pc := 13) 1 rfl dX5_read_13 ?_
  refine T_putZ (pc := 14) f5_22 dX5_read_14 (ent_st RD188) (by decide) rfl (by decide +kernel) h (fun s3 h => ?_)
  refine E_aload_n (pc := 17) rfl dX5_read_17 ?_
  refine R_getI (pc := 18) f5_18 dX5_read_18 (ent_st RD188) (by decide) rfl ?_
  refine T_if_eq (pc := 21) 28 dX5_read_21 (by decide) h (fun h => ?_) (fun h => ?_)
  · refine E_iconst (pc := 28) 1 rfl dX5_read_28 ?_
    refine E_kp [true, true, false, false, false] (L2 := [_, _, D0, D0, D0]) rfl rfl ?_
    refine e_X5_read_29 h1 h
  · refine E_iconst (pc := 24) 0 rfl dX5_read_24 ?_
    refine E_goto (pc := 25) 29 (by decide) dX5_read_25 ?_
    refine E_kp [true, true, false, false, false] (L2 := [_, _, D0, D0, D0]) rfl rfl ?_
    refine e_X5_read_29 h1 h
noncomputable def f_X7_holdsRow (a0 : Nat) (σ : ST) : Option (Int32 × ST) :=
    if (σ.1 a0 0) < (nI 100) then
    (some ((nI 0), σ))
    else (some ((nI 1), σ))
theorem e_X7_holdsRow {G : GP} {a0 : Nat} {σ : ST} {v : Int32} {s : ST} (h0 : SH a0) (h : f_X7_holdsRow a0 σ = some (v, s)) : E G mX7_holdsRow (0, 0) 0 [.ref a0] [] (mem σ) (QI v s) := by
  unfold f_X7_holdsRow at h
  refine E_aload_n (pc := 0) rfl dX7_holdsRow_0 ?_
  refine R_getI (pc := 1) f7_9 dX7_holdsRow_1 (ent_st h0.1) (by decide) rfl ?_
  refine E_bipush (pc := 4) (nI 100) (by decide) dX7_holdsRow_4 ?_
  refine T_icmp_lt (pc := 6) 13 dX7_holdsRow_6 (by decide) h (fun h => ?_) (fun h => ?_)
  · refine E_iconst (pc := 13) 0 rfl dX7_holdsRow_13 ?_
    exact E_ireturn (pc := 14) rfl (by decide) dX7_holdsRow_14 (QI_of h)
  · refine E_iconst (pc := 9) 1 rfl dX7_holdsRow_9 ?_
    refine E_goto (pc := 10) 14 (by decide) dX7_holdsRow_10 ?_
    exact E_ireturn (pc := 14) rfl (by decide) dX7_holdsRow_14 (QI_of h)
noncomputable def f_X7_holdsPiece (a0 : Nat) (σ : ST) : Option (Int32 × ST) :=
    if (σ.1 a0 0) = (-1) then
    (some ((nI 0), σ))
    else (if (σ.1 a0 0) < (nI 100) then
    (some ((nI 1), σ))
    else (some ((nI 0), σ)))
theorem e_X7_holdsPiece {G : GP} {a0 : Nat} {σ : ST} {v : Int32} {s : ST} (h0 : SH a0) (h : f_X7_holdsPiece a0 σ = some (v, s)) : E G mX7_holdsPiece (0, 0) 0 [.ref a0] [] (mem σ) (QI v s) := by
  unfold f_X7_holdsPiece at h
  refine E_aload_n (pc := 0) rfl dX7_holdsPiece_0 ?_
  refine R_getI (pc := 1) f7_9 dX7_holdsPiece_1 (ent_st h0.1) (by decide) rfl ?_
  refine E_im1 (pc := 4) dX7_holdsPiece_4 ?_
  refine T_icmp_eq (pc := 5) 21 dX7_holdsPiece_5 (by decide) h (fun h => ?_) (fun h => ?_)
  · refine E_iconst (pc := 21) 0 rfl dX7_holdsPiece_21 ?_
    exact E_ireturn (pc := 22) rfl (by decide) dX7_holdsPiece_22 (QI_of h)
  · refine E_aload_n (pc := 8) rfl dX7_holdsPiece_8 ?_
    refine R_getI (pc := 9) f7_9 dX7_holdsPiece_9 (ent_st h0.1) (by decide) rfl ?_
    refine E_bipush (pc := 12) (nI 100) (by decide) dX7_holdsPiece_12 ?_
    refine T_icmp_ge (pc := 14) 21 dX7_holdsPiece_14 (by decide) h (fun h => ?_) (fun h => ?_)
    · refine E_iconst (pc := 21) 0 rfl dX7_holdsPiece_21 ?_
      exact E_ireturn (pc := 22) rfl (by decide) dX7_holdsPiece_22 (QI_of h)
    · refine E_iconst (pc := 17) 1 rfl dX7_holdsPiece_17 ?_
      refine E_goto (pc := 18) 22 (by decide) dX7_holdsPiece_18 ?_
      exact E_ireturn (pc := 22) rfl (by decide) dX7_holdsPiece_22 (QI_of h)
noncomputable def f_J7_fill_d0a16_6 (a0 : Nat) (n0 : Nat) : Nat → Int64 → Int32 → Int32 → ST → Option ST
  | 0, _, _, _, _ => none
  | n + 1, y1, x3, x4, sg =>
    if x3 < x4 then
    ((wrJ sg a0 n0 x3 y1).bind fun s1 =>
    (f_J7_fill_d0a16_6 a0 n0 n) y1 (x3 + nI 1) x4 s1)
    else (some sg)
theorem e_J7_fill_d0a16_6 {G : GP} {a0 : Nat} {n0 : Nat} {s : ST} (h0 : slT[a0]? = some (1, n0, []) ∧ n0 < 2 ^ 31) : ∀ (n : Nat) {y1 : Int64} {x3 : Int32} {x4 : Int32} {sg : ST}, f_J7_fill_d0a16_6 a0 n0 n y1 x3 x4 sg = some s → E G mJ7_fill_d0a16 (0, 0) 6 [.ref a0, .long y1, D0, .int x3, .int x4] [] (mem sg) (QV s) := by
  intro n
  induction n with
  | zero => intro _ _ _ _ h; rw [f_J7_fill_d0a16_6] at h; cases h
  | succ n ih =>
    intro y1 x3 x4 sg h
    rw [f_J7_fill_d0a16_6] at h
    refine E_iload_n (pc := 6) rfl dJ7_fill_d0a16_6 ?_
    refine E_iload (pc := 7) rfl dJ7_fill_d0a16_7 ?_
    refine T_icmp_ge (pc := 9) 22 dJ7_fill_d0a16_9 (by decide) h (fun h => ?_) (fun h => ?_)
    · exact E_return (pc := 22) rfl dJ7_fill_d0a16_22 (QV_of h)
    · refine E_aload_n (pc := 12) rfl dJ7_fill_d0a16_12 ?_
      refine E_iload_n (pc := 13) rfl dJ7_fill_d0a16_13 ?_
      refine E_lload_n (pc := 14) rfl dJ7_fill_d0a16_14 ?_
      refine T_jast (pc := 15) dJ7_fill_d0a16_15 (ent_st h0.1) h0.2 h (fun s1 h => ?_)
      refine T_iinc (pc := 16) (m := 1) (L2 := [_, _, _, _, _]) rfl rfl rfl rfl dJ7_fill_d0a16_16 ?_
      refine E_goto (pc := 19) 6 (by decide) dJ7_fill_d0a16_19 ?_
      exact ih h
noncomputable def f_J7_fill_d0a16 (a0 : Nat) (n0 : Nat) (y1 : Int64) (σ : ST) : Option ST :=
    f_J7_fill_d0a16_6 a0 n0 FU y1 (nI 0) (nI n0) σ
theorem e_J7_fill_d0a16 {G : GP} {a0 : Nat} {n0 : Nat} {y1 : Int64} {σ : ST} {s : ST} (h0 : slT[a0]? = some (1, n0, []) ∧ n0 < 2 ^ 31) (h : f_J7_fill_d0a16 a0 n0 y1 σ = some s) : E G mJ7_fill_d0a16 (0, 0) 0 [.ref a0, .long y1, D0, D0, D0] [] (mem σ) (QV s) := by
  unfold f_J7_fill_d0a16 at h
  refine E_iconst (pc := 0) 0 rfl dJ7_fill_d0a16_0 ?_
  refine E_istore_n (pc := 1) (L2 := [_, _, _, _, _]) rfl rfl dJ7_fill_d0a16_1 ?_
  refine E_aload_n (pc := 2) rfl dJ7_fill_d0a16_2 ?_
  refine R_alen (pc := 3) (v := nI n0) dJ7_fill_d0a16_3 (ent_st h0.1) (by decide) rfl ?_
  refine E_istore (pc := 4) (L2 := [_, _, _, _, _]) rfl rfl dJ7_fill_d0a16_4 ?_
  refine e_J7_fill_d0a16_6 ⟨h0.1, h0.2⟩ FU h
noncomputable def f_X7_takeRow (a0 : Nat) (x1 : Int32) (x2 : Int32) (σ : ST) : Option ST :=
    (pfI σ a0 0 ((nI 100) + x1)).bind fun s1 =>
    (pfI s1 a0 1 x2).bind fun s2 =>
    (f_J7_fill_d0a16 (a0 + 1) 60 (0) s2).bind fun s3 =>
    some s3
theorem e_X7_takeRow {G : GP} {a0 : Nat} {x1 : Int32} {x2 : Int32} {σ : ST} {s : ST} (h0 : SH a0) (h : f_X7_takeRow a0 x1 x2 σ = some s) : E G mX7_takeRow (1, 24) 0 [.ref a0, .int x1, .int x2] [] (mem σ) (QV s) := by
  unfold f_X7_takeRow at h
  refine E_aload_n (pc := 0) rfl dX7_takeRow_0 ?_
  refine E_bipush (pc := 1) (nI 100) (by decide) dX7_takeRow_1 ?_
  refine E_iload_n (pc := 3) rfl dX7_takeRow_3 ?_
  refine E_iadd (pc := 4) dX7_takeRow_4 ?_
  refine T_putI (pc := 5) f7_9 dX7_takeRow_5 (ent_st h0.1) (by decide) rfl (by decide +kernel) h (fun s1 h => ?_)
  refine E_aload_n (pc := 8) rfl dX7_takeRow_8 ?_
  refine E_iload_n (pc := 9) rfl dX7_takeRow_9 ?_
  refine T_putI (pc := 10) f7_15 dX7_takeRow_10 (ent_st h0.1) (by decide) rfl (by decide +kernel) h (fun s2 h => ?_)
  refine E_aload_n (pc := 13) rfl dX7_takeRow_13 ?_
  refine R_getR (pc := 14) (b := a0 + 1) f7_18 dX7_takeRow_14 (ent_st h0.1) (by decide) rfl rfl ?_
  refine E_lconst (pc := 17) 0 rfl dX7_takeRow_17 ?_
  obtain ⟨s3, hp, h⟩ := bd_some h
  refine E_callS (pc := 18) (As := [_, _]) (fc := (0, 0)) s7_22 oJ7_fill_d0a16 dX7_takeRow_18 rfl rfl (Nat.le_of_ble_eq_true rfl) rfl rfl (by decide) (e_J7_fill_d0a16 ⟨h0.2, (by decide)⟩ hp) (fun rv_ M_ hq_ => ?_)
  obtain ⟨rfl, rfl⟩ := hq_
  exact E_return (pc := 21) rfl dX7_takeRow_21 (QV_of h)
noncomputable def f_X7_takePiece (a0 : Nat) (x1 : Int32) (σ : ST) : Option ST :=
    (pfI σ a0 0 x1).bind fun s1 =>
    (pfI s1 a0 1 (nI 0)).bind fun s2 =>
    some s2
theorem e_X7_takePiece {G : GP} {a0 : Nat} {x1 : Int32} {σ : ST} {s : ST} (h0 : SH a0) (h : f_X7_takePiece a0 x1 σ = some s) : E G mX7_takePiece (0, 0) 0 [.ref a0, .int x1] [] (mem σ) (QV s) := by
  unfold f_X7_takePiece at h
  refine E_aload_n (pc := 0) rfl dX7_takePiece_0 ?_
  refine E_iload_n (pc := 1) rfl dX7_takePiece_1 ?_
  refine T_putI (pc := 2) f7_9 dX7_takePiece_2 (ent_st h0.1) (by decide) rfl (by decide +kernel) h (fun s1 h => ?_)
  refine E_aload_n (pc := 5) rfl dX7_takePiece_5 ?_
  refine E_iconst (pc := 6) 0 rfl dX7_takePiece_6 ?_
  refine T_putI (pc := 7) f7_15 dX7_takePiece_7 (ent_st h0.1) (by decide) rfl (by decide +kernel) h (fun s2 h => ?_)
  exact E_return (pc := 10) rfl dX7_takePiece_10 (QV_of h)
noncomputable def f_X7_reaches (a0 : Nat) (x1 : Int32) (x2 : Int32) (σ : ST) : Option (Int32 × ST) :=
    if x1 < 0 then
    (some ((nI 0), σ))
    else (if 0 < (lg_cmp (((x1).toInt64) + ((x2).toInt64)) (((σ.1 a0 1)).toInt64)) then
    (some ((nI 0), σ))
    else (some ((nI 1), σ)))
theorem e_X7_reaches {G : GP} {a0 : Nat} {x1 : Int32} {x2 : Int32} {σ : ST} {v : Int32} {s : ST} (h0 : SH a0) (h : f_X7_reaches a0 x1 x2 σ = some (v, s)) : E G mX7_reaches (0, 0) 0 [.ref a0, .int x1, .int x2] [] (mem σ) (QI v s) := by
  unfold f_X7_reaches at h
  refine E_iload_n (pc := 0) rfl dX7_reaches_0 ?_
  refine T_if_lt (pc := 1) 22 dX7_reaches_1 (by decide) h (fun h => ?_) (fun h => ?_)
  · refine E_iconst (pc := 22) 0 rfl dX7_reaches_22 ?_
    exact E_ireturn (pc := 23) rfl (by decide) dX7_reaches_23 (QI_of h)
  · refine E_iload_n (pc := 4) rfl dX7_reaches_4 ?_
    refine E_i2l (pc := 5) dX7_reaches_5 ?_
    refine E_iload_n (pc := 6) rfl dX7_reaches_6 ?_
    refine E_i2l (pc := 7) dX7_reaches_7 ?_
    refine E_ladd (pc := 8) dX7_reaches_8 ?_
    refine E_aload_n (pc := 9) rfl dX7_reaches_9 ?_
    refine R_getI (pc := 10) f7_15 dX7_reaches_10 (ent_st h0.1) (by decide) rfl ?_
    refine E_i2l (pc := 13) dX7_reaches_13 ?_
    refine E_lcmp (pc := 14) dX7_reaches_14 ?_
    refine T_if_gt (pc := 15) 22 dX7_reaches_15 (by decide) h (fun h => ?_) (fun h => ?_)
    · refine E_iconst (pc := 22) 0 rfl dX7_reaches_22 ?_
      exact E_ireturn (pc := 23) rfl (by decide) dX7_reaches_23 (QI_of h)
    · refine E_iconst (pc := 18) 1 rfl dX7_reaches_18 ?_
      refine E_goto (pc := 19) 23 (by decide) dX7_reaches_19 ?_
      exact E_ireturn (pc := 23) rfl (by decide) dX7_reaches_23 (QI_of h)
noncomputable def f_X7_narrowed (a0 : Nat) (y1 : Int64) (σ : ST) : Option (Int64 × ST) :=
    if ((σ.1 a0 0) - (nI 100)) = nI 0 then
    (some (((((((y1).toInt32)).toInt8.toInt32)).toInt64), σ))
    else if ((σ.1 a0 0) - (nI 100)) = nI 1 then
    (some (((((((y1).toInt32)).toInt16.toInt32)).toInt64), σ))
    else if ((σ.1 a0 0) - (nI 100)) = nI 2 then
    (some (((((y1).toInt32)).toInt64), σ))
    else (some (y1, σ))
theorem e_X7_narrowed {G : GP} {a0 : Nat} {y1 : Int64} {σ : ST} {v : Int64} {s : ST} (h0 : SH a0) (h : f_X7_narrowed a0 y1 σ = some (v, s)) : E G mX7_narrowed (0, 0) 0 [.ref a0, .long y1, D0] [] (mem σ) (QJ v s) := by
  unfold f_X7_narrowed at h
  refine E_aload_n (pc := 0) rfl dX7_narrowed_0 ?_
  refine R_getI (pc := 1) f7_9 dX7_narrowed_1 (ent_st h0.1) (by decide) rfl ?_
  refine E_bipush (pc := 4) (nI 100) (by decide) dX7_narrowed_4 ?_
  refine E_isub (pc := 6) dX7_narrowed_6 ?_
  refine T_tbl (pc := 7) (m := 0) 32 (by omega) (by decide) (by decide) dX7_narrowed_7 rfl (by decide) h (fun h => ?_) (fun u7_0 h => ?_)
  · refine E_lload_n (pc := 32) rfl dX7_narrowed_32 ?_
    refine E_l2i (pc := 33) dX7_narrowed_33 ?_
    refine E_i2b (pc := 34) dX7_narrowed_34 ?_
    refine E_i2l (pc := 35) dX7_narrowed_35 ?_
    exact E_lreturn (pc := 36) rfl dX7_narrowed_36 (QJ_of h)
  refine T_tbl (pc := 7) (m := 1) 37 (by omega) (by decide) (by decide) dX7_narrowed_7 rfl (by decide) h (fun h => ?_) (fun u7_1 h => ?_)
  · refine E_lload_n (pc := 37) rfl dX7_narrowed_37 ?_
    refine E_l2i (pc := 38) dX7_narrowed_38 ?_
    refine E_i2s (pc := 39) dX7_narrowed_39 ?_
    refine E_i2l (pc := 40) dX7_narrowed_40 ?_
    exact E_lreturn (pc := 41) rfl dX7_narrowed_41 (QJ_of h)
  refine T_tbl (pc := 7) (m := 2) 42 (by omega) (by decide) (by decide) dX7_narrowed_7 rfl (by decide) h (fun h => ?_) (fun u7_2 h => ?_)
  · refine E_lload_n (pc := 42) rfl dX7_narrowed_42 ?_
    refine E_l2i (pc := 43) dX7_narrowed_43 ?_
    refine E_i2l (pc := 44) dX7_narrowed_44 ?_
    exact E_lreturn (pc := 45) rfl dX7_narrowed_45 (QJ_of h)
  refine E_tblOut (pc := 7) 46 (by omega) (by decide) dX7_narrowed_7 ?_
  refine E_lload_n (pc := 46) rfl dX7_narrowed_46 ?_
  exact E_lreturn (pc := 47) rfl dX7_narrowed_47 (QJ_of h)
noncomputable def f_X7_put (a0 : Nat) (x1 : Int32) (y2 : Int64) (σ : ST) : Option ST :=
    bd2 (f_X7_has a0 x1 σ) fun v2 s1 =>
    if v2 = 0 then
    (some s1)
    else (bd2 (f_X7_narrowed a0 y2 s1) fun v4 s3 =>
    (wrJ s3 (a0 + 1) 60 x1 v4).bind fun s5 =>
    some s5)
theorem e_X7_put {G : GP} {a0 : Nat} {x1 : Int32} {y2 : Int64} {σ : ST} {s : ST} (h0 : SH a0) (h : f_X7_put a0 x1 y2 σ = some s) : E G mX7_put (1, 22) 0 [.ref a0, .int x1, .long y2, D0] [] (mem σ) (QV s) := by
  unfold f_X7_put at h
  refine E_aload_n (pc := 0) rfl dX7_put_0 ?_
  refine E_iload_n (pc := 1) rfl dX7_put_1 ?_
  obtain ⟨v2, s1, hp, h⟩ := bd2_some h
  refine E_callV (pc := 2) (As := [_]) (fc := (0, 0)) s7_28_7 oX7_has dX7_put_2 (mem_ob (ent_st h0.1)) rfl rfl (Nat.le_of_ble_eq_true rfl) rfl rfl (by decide) (e_X7_has h0 hp) (fun rv_ M_ hq_ => ?_)
  obtain ⟨rfl, rfl⟩ := hq_
  refine T_if_eq (pc := 5) 19 dX7_put_5 (by decide) h (fun h => ?_) (fun h => ?_)
  · exact E_return (pc := 19) rfl dX7_put_19 (QV_of h)
  · refine E_aload_n (pc := 8) rfl dX7_put_8 ?_
    refine R_getR (pc := 9) (b := a0 + 1) f7_18 dX7_put_9 (ent_st h0.1) (by decide) rfl rfl ?_
    refine E_iload_n (pc := 12) rfl dX7_put_12 ?_
    refine E_aload_n (pc := 13) rfl dX7_put_13 ?_
    refine E_lload_n (pc := 14) rfl dX7_put_14 ?_
    obtain ⟨v4, s3, hp, h⟩ := bd2_some h
    refine E_callV (pc := 15) (As := [_]) (fc := (0, 0)) s7_32_7 oX7_narrowed dX7_put_15 (mem_ob (ent_st h0.1)) rfl rfl (Nat.le_of_ble_eq_true rfl) rfl rfl (by decide) (e_X7_narrowed h0 hp) (fun rv_ M_ hq_ => ?_)
    obtain ⟨rfl, rfl⟩ := hq_
    refine T_jast (pc := 18) dX7_put_18 (ent_st h0.2) (by decide) h (fun s5 h => ?_)
    exact E_return (pc := 19) rfl dX7_put_19 (QV_of h)
noncomputable def f_J6_bitCount_0f7a4 (x0 : Int32) (σ : ST) : Option (Int32 × ST) :=
    some (((((((((x0 - ((((x0).toUInt32 >>> (((nI 1)).toUInt32 &&& Int32.toUInt32 31)).toInt32) &&& (nI 1431655765))) &&& (nI 858993459)) + (((((x0 - ((((x0).toUInt32 >>> (((nI 1)).toUInt32 &&& Int32.toUInt32 31)).toInt32) &&& (nI 1431655765)))).toUInt32 >>> (((nI 2)).toUInt32 &&& Int32.toUInt32 31)).toInt32) &&& (nI 858993459))) + ((((((x0 - ((((x0).toUInt32 >>> (((nI 1)).toUInt32 &&& Int32.toUInt32 31)).toInt32) &&& (nI 1431655765))) &&& (nI 858993459)) + (((((x0 - ((((x0).toUInt32 >>> (((nI 1)).toUInt32 &&& Int32.toUInt32 31)).toInt32) &&& (nI 1431655765)))).toUInt32 >>> (((nI 2)).toUInt32 &&& Int32.toUInt32 31)).toInt32) &&& (nI 858993459)))).toUInt32 >>> (((nI 4)).toUInt32 &&& Int32.toUInt32 31)).toInt32)) &&& (nI 252645135)) + ((((((((x0 - ((((x0).toUInt32 >>> (((nI 1)).toUInt32 &&& Int32.toUInt32 31)).toInt32) &&& (nI 1431655765))) &&& (nI 858993459)) + (((((x0 - ((((x0).toUInt32 >>> (((nI 1)).toUInt32 &&& Int32.toUInt32 31)).toInt32) &&& (nI 1431655765)))).toUInt32 >>> (((nI 2)).toUInt32 &&& Int32.toUInt32 31)).toInt32) &&& (nI 858993459))) + ((((((x0 - ((((x0).toUInt32 >>> (((nI 1)).toUInt32 &&& Int32.toUInt32 31)).toInt32) &&& (nI 1431655765))) &&& (nI 858993459)) + (((((x0 - ((((x0).toUInt32 >>> (((nI 1)).toUInt32 &&& Int32.toUInt32 31)).toInt32) &&& (nI 1431655765)))).toUInt32 >>> (((nI 2)).toUInt32 &&& Int32.toUInt32 31)).toInt32) &&& (nI 858993459)))).toUInt32 >>> (((nI 4)).toUInt32 &&& Int32.toUInt32 31)).toInt32)) &&& (nI 252645135))).toUInt32 >>> (((nI 8)).toUInt32 &&& Int32.toUInt32 31)).toInt32)) + (((((((((x0 - ((((x0).toUInt32 >>> (((nI 1)).toUInt32 &&& Int32.toUInt32 31)).toInt32) &&& (nI 1431655765))) &&& (nI 858993459)) + (((((x0 - ((((x0).toUInt32 >>> (((nI 1)).toUInt32 &&& Int32.toUInt32 31)).toInt32) &&& (nI 1431655765)))).toUInt32 >>> (((nI 2)).toUInt32 &&& Int32.toUInt32 31)).toInt32) &&& (nI 858993459))) + ((((((x0 - ((((x0).toUInt32 >>> (((nI 1)).toUInt32 &&& Int32.toUInt32 31)).toInt32) &&& (nI 1431655765))) &&& (nI 858993459)) + (((((x0 - ((((x0).toUInt32 >>> (((nI 1)).toUInt32 &&& Int32.toUInt32 31)).toInt32) &&& (nI 1431655765)))).toUInt32 >>> (((nI 2)).toUInt32 &&& Int32.toUInt32 31)).toInt32) &&& (nI 858993459)))).toUInt32 >>> (((nI 4)).toUInt32 &&& Int32.toUInt32 31)).toInt32)) &&& (nI 252645135)) + ((((((((x0 - ((((x0).toUInt32 >>> (((nI 1)).toUInt32 &&& Int32.toUInt32 31)).toInt32) &&& (nI 1431655765))) &&& (nI 858993459)) + (((((x0 - ((((x0).toUInt32 >>> (((nI 1)).toUInt32 &&& Int32.toUInt32 31)).toInt32) &&& (nI 1431655765)))).toUInt32 >>> (((nI 2)).toUInt32 &&& Int32.toUInt32 31)).toInt32) &&& (nI 858993459))) + ((((((x0 - ((((x0).toUInt32 >>> (((nI 1)).toUInt32 &&& Int32.toUInt32 31)).toInt32) &&& (nI 1431655765))) &&& (nI 858993459)) + (((((x0 - ((((x0).toUInt32 >>> (((nI 1)).toUInt32 &&& Int32.toUInt32 31)).toInt32) &&& (nI 1431655765)))).toUInt32 >>> (((nI 2)).toUInt32 &&& Int32.toUInt32 31)).toInt32) &&& (nI 858993459)))).toUInt32 >>> (((nI 4)).toUInt32 &&& Int32.toUInt32 31)).toInt32)) &&& (nI 252645135))).toUInt32 >>> (((nI 8)).toUInt32 &&& Int32.toUInt32 31)).toInt32))).toUInt32 >>> (((nI 16)).toUInt32 &&& Int32.toUInt32 31)).toInt32)) &&& (nI 63)), σ)
theorem e_J6_bitCount_0f7a4 {G : GP} {x0 : Int32} {σ : ST} {v : Int32} {s : ST}  (h : f_J6_bitCount_0f7a4 x0 σ = some (v, s)) : E G mJ6_bitCount_0f7a4 (0, 0) 0 [.int x0] [] (mem σ) (QI v s) := by
  unfold f_J6_bitCount_0f7a4 at h
  refine E_iload_n (pc := 0) rfl dJ6_bitCount_0f7a4_0 ?_
  refine E_iload_n (pc := 1) rfl dJ6_bitCount_0f7a4_1 ?_
  refine E_iconst (pc := 2) 1 rfl dJ6_bitCount_0f7a4_2 ?_
  refine E_iushr (pc := 3) dJ6_bitCount_0f7a4_3 ?_
  refine E_ldcw (pc := 4) (v := nI 1431655765) q14_265 dJ6_bitCount_0f7a4_4 ?_
  refine E_iand (pc := 7) dJ6_bitCount_0f7a4_7 ?_
  refine E_isub (pc := 8) dJ6_bitCount_0f7a4_8 ?_
  refine E_istore_n (pc := 9) (L2 := [_]) rfl rfl dJ6_bitCount_0f7a4_9 ?_
  refine E_iload_n (pc := 10) rfl dJ6_bitCount_0f7a4_10 ?_
  refine E_ldcw (pc := 11) (v := nI 858993459) q14_266 dJ6_bitCount_0f7a4_11 ?_
  refine E_iand (pc := 14) dJ6_bitCount_0f7a4_14 ?_
  refine E_iload_n (pc := 15) rfl dJ6_bitCount_0f7a4_15 ?_
  refine E_iconst (pc := 16) 2 rfl dJ6_bitCount_0f7a4_16 ?_
  refine E_iushr (pc := 17) dJ6_bitCount_0f7a4_17 ?_
  refine E_ldcw (pc := 18) (v := nI 858993459) q14_266 dJ6_bitCount_0f7a4_18 ?_
  refine E_iand (pc := 21) dJ6_bitCount_0f7a4_21 ?_
  refine E_iadd (pc := 22) dJ6_bitCount_0f7a4_22 ?_
  refine E_istore_n (pc := 23) (L2 := [_]) rfl rfl dJ6_bitCount_0f7a4_23 ?_
  refine E_iload_n (pc := 24) rfl dJ6_bitCount_0f7a4_24 ?_
  refine E_iload_n (pc := 25) rfl dJ6_bitCount_0f7a4_25 ?_
  refine E_iconst (pc := 26) 4 rfl dJ6_bitCount_0f7a4_26 ?_
  refine E_iushr (pc := 27) dJ6_bitCount_0f7a4_27 ?_
  refine E_iadd (pc := 28) dJ6_bitCount_0f7a4_28 ?_
  refine E_ldcw (pc := 29) (v := nI 252645135) q14_267 dJ6_bitCount_0f7a4_29 ?_
  refine E_iand (pc := 32) dJ6_bitCount_0f7a4_32 ?_
  refine E_istore_n (pc := 33) (L2 := [_]) rfl rfl dJ6_bitCount_0f7a4_33 ?_
  refine E_iload_n (pc := 34) rfl dJ6_bitCount_0f7a4_34 ?_
  refine E_iload_n (pc := 35) rfl dJ6_bitCount_0f7a4_35 ?_
  refine E_bipush (pc := 36) (nI 8) (by decide) dJ6_bitCount_0f7a4_36 ?_
  refine E_iushr (pc := 38) dJ6_bitCount_0f7a4_38 ?_
  refine E_iadd (pc := 39) dJ6_bitCount_0f7a4_39 ?_
  refine E_istore_n (pc := 40) (L2 := [_]) rfl rfl dJ6_bitCount_0f7a4_40 ?_
  refine E_iload_n (pc := 41) rfl dJ6_bitCount_0f7a4_41 ?_
  refine E_iload_n (pc := 42) rfl dJ6_bitCount_0f7a4_42 ?_
  refine E_bipush (pc := 43) (nI 16) (by decide) dJ6_bitCount_0f7a4_43 ?_
  refine E_iushr (pc := 45) dJ6_bitCount_0f7a4_45 ?_
  refine E_iadd (pc := 46) dJ6_bitCount_0f7a4_46 ?_
  refine E_istore_n (pc := 47) (L2 := [_]) rfl rfl dJ6_bitCount_0f7a4_47 ?_
  refine E_iload_n (pc := 48) rfl dJ6_bitCount_0f7a4_48 ?_
  refine E_bipush (pc := 49) (nI 63) (by decide) dJ6_bitCount_0f7a4_49 ?_
  refine E_iand (pc := 51) dJ6_bitCount_0f7a4_51 ?_
  exact E_ireturn (pc := 52) rfl rfl dJ6_bitCount_0f7a4_52 (QI_of h)
