/-! ===== functions: 35.tlQ ===== -/
noncomputable def f_X0_addSeen (a0 : Nat) (x1 : Int32) (x2 : Int32) (σ : ST) : Option ST :=
    (rdI σ (a0 + 4) 12 x2).bind fun v1 =>
    (wrI σ (a0 + 4) 12 x2 (v1 &&& ((nI 1) <<< (x1 &&& 31)))).bind fun s2 =>
    (rdI s2 (a0 + 5) 12 x2).bind fun v3 =>
    (wrI s2 (a0 + 5) 12 x2 (v3 ||| ((nI 1) <<< (x1 &&& 31)))).bind fun s4 =>
    some s4
theorem e_X0_addSeen {G : GP} {a0 : Nat} {x1 : Int32} {x2 : Int32} {σ : ST} {s : ST} (h0 : AS a0) (h : f_X0_addSeen a0 x1 x2 σ = some s) : E G mX0_addSeen (0, 0) 0 [.ref a0, .int x1, .int x2] [] (mem σ) (QV s) := by
  unfold f_X0_addSeen at h
  refine E_aload_n (pc := 0) rfl dX0_addSeen_0 ?_
  refine R_getR (pc := 1) (b := a0 + 4) f0_21 dX0_addSeen_1 (ent_st h0.1) (by decide) rfl rfl ?_
  refine E_iload_n (pc := 4) rfl dX0_addSeen_4 ?_
  refine E_dup2 (pc := 5) rfl rfl dX0_addSeen_5 ?_
  refine T_iald (pc := 6) dX0_addSeen_6 (ent_st h0.2.2.2.2.1) (by decide) h (fun v1 h => ?_)
  refine E_iconst (pc := 7) 1 rfl dX0_addSeen_7 ?_
  refine E_iload_n (pc := 8) rfl dX0_addSeen_8 ?_
  refine E_ishl (pc := 9) dX0_addSeen_9 ?_
  refine E_iand (pc := 10) dX0_addSeen_10 ?_
  refine T_iast (pc := 11) dX0_addSeen_11 (ent_st h0.2.2.2.2.1) (by decide) h (fun s2 h => ?_)
  refine E_aload_n (pc := 12) rfl dX0_addSeen_12 ?_
  refine R_getR (pc := 13) (b := a0 + 5) f0_24 dX0_addSeen_13 (ent_st h0.1) (by decide) rfl rfl ?_
  refine E_iload_n (pc := 16) rfl dX0_addSeen_16 ?_
  refine E_dup2 (pc := 17) rfl rfl dX0_addSeen_17 ?_
  refine T_iald (pc := 18) dX0_addSeen_18 (ent_st h0.2.2.2.2.2.1) (by decide) h (fun v3 h => ?_)
  refine E_iconst (pc := 19) 1 rfl dX0_addSeen_19 ?_
  refine E_iload_n (pc := 20) rfl dX0_addSeen_20 ?_
  refine E_ishl (pc := 21) dX0_addSeen_21 ?_
  refine E_ior (pc := 22) dX0_addSeen_22 ?_
  refine T_iast (pc := 23) dX0_addSeen_23 (ent_st h0.2.2.2.2.2.1) (by decide) h (fun s4 h => ?_)
  exact E_return (pc := 24) rfl dX0_addSeen_24 (QV_of h)
noncomputable def f_X0_addSpan_31 (a0 : Nat) (k63 : Nat → Int32 → ST → Option ST) : Nat → Nat → Int32 → Int32 → ST → Option ST
  | 0, _, _, _, _ => none
  | n + 1, p1, x2, x3, sg =>
    (rdP [6, 4, 8, 9] sg p1 4).bind fun v3 =>
    if v3 < x3 then
    (k63 p1 x2 sg)
    else ((rdP [6, 4, 8, 9] sg p1 2).bind fun v4 =>
    (rdI sg (a0 + 6) 84 ((x3 * (nI 7)) + v4)).bind fun v5 =>
    (wrI sg (a0 + 6) 84 ((x3 * (nI 7)) + v4) (v5 ||| x2)).bind fun s6 =>
    (f_X0_addSpan_31 a0 k63 n) p1 x2 (x3 + nI 1) s6)
theorem e_X0_addSpan_31 {G : GP} {a0 : Nat} {k63 : Nat → Int32 → ST → Option ST} {s : ST} (h0 : AS a0) (hk63 : ∀ {p1 : Nat} {x2 : Int32} {sg : ST}, k63 p1 x2 sg = some s → E G mX0_addSpan (0, 0) 63 [.ref a0, .ref p1, .int x2, D0] [] (mem sg) (QV s)) : ∀ (n : Nat) {p1 : Nat} {x2 : Int32} {x3 : Int32} {sg : ST}, f_X0_addSpan_31 a0 k63 n p1 x2 x3 sg = some s → E G mX0_addSpan (0, 0) 31 [.ref a0, .ref p1, .int x2, .int x3] [] (mem sg) (QV s) := by
  intro n
  induction n with
  | zero => intro _ _ _ _ h; rw [f_X0_addSpan_31] at h; cases h
  | succ n ih =>
    intro p1 x2 x3 sg h
    rw [f_X0_addSpan_31] at h
    refine E_iload_n (pc := 31) rfl dX0_addSpan_31 ?_
    refine E_aload_n (pc := 32) rfl dX0_addSpan_32 ?_
    refine T_getP (pc := 33) f0_76 dX0_addSpan_33 (by decide) h (fun v3 h => ?_)
    refine T_icmp_gt (pc := 36) 63 dX0_addSpan_36 (by decide) h (fun h => ?_) (fun h => ?_)
    · refine E_kp [true, true, true, false] (L2 := [_, _, _, D0]) rfl rfl ?_
      exact hk63 h
    · refine E_aload_n (pc := 39) rfl dX0_addSpan_39 ?_
      refine R_getR (pc := 40) (b := a0 + 6) f0_27 dX0_addSpan_40 (ent_st h0.1) (by decide) rfl rfl ?_
      refine E_iload_n (pc := 43) rfl dX0_addSpan_43 ?_
      refine E_bipush (pc := 44) (nI 7) (by decide) dX0_addSpan_44 ?_
      refine E_imul (pc := 46) dX0_addSpan_46 ?_
      refine E_aload_n (pc := 47) rfl dX0_addSpan_47 ?_
      refine T_getP (pc := 48) f0_79 dX0_addSpan_48 (by decide) h (fun v4 h => ?_)
      refine E_iadd (pc := 51) dX0_addSpan_51 ?_
      refine E_dup2 (pc := 52) rfl rfl dX0_addSpan_52 ?_
      refine T_iald (pc := 53) dX0_addSpan_53 (ent_st h0.2.2.2.2.2.2.1) (by decide) h (fun v5 h => ?_)
      refine E_iload_n (pc := 54) rfl dX0_addSpan_54 ?_
      refine E_ior (pc := 55) dX0_addSpan_55 ?_
      refine T_iast (pc := 56) dX0_addSpan_56 (ent_st h0.2.2.2.2.2.2.1) (by decide) h (fun s6 h => ?_)
      refine T_iinc (pc := 57) (m := 1) (L2 := [_, _, _, _]) rfl rfl rfl rfl dX0_addSpan_57 ?_
      refine E_goto (pc := 60) 31 (by decide) dX0_addSpan_60 ?_
      exact ih h
noncomputable def f_X0_addSpan (a0 : Nat) (p1 : Nat) (σ : ST) : Option ST :=
    if (σ.1 a0 8) < (nI 2) then
    ((pfI σ a0 8 ((σ.1 a0 8) + (nI 1))).bind fun s1 =>
    (rdP [6, 4, 8, 9] s1 p1 3).bind fun v2 =>
    f_X0_addSpan_31 a0 (fun p1_7 x2_8 s9 =>
    (rdP [6, 4, 8, 9] s9 p1_7 4).bind fun v10 =>
    (rdI s9 (a0 + 7) 12 v10).bind fun v11 =>
    (wrI s9 (a0 + 7) 12 v10 (v11 ||| x2_8)).bind fun s12 =>
    some s12) FU p1 ((nI 1) <<< ((σ.1 a0 8) &&& 31)) v2 s1)
    else (some σ)
theorem e_X0_addSpan {G : GP} {a0 : Nat} {p1 : Nat} {σ : ST} {s : ST} (h0 : AS a0) (h : f_X0_addSpan a0 p1 σ = some s) : E G mX0_addSpan (0, 0) 0 [.ref a0, .ref p1, D0, D0] [] (mem σ) (QV s) := by
  unfold f_X0_addSpan at h
  refine E_aload_n (pc := 0) rfl dX0_addSpan_0 ?_
  refine R_getI (pc := 1) f0_33 dX0_addSpan_1 (ent_st h0.1) (by decide) rfl ?_
  refine E_iconst (pc := 4) 2 rfl dX0_addSpan_4 ?_
  refine T_icmp_lt (pc := 5) 9 dX0_addSpan_5 (by decide) h (fun h => ?_) (fun h => ?_)
  · refine E_iconst (pc := 9) 1 rfl dX0_addSpan_9 ?_
    refine E_aload_n (pc := 10) rfl dX0_addSpan_10 ?_
    refine R_getI (pc := 11) f0_33 dX0_addSpan_11 (ent_st h0.1) (by decide) rfl ?_
    refine E_ishl (pc := 14) dX0_addSpan_14 ?_
    refine E_istore_n (pc := 15) (L2 := [_, _, _, _]) rfl rfl dX0_addSpan_15 ?_
    refine E_aload_n (pc := 16) rfl dX0_addSpan_16 ?_
    refine E_dup (pc := 17) rfl dX0_addSpan_17 ?_
    refine R_getI (pc := 18) f0_33 dX0_addSpan_18 (ent_st h0.1) (by decide) rfl ?_
    refine E_iconst (pc := 21) 1 rfl dX0_addSpan_21 ?_
    refine E_iadd (pc := 22) dX0_addSpan_22 ?_
    refine T_putI (pc := 23) f0_33 dX0_addSpan_23 (ent_st h0.1) (by decide) rfl (by decide +kernel) h (fun s1 h => ?_)
    refine E_aload_n (pc := 26) rfl dX0_addSpan_26 ?_
    refine T_getP (pc := 27) f0_73 dX0_addSpan_27 (by decide) h (fun v2 h => ?_)
    refine E_istore_n (pc := 30) (L2 := [_, _, _, _]) rfl rfl dX0_addSpan_30 ?_
    refine e_X0_addSpan_31 h0 ?_ FU h
    · intro p1_7 x2_8 s9 h
      refine E_aload_n (pc := 63) rfl dX0_addSpan_63 ?_
      refine R_getR (pc := 64) (b := a0 + 7) f0_30 dX0_addSpan_64 (ent_st h0.1) (by decide) rfl rfl ?_
      refine E_aload_n (pc := 67) rfl dX0_addSpan_67 ?_
      refine T_getP (pc := 68) f0_76 dX0_addSpan_68 (by decide) h (fun v10 h => ?_)
      refine E_dup2 (pc := 71) rfl rfl dX0_addSpan_71 ?_
      refine T_iald (pc := 72) dX0_addSpan_72 (ent_st h0.2.2.2.2.2.2.2) (by decide) h (fun v11 h => ?_)
      refine E_iload_n (pc := 73) rfl dX0_addSpan_73 ?_
      refine E_ior (pc := 74) dX0_addSpan_74 ?_
      refine T_iast (pc := 75) dX0_addSpan_75 (ent_st h0.2.2.2.2.2.2.2) (by decide) h (fun s12 h => ?_)
      exact E_return (pc := 76) rfl dX0_addSpan_76 (QV_of h)
  · exact E_return (pc := 8) rfl dX0_addSpan_8 (QV_of h)
noncomputable def f_X0_addWas_27 (a0 : Nat) : Nat → Nat → Int32 → Int32 → ST → Option ST
  | 0, _, _, _, _ => none
  | n + 1, p1, x2, x3, sg =>
    (rdP [6, 4, 8, 9] sg p1 4).bind fun v4 =>
    if v4 < x3 then
    (some sg)
    else (if x2 = 0 then
    ((rdP [6, 4, 8, 9] sg p1 5).bind fun v5 =>
    if v5 = (nI 1) then
    ((rdI sg (a0 + 1) 12 x3).bind fun v9 =>
    (rdP [6, 4, 8, 9] sg p1 2).bind fun v10 =>
    (wrI sg (a0 + 1) 12 x3 (v9 ||| ((nI 1) <<< (v10 &&& 31)))).bind fun s11 =>
    (f_X0_addWas_27 a0 n) p1 x2 (x3 + nI 1) s11)
    else ((rdI sg (a0 + 2) 12 x3).bind fun v6 =>
    (rdP [6, 4, 8, 9] sg p1 2).bind fun v7 =>
    (wrI sg (a0 + 2) 12 x3 (v6 ||| ((nI 1) <<< (v7 &&& 31)))).bind fun s8 =>
    (f_X0_addWas_27 a0 n) p1 x2 (x3 + nI 1) s8))
    else ((rdI sg (a0 + 3) 12 x3).bind fun v12 =>
    (rdP [6, 4, 8, 9] sg p1 5).bind fun v13 =>
    (wrI sg (a0 + 3) 12 x3 (v12 &&& ((nI 1) <<< (v13 &&& 31)))).bind fun s14 =>
    (f_X0_addWas_27 a0 n) p1 x2 (x3 + nI 1) s14))
theorem e_X0_addWas_27 {G : GP} {a0 : Nat} {s : ST} (h0 : AS a0) : ∀ (n : Nat) {p1 : Nat} {x2 : Int32} {x3 : Int32} {sg : ST}, f_X0_addWas_27 a0 n p1 x2 x3 sg = some s → E G mX0_addWas (0, 0) 27 [.ref a0, .ref p1, .int x2, .int x3] [] (mem sg) (QV s) := by
  intro n
  induction n with
  | zero => intro _ _ _ _ h; rw [f_X0_addWas_27] at h; cases h
  | succ n ih =>
    intro p1 x2 x3 sg h
    rw [f_X0_addWas_27] at h
    refine E_iload_n (pc := 27) rfl dX0_addWas_27 ?_
    refine E_aload_n (pc := 28) rfl dX0_addWas_28 ?_
    refine T_getP (pc := 29) f0_76 dX0_addWas_29 (by decide) h (fun v4 h => ?_)
    refine T_icmp_gt (pc := 32) 104 dX0_addWas_32 (by decide) h (fun h => ?_) (fun h => ?_)
    · exact E_return (pc := 104) rfl dX0_addWas_104 (QV_of h)
    · refine E_iload_n (pc := 35) rfl dX0_addWas_35 ?_
      refine T_if_eq (pc := 36) 57 dX0_addWas_36 (by decide) h (fun h => ?_) (fun h => ?_)
      · refine E_aload_n (pc := 57) rfl dX0_addWas_57 ?_
        refine T_getP (pc := 58) f0_89 dX0_addWas_58 (by decide) h (fun v5 h => ?_)
        refine E_iconst (pc := 61) 1 rfl dX0_addWas_61 ?_
        refine T_icmp_ne (pc := 62) 83 dX0_addWas_62 (by decide) h (fun h => ?_) (fun h => ?_)
        · refine E_aload_n (pc := 83) rfl dX0_addWas_83 ?_
          refine R_getR (pc := 84) (b := a0 + 2) f0_15 dX0_addWas_84 (ent_st h0.1) (by decide) rfl rfl ?_
          refine E_iload_n (pc := 87) rfl dX0_addWas_87 ?_
          refine E_dup2 (pc := 88) rfl rfl dX0_addWas_88 ?_
          refine T_iald (pc := 89) dX0_addWas_89 (ent_st h0.2.2.1) (by decide) h (fun v6 h => ?_)
          refine E_iconst (pc := 90) 1 rfl dX0_addWas_90 ?_
          refine E_aload_n (pc := 91) rfl dX0_addWas_91 ?_
          refine T_getP (pc := 92) f0_79 dX0_addWas_92 (by decide) h (fun v7 h => ?_)
          refine E_ishl (pc := 95) dX0_addWas_95 ?_
          refine E_ior (pc := 96) dX0_addWas_96 ?_
          refine T_iast (pc := 97) dX0_addWas_97 (ent_st h0.2.2.1) (by decide) h (fun s8 h => ?_)
          refine T_iinc (pc := 98) (m := 1) (L2 := [_, _, _, _]) rfl rfl rfl rfl dX0_addWas_98 ?_
          refine E_goto (pc := 101) 27 (by decide) dX0_addWas_101 ?_
          exact ih h
        · refine E_aload_n (pc := 65) rfl dX0_addWas_65 ?_
          refine R_getR (pc := 66) (b := a0 + 1) f0_9 dX0_addWas_66 (ent_st h0.1) (by decide) rfl rfl ?_
          refine E_iload_n (pc := 69) rfl dX0_addWas_69 ?_
          refine E_dup2 (pc := 70) rfl rfl dX0_addWas_70 ?_
          refine T_iald (pc := 71) dX0_addWas_71 (ent_st h0.2.1) (by decide) h (fun v9 h => ?_)
          refine E_iconst (pc := 72) 1 rfl dX0_addWas_72 ?_
          refine E_aload_n (pc := 73) rfl dX0_addWas_73 ?_
          refine T_getP (pc := 74) f0_79 dX0_addWas_74 (by decide) h (fun v10 h => ?_)
          refine E_ishl (pc := 77) dX0_addWas_77 ?_
          refine E_ior (pc := 78) dX0_addWas_78 ?_
          refine T_iast (pc := 79) dX0_addWas_79 (ent_st h0.2.1) (by decide) h (fun s11 h => ?_)
          refine E_goto (pc := 80) 98 (by decide) dX0_addWas_80 ?_
          refine T_iinc (pc := 98) (m := 1) (L2 := [_, _, _, _]) rfl rfl rfl rfl dX0_addWas_98 ?_
          refine E_goto (pc := 101) 27 (by decide) dX0_addWas_101 ?_
          exact ih h
      · refine E_aload_n (pc := 39) rfl dX0_addWas_39 ?_
        refine R_getR (pc := 40) (b := a0 + 3) f0_18 dX0_addWas_40 (ent_st h0.1) (by decide) rfl rfl ?_
        refine E_iload_n (pc := 43) rfl dX0_addWas_43 ?_
        refine E_dup2 (pc := 44) rfl rfl dX0_addWas_44 ?_
        refine T_iald (pc := 45) dX0_addWas_45 (ent_st h0.2.2.2.1) (by decide) h (fun v12 h => ?_)
        refine E_iconst (pc := 46) 1 rfl dX0_addWas_46 ?_
        refine E_aload_n (pc := 47) rfl dX0_addWas_47 ?_
        refine T_getP (pc := 48) f0_89 dX0_addWas_48 (by decide) h (fun v13 h => ?_)
        refine E_ishl (pc := 51) dX0_addWas_51 ?_
        refine E_iand (pc := 52) dX0_addWas_52 ?_
        refine T_iast (pc := 53) dX0_addWas_53 (ent_st h0.2.2.2.1) (by decide) h (fun s14 h => ?_)
        refine E_goto (pc := 54) 98 (by decide) dX0_addWas_54 ?_
        refine T_iinc (pc := 98) (m := 1) (L2 := [_, _, _, _]) rfl rfl rfl rfl dX0_addWas_98 ?_
        refine E_goto (pc := 101) 27 (by decide) dX0_addWas_101 ?_
        exact ih h
noncomputable def f_X0_addWas_21 (a0 : Nat) (p1 : Nat) (z0 : Int32) (sg : ST) : Option ST :=
    (rdP [6, 4, 8, 9] sg p1 3).bind fun v3 =>
    f_X0_addWas_27 a0 FU p1 z0 v3 sg
theorem e_X0_addWas_21 {G : GP} {a0 : Nat} {p1 : Nat} {z0 : Int32} {sg : ST} {s : ST} (h0 : AS a0) (h : f_X0_addWas_21 a0 p1 z0 sg = some s) : E G mX0_addWas (0, 0) 21 [.ref a0, .ref p1, D0, D0] [.int z0] (mem sg) (QV s) := by
  unfold f_X0_addWas_21 at h
  refine E_istore_n (pc := 21) (L2 := [_, _, _, _]) rfl rfl dX0_addWas_21 ?_
  refine E_aload_n (pc := 22) rfl dX0_addWas_22 ?_
  refine T_getP (pc := 23) f0_73 dX0_addWas_23 (by decide) h (fun v3 h => ?_)
  refine E_istore_n (pc := 26) (L2 := [_, _, _, _]) rfl rfl dX0_addWas_26 ?_
  refine e_X0_addWas_27 h0 FU h
noncomputable def f_X0_addWas (a0 : Nat) (p1 : Nat) (σ : ST) : Option ST :=
    (rdP [6, 4, 8, 9] σ p1 2).bind fun v1 =>
    (rdI σ 3 10 v1).bind fun v2 =>
    if v2 = (nI 3) then
    (f_X0_addWas_21 a0 p1 (nI 1) σ)
    else (f_X0_addWas_21 a0 p1 (nI 0) σ)
theorem e_X0_addWas {G : GP} {a0 : Nat} {p1 : Nat} {σ : ST} {s : ST} (h0 : AS a0) (h : f_X0_addWas a0 p1 σ = some s) : E G mX0_addWas (0, 0) 0 [.ref a0, .ref p1, D0, D0] [] (mem σ) (QV s) := by
  unfold f_X0_addWas at h
  refine E_aload_n (pc := 0) rfl dX0_addWas_0 ?_
  refine R_getR (pc := 1) (b := 2) f0_37 dX0_addWas_1 (ent_st h0.1) (by decide) rfl rfl ?_
  refine R_getR (pc := 4) (b := 3) f0_86 dX0_addWas_4 (ent_st WO2.1) (by decide) rfl rfl ?_
  refine E_aload_n (pc := 7) rfl dX0_addWas_7 ?_
  refine T_getP (pc := 8) f0_79 dX0_addWas_8 (by decide) h (fun v1 h => ?_)
  refine T_iald (pc := 11) dX0_addWas_11 (ent_st WO2.2.1) (by decide) h (fun v2 h => ?_)
  refine E_iconst (pc := 12) 3 rfl dX0_addWas_12 ?_
  refine T_icmp_ne (pc := 13) 20 dX0_addWas_13 (by decide) h (fun h => ?_) (fun h => ?_)
  · refine E_iconst (pc := 20) 0 rfl dX0_addWas_20 ?_
    refine e_X0_addWas_21 h0 h
  · refine E_iconst (pc := 16) 1 rfl dX0_addWas_16 ?_
    refine E_goto (pc := 17) 21 (by decide) dX0_addWas_17 ?_
    refine e_X0_addWas_21 h0 h
noncomputable def f_X0_add_53 (a0 : Nat) : Nat → Nat → Int32 → ST → Option ST
  | 0, _, _, _ => none
  | n + 1, p1, x2, sg =>
    (rdP [6, 4, 8, 9] sg p1 4).bind fun v5 =>
    if v5 < x2 then
    (some sg)
    else ((rdI sg (a0 + 4) 12 x2).bind fun v6 =>
    (rdP [6, 4, 8, 9] sg p1 2).bind fun v7 =>
    (wrI sg (a0 + 4) 12 x2 (v6 &&& (((nI 1) <<< (v7 &&& 31)) ^^^ (-1)))).bind fun s8 =>
    (f_X0_add_53 a0 n) p1 (x2 + nI 1) s8)
theorem e_X0_add_53 {G : GP} {a0 : Nat} {s : ST} (h0 : AS a0) : ∀ (n : Nat) {p1 : Nat} {x2 : Int32} {sg : ST}, f_X0_add_53 a0 n p1 x2 sg = some s → E G mX0_add (1, 23) 53 [.ref a0, .ref p1, .int x2] [] (mem sg) (QV s) := by
  intro n
  induction n with
  | zero => intro _ _ _ h; rw [f_X0_add_53] at h; cases h
  | succ n ih =>
    intro p1 x2 sg h
    rw [f_X0_add_53] at h
    refine E_iload_n (pc := 53) rfl dX0_add_53 ?_
    refine E_aload_n (pc := 54) rfl dX0_add_54 ?_
    refine T_getP (pc := 55) f0_76 dX0_add_55 (by decide) h (fun v5 h => ?_)
    refine T_icmp_gt (pc := 58) 84 dX0_add_58 (by decide) h (fun h => ?_) (fun h => ?_)
    · refine E_goto (pc := 84) 99 (by decide) dX0_add_84 ?_
      exact E_return (pc := 99) rfl dX0_add_99 (QV_of h)
    · refine E_aload_n (pc := 61) rfl dX0_add_61 ?_
      refine R_getR (pc := 62) (b := a0 + 4) f0_21 dX0_add_62 (ent_st h0.1) (by decide) rfl rfl ?_
      refine E_iload_n (pc := 65) rfl dX0_add_65 ?_
      refine E_dup2 (pc := 66) rfl rfl dX0_add_66 ?_
      refine T_iald (pc := 67) dX0_add_67 (ent_st h0.2.2.2.2.1) (by decide) h (fun v6 h => ?_)
      refine E_iconst (pc := 68) 1 rfl dX0_add_68 ?_
      refine E_aload_n (pc := 69) rfl dX0_add_69 ?_
      refine T_getP (pc := 70) f0_79 dX0_add_70 (by decide) h (fun v7 h => ?_)
      refine E_ishl (pc := 73) dX0_add_73 ?_
      refine E_im1 (pc := 74) dX0_add_74 ?_
      refine E_ixor (pc := 75) dX0_add_75 ?_
      refine E_iand (pc := 76) dX0_add_76 ?_
      refine T_iast (pc := 77) dX0_add_77 (ent_st h0.2.2.2.2.1) (by decide) h (fun s8 h => ?_)
      refine T_iinc (pc := 78) (m := 1) (L2 := [_, _, _]) rfl rfl rfl rfl dX0_add_78 ?_
      refine E_goto (pc := 81) 53 (by decide) dX0_add_81 ?_
      exact ih h
noncomputable def f_X0_add (a0 : Nat) (p1 : Nat) (σ : ST) : Option ST :=
    (rdP [6, 4, 8, 9] σ p1 1).bind fun v1 =>
    if v1 = nI 1 then
    ((f_X0_addSpan a0 p1 σ).bind fun s2 =>
    some s2)
    else if v1 = nI 2 then
    ((f_X0_addWas a0 p1 σ).bind fun s3 =>
    some s3)
    else if v1 = nI 3 then
    ((rdP [6, 4, 8, 9] σ p1 3).bind fun v4 =>
    f_X0_add_53 a0 FU p1 v4 σ)
    else ((rdP [6, 4, 8, 9] σ p1 2).bind fun v9 =>
    (rdP [6, 4, 8, 9] σ p1 3).bind fun v10 =>
    (f_X0_addSeen a0 v9 v10 σ).bind fun s11 =>
    some s11)
theorem e_X0_add {G : GP} {a0 : Nat} {p1 : Nat} {σ : ST} {s : ST} (h0 : AS a0) (h : f_X0_add a0 p1 σ = some s) : E G mX0_add (1, 23) 0 [.ref a0, .ref p1, D0] [] (mem σ) (QV s) := by
  unfold f_X0_add at h
  refine E_aload_n (pc := 0) rfl dX0_add_0 ?_
  refine T_getP (pc := 1) f0_62 dX0_add_1 (by decide) h (fun v1 h => ?_)
  refine T_tbl (pc := 4) (m := 1) 32 (by omega) (by decide) (by decide) dX0_add_4 rfl (by decide) h (fun h => ?_) (fun u4_1 h => ?_)
  · refine E_aload_n (pc := 32) rfl dX0_add_32 ?_
    refine E_aload_n (pc := 33) rfl dX0_add_33 ?_
    obtain ⟨s2, hp, h⟩ := bd_some h
    refine E_callV (pc := 34) (As := [_]) (fc := (0, 0)) s0_67_0 oX0_addSpan dX0_add_34 (mem_ob (ent_st h0.1)) rfl rfl (Nat.le_of_ble_eq_true rfl) rfl rfl (by decide) (e_X0_addSpan h0 hp) (fun rv_ M_ hq_ => ?_)
    obtain ⟨rfl, rfl⟩ := hq_
    refine E_goto (pc := 37) 99 (by decide) dX0_add_37 ?_
    exact E_return (pc := 99) rfl dX0_add_99 (QV_of h)
  refine T_tbl (pc := 4) (m := 2) 40 (by omega) (by decide) (by decide) dX0_add_4 rfl (by decide) h (fun h => ?_) (fun u4_2 h => ?_)
  · refine E_aload_n (pc := 40) rfl dX0_add_40 ?_
    refine E_aload_n (pc := 41) rfl dX0_add_41 ?_
    obtain ⟨s3, hp, h⟩ := bd_some h
    refine E_callV (pc := 42) (As := [_]) (fc := (0, 0)) s0_70_0 oX0_addWas dX0_add_42 (mem_ob (ent_st h0.1)) rfl rfl (Nat.le_of_ble_eq_true rfl) rfl rfl (by decide) (e_X0_addWas h0 hp) (fun rv_ M_ hq_ => ?_)
    obtain ⟨rfl, rfl⟩ := hq_
    refine E_goto (pc := 45) 99 (by decide) dX0_add_45 ?_
    exact E_return (pc := 99) rfl dX0_add_99 (QV_of h)
  refine T_tbl (pc := 4) (m := 3) 48 (by omega) (by decide) (by decide) dX0_add_4 rfl (by decide) h (fun h => ?_) (fun u4_3 h => ?_)
  · refine E_aload_n (pc := 48) rfl dX0_add_48 ?_
    refine T_getP (pc := 49) f0_73 dX0_add_49 (by decide) h (fun v4 h => ?_)
    refine E_istore_n (pc := 52) (L2 := [_, _, _]) rfl rfl dX0_add_52 ?_
    refine e_X0_add_53 h0 FU h
  refine E_tblOut (pc := 4) 87 (by omega) (by decide) dX0_add_4 ?_
  refine E_aload_n (pc := 87) rfl dX0_add_87 ?_
  refine E_aload_n (pc := 88) rfl dX0_add_88 ?_
  refine T_getP (pc := 89) f0_79 dX0_add_89 (by decide) h (fun v9 h => ?_)
  refine E_aload_n (pc := 92) rfl dX0_add_92 ?_
  refine T_getP (pc := 93) f0_73 dX0_add_93 (by decide) h (fun v10 h => ?_)
  obtain ⟨s11, hp, h⟩ := bd_some h
  refine E_callV (pc := 96) (As := [_, _]) (fc := (0, 0)) s0_82_0 oX0_addSeen dX0_add_96 (mem_ob (ent_st h0.1)) rfl rfl (Nat.le_of_ble_eq_true rfl) rfl rfl (by decide) (e_X0_addSeen h0 hp) (fun rv_ M_ hq_ => ?_)
  obtain ⟨rfl, rfl⟩ := hq_
  exact E_return (pc := 99) rfl dX0_add_99 (QV_of h)
noncomputable def f_X0_gather_78 (a0 : Nat) : Nat → Int32 → Int32 → ST → Option ST
  | 0, _, _, _ => none
  | n + 1, x1, x2, sg =>
    if x2 < (sg.1 2 2) then
    ((rdT sg 7 16 x2).bind fun q9 =>
    nl q9 ((f_X0_gather_78 a0 n) x1 (x2 + nI 1) sg) fun q10 =>
    if ((x1 >>> (x2 &&& 31)) &&& (nI 1)) = 0 then
    ((f_X0_gather_78 a0 n) x1 (x2 + nI 1) sg)
    else ((f_X0_add a0 q10 sg).bind fun s11 =>
    (f_X0_gather_78 a0 n) x1 (x2 + nI 1) s11))
    else (some sg)
theorem e_X0_gather_78 {G : GP} {a0 : Nat} {s : ST} (h0 : AS a0) : ∀ (n : Nat) {x1 : Int32} {x2 : Int32} {sg : ST}, f_X0_gather_78 a0 n x1 x2 sg = some s → E G mX0_gather (2, 45) 78 [.ref a0, .int x1, .int x2, D0] [] (mem sg) (QV s) := by
  intro n
  induction n with
  | zero => intro _ _ _ h; rw [f_X0_gather_78] at h; cases h
  | succ n ih =>
    intro x1 x2 sg h
    rw [f_X0_gather_78] at h
    refine E_iload_n (pc := 78) rfl dX0_gather_78 ?_
    refine E_aload_n (pc := 79) rfl dX0_gather_79 ?_
    refine R_getR (pc := 80) (b := 2) f0_37 dX0_gather_80 (ent_st h0.1) (by decide) rfl rfl ?_
    refine R_getI (pc := 83) f0_52 dX0_gather_83 (ent_st WO2.1) (by decide) rfl ?_
    refine T_icmp_ge (pc := 86) 122 dX0_gather_86 (by decide) h (fun h => ?_) (fun h => ?_)
    · exact E_return (pc := 122) rfl dX0_gather_122 (QV_of h)
    · refine E_aload_n (pc := 89) rfl dX0_gather_89 ?_
      refine R_getR (pc := 90) (b := 2) f0_37 dX0_gather_90 (ent_st h0.1) (by decide) rfl rfl ?_
      refine R_getR (pc := 93) (b := 7) f0_55 dX0_gather_93 (ent_st WO2.1) (by decide) rfl rfl ?_
      refine E_iload_n (pc := 96) rfl dX0_gather_96 ?_
      refine T_tald (pc := 97) dX0_gather_97 (ent_st WO2.2.2.2.2.2.1) (by decide) h (fun q9 h => ?_)
      refine T_astore_nQ (pc := 98) (L2 := [_, _, _, _]) rfl rfl dX0_gather_98 ?_
      refine T_aload_nQ (pc := 99) rfl dX0_gather_99 ?_
      cases q9 with
      | none =>
        replace h := nl_none h
        refine E_ifnullN (pc := 100) 116 (by decide) dX0_gather_100 ?_
        refine T_iinc (pc := 116) (m := 1) (L2 := [_, _, _, _]) rfl rfl rfl rfl dX0_gather_116 ?_
        refine E_goto (pc := 119) 78 (by decide) dX0_gather_119 ?_
        refine E_kp [true, true, true, false] (L2 := [_, _, _, D0]) rfl rfl ?_
        exact ih h
      | some q10 =>
        replace h := nl_some h
        refine E_ifnull (pc := 100) dX0_gather_100 ?_
        refine E_iload_n (pc := 103) rfl dX0_gather_103 ?_
        refine E_iload_n (pc := 104) rfl dX0_gather_104 ?_
        refine E_ishr (pc := 105) dX0_gather_105 ?_
        refine E_iconst (pc := 106) 1 rfl dX0_gather_106 ?_
        refine E_iand (pc := 107) dX0_gather_107 ?_
        refine T_if_eq (pc := 108) 116 dX0_gather_108 (by decide) h (fun h => ?_) (fun h => ?_)
        · refine T_iinc (pc := 116) (m := 1) (L2 := [_, _, _, _]) rfl rfl rfl rfl dX0_gather_116 ?_
          refine E_goto (pc := 119) 78 (by decide) dX0_gather_119 ?_
          refine E_kp [true, true, true, false] (L2 := [_, _, _, D0]) rfl rfl ?_
          exact ih h
        · refine E_aload_n (pc := 111) rfl dX0_gather_111 ?_
          refine E_aload_n (pc := 112) rfl dX0_gather_112 ?_
          obtain ⟨s11, hp, h⟩ := bd_some h
          refine E_callV (pc := 113) (As := [_]) (fc := (1, 23)) s0_58_0 oX0_add dX0_gather_113 (mem_ob (ent_st h0.1)) rfl rfl (Nat.le_of_ble_eq_true rfl) rfl rfl (by decide) (e_X0_add h0 hp) (fun rv_ M_ hq_ => ?_)
          obtain ⟨rfl, rfl⟩ := hq_
          refine T_iinc (pc := 116) (m := 1) (L2 := [_, _, _, _]) rfl rfl rfl rfl dX0_gather_116 ?_
          refine E_goto (pc := 119) 78 (by decide) dX0_gather_119 ?_
          refine E_kp [true, true, true, false] (L2 := [_, _, _, D0]) rfl rfl ?_
          exact ih h
noncomputable def f_X0_gather (a0 : Nat) (x1 : Int32) (σ : ST) : Option ST :=
    (f_J7_fill_53178 (a0 + 1) 12 (nI 0) σ).bind fun s1 =>
    (f_J7_fill_53178 (a0 + 2) 12 (nI 0) s1).bind fun s2 =>
    (f_J7_fill_53178 (a0 + 3) 12 (nI 255) s2).bind fun s3 =>
    (f_J7_fill_53178 (a0 + 4) 12 ((nI 64) ||| (((nI 1) <<< ((s3.1 2 1) &&& 31)) - (nI 1))) s3).bind fun s4 =>
    (f_J7_fill_53178 (a0 + 5) 12 (nI 0) s4).bind fun s5 =>
    (f_J7_fill_53178 (a0 + 6) 84 (nI 0) s5).bind fun s6 =>
    (f_J7_fill_53178 (a0 + 7) 12 (nI 0) s6).bind fun s7 =>
    (pfI s7 a0 8 (nI 0)).bind fun s8 =>
    f_X0_gather_78 a0 FU x1 (nI 0) s8
theorem e_X0_gather {G : GP} {a0 : Nat} {x1 : Int32} {σ : ST} {s : ST} (h0 : AS a0) (h : f_X0_gather a0 x1 σ = some s) : E G mX0_gather (2, 45) 0 [.ref a0, .int x1, D0, D0] [] (mem σ) (QV s) := by
  unfold f_X0_gather at h
  refine E_aload_n (pc := 0) rfl dX0_gather_0 ?_
  refine R_getR (pc := 1) (b := a0 + 1) f0_9 dX0_gather_1 (ent_st h0.1) (by decide) rfl rfl ?_
  refine E_iconst (pc := 4) 0 rfl dX0_gather_4 ?_
  obtain ⟨s1, hp, h⟩ := bd_some h
  refine E_callS (pc := 5) (As := [_, _]) (fc := (0, 0)) s0_41 oJ7_fill_53178 dX0_gather_5 rfl rfl (Nat.le_of_ble_eq_true rfl) rfl rfl (by decide) (e_J7_fill_53178 ⟨h0.2.1, (by decide)⟩ hp) (fun rv_ M_ hq_ => ?_)
  obtain ⟨rfl, rfl⟩ := hq_
  refine E_aload_n (pc := 8) rfl dX0_gather_8 ?_
  refine R_getR (pc := 9) (b := a0 + 2) f0_15 dX0_gather_9 (ent_st h0.1) (by decide) rfl rfl ?_
  refine E_iconst (pc := 12) 0 rfl dX0_gather_12 ?_
  obtain ⟨s2, hp, h⟩ := bd_some h
  refine E_callS (pc := 13) (As := [_, _]) (fc := (0, 0)) s0_41 oJ7_fill_53178 dX0_gather_13 rfl rfl (Nat.le_of_ble_eq_true rfl) rfl rfl (by decide) (e_J7_fill_53178 ⟨h0.2.2.1, (by decide)⟩ hp) (fun rv_ M_ hq_ => ?_)
  obtain ⟨rfl, rfl⟩ := hq_
  refine E_aload_n (pc := 16) rfl dX0_gather_16 ?_
  refine R_getR (pc := 17) (b := a0 + 3) f0_18 dX0_gather_17 (ent_st h0.1) (by decide) rfl rfl ?_
  refine E_sipush (pc := 20) (nI 255) (by decide) dX0_gather_20 ?_
  obtain ⟨s3, hp, h⟩ := bd_some h
  refine E_callS (pc := 23) (As := [_, _]) (fc := (0, 0)) s0_41 oJ7_fill_53178 dX0_gather_23 rfl rfl (Nat.le_of_ble_eq_true rfl) rfl rfl (by decide) (e_J7_fill_53178 ⟨h0.2.2.2.1, (by decide)⟩ hp) (fun rv_ M_ hq_ => ?_)
  obtain ⟨rfl, rfl⟩ := hq_
  refine E_aload_n (pc := 26) rfl dX0_gather_26 ?_
  refine R_getR (pc := 27) (b := a0 + 4) f0_21 dX0_gather_27 (ent_st h0.1) (by decide) rfl rfl ?_
  refine E_bipush (pc := 30) (nI 64) (by decide) dX0_gather_30 ?_
  refine E_iconst (pc := 32) 1 rfl dX0_gather_32 ?_
  refine E_aload_n (pc := 33) rfl dX0_gather_33 ?_
  refine R_getR (pc := 34) (b := 2) f0_37 dX0_gather_34 (ent_st h0.1) (by decide) rfl rfl ?_
  refine R_getI (pc := 37) f0_47 dX0_gather_37 (ent_st WO2.1) (by decide) rfl ?_
  refine E_ishl (pc := 40) dX0_gather_40 ?_
  refine E_iconst (pc := 41) 1 rfl dX0_gather_41 ?_
  refine E_isub (pc := 42) dX0_gather_42 ?_
  refine E_ior (pc := 43) dX0_gather_43 ?_
  obtain ⟨s4, hp, h⟩ := bd_some h
  refine E_callS (pc := 44) (As := [_, _]) (fc := (0, 0)) s0_41 oJ7_fill_53178 dX0_gather_44 rfl rfl (Nat.le_of_ble_eq_true rfl) rfl rfl (by decide) (e_J7_fill_53178 ⟨h0.2.2.2.2.1, (by decide)⟩ hp) (fun rv_ M_ hq_ => ?_)
  obtain ⟨rfl, rfl⟩ := hq_
  refine E_aload_n (pc := 47) rfl dX0_gather_47 ?_
  refine R_getR (pc := 48) (b := a0 + 5) f0_24 dX0_gather_48 (ent_st h0.1) (by decide) rfl rfl ?_
  refine E_iconst (pc := 51) 0 rfl dX0_gather_51 ?_
  obtain ⟨s5, hp, h⟩ := bd_some h
  refine E_callS (pc := 52) (As := [_, _]) (fc := (0, 0)) s0_41 oJ7_fill_53178 dX0_gather_52 rfl rfl (Nat.le_of_ble_eq_true rfl) rfl rfl (by decide) (e_J7_fill_53178 ⟨h0.2.2.2.2.2.1, (by decide)⟩ hp) (fun rv_ M_ hq_ => ?_)
  obtain ⟨rfl, rfl⟩ := hq_
  refine E_aload_n (pc := 55) rfl dX0_gather_55 ?_
  refine R_getR (pc := 56) (b := a0 + 6) f0_27 dX0_gather_56 (ent_st h0.1) (by decide) rfl rfl ?_
  refine E_iconst (pc := 59) 0 rfl dX0_gather_59 ?_
  obtain ⟨s6, hp, h⟩ := bd_some h
  refine E_callS (pc := 60) (As := [_, _]) (fc := (0, 0)) s0_41 oJ7_fill_53178 dX0_gather_60 rfl rfl (Nat.le_of_ble_eq_true rfl) rfl rfl (by decide) (e_J7_fill_53178 ⟨h0.2.2.2.2.2.2.1, (by decide)⟩ hp) (fun rv_ M_ hq_ => ?_)
  obtain ⟨rfl, rfl⟩ := hq_
  refine E_aload_n (pc := 63) rfl dX0_gather_63 ?_
  refine R_getR (pc := 64) (b := a0 + 7) f0_30 dX0_gather_64 (ent_st h0.1) (by decide) rfl rfl ?_
  refine E_iconst (pc := 67) 0 rfl dX0_gather_67 ?_
  obtain ⟨s7, hp, h⟩ := bd_some h
  refine E_callS (pc := 68) (As := [_, _]) (fc := (0, 0)) s0_41 oJ7_fill_53178 dX0_gather_68 rfl rfl (Nat.le_of_ble_eq_true rfl) rfl rfl (by decide) (e_J7_fill_53178 ⟨h0.2.2.2.2.2.2.2, (by decide)⟩ hp) (fun rv_ M_ hq_ => ?_)
  obtain ⟨rfl, rfl⟩ := hq_
  refine E_aload_n (pc := 71) rfl dX0_gather_71 ?_
  refine E_iconst (pc := 72) 0 rfl dX0_gather_72 ?_
  refine T_putI (pc := 73) f0_33 dX0_gather_73 (ent_st h0.1) (by decide) rfl (by decide +kernel) h (fun s8 h => ?_)
  refine E_iconst (pc := 76) 0 rfl dX0_gather_76 ?_
  refine E_istore_n (pc := 77) (L2 := [_, _, _, _]) rfl rfl dX0_gather_77 ?_
  refine e_X0_gather_78 h0 FU h
noncomputable def f_X0_allows (a0 : Nat) (x1 : Int32) (x2 : Int32) (x3 : Int32) (σ : ST) : Option (Int32 × ST) :=
    (rdI σ (a0 + 1) 12 x1).bind fun v1 =>
    (rdI σ (a0 + 1) 12 x1).bind fun v2 =>
    if (x2 &&& v1) = v2 then
    ((rdI σ (a0 + 2) 12 x1).bind fun v3 =>
    if (x2 &&& v3) = 0 then
    ((rdI σ (a0 + 3) 12 x1).bind fun v4 =>
    if ((v4 >>> (x3 &&& 31)) &&& (nI 1)) = 0 then
    (some ((nI 0), σ))
    else (some ((nI 1), σ)))
    else (some ((nI 0), σ)))
    else (some ((nI 0), σ))
theorem e_X0_allows {G : GP} {a0 : Nat} {x1 : Int32} {x2 : Int32} {x3 : Int32} {σ : ST} {v : Int32} {s : ST} (h0 : AS a0) (h : f_X0_allows a0 x1 x2 x3 σ = some (v, s)) : E G mX0_allows (0, 0) 0 [.ref a0, .int x1, .int x2, .int x3] [] (mem σ) (QI v s) := by
  unfold f_X0_allows at h
  refine E_iload_n (pc := 0) rfl dX0_allows_0 ?_
  refine E_aload_n (pc := 1) rfl dX0_allows_1 ?_
  refine R_getR (pc := 2) (b := a0 + 1) f0_9 dX0_allows_2 (ent_st h0.1) (by decide) rfl rfl ?_
  refine E_iload_n (pc := 5) rfl dX0_allows_5 ?_
  refine T_iald (pc := 6) dX0_allows_6 (ent_st h0.2.1) (by decide) h (fun v1 h => ?_)
  refine E_iand (pc := 7) dX0_allows_7 ?_
  refine E_aload_n (pc := 8) rfl dX0_allows_8 ?_
  refine R_getR (pc := 9) (b := a0 + 1) f0_9 dX0_allows_9 (ent_st h0.1) (by decide) rfl rfl ?_
  refine E_iload_n (pc := 12) rfl dX0_allows_12 ?_
  refine T_iald (pc := 13) dX0_allows_13 (ent_st h0.2.1) (by decide) h (fun v2 h => ?_)
  refine T_icmp_ne (pc := 14) 45 dX0_allows_14 (by decide) h (fun h => ?_) (fun h => ?_)
  · refine E_iconst (pc := 45) 0 rfl dX0_allows_45 ?_
    exact E_ireturn (pc := 46) rfl (by decide) dX0_allows_46 (QI_of h)
  · refine E_iload_n (pc := 17) rfl dX0_allows_17 ?_
    refine E_aload_n (pc := 18) rfl dX0_allows_18 ?_
    refine R_getR (pc := 19) (b := a0 + 2) f0_15 dX0_allows_19 (ent_st h0.1) (by decide) rfl rfl ?_
    refine E_iload_n (pc := 22) rfl dX0_allows_22 ?_
    refine T_iald (pc := 23) dX0_allows_23 (ent_st h0.2.2.1) (by decide) h (fun v3 h => ?_)
    refine E_iand (pc := 24) dX0_allows_24 ?_
    refine T_if_ne (pc := 25) 45 dX0_allows_25 (by decide) h (fun h => ?_) (fun h => ?_)
    · refine E_iconst (pc := 45) 0 rfl dX0_allows_45 ?_
      exact E_ireturn (pc := 46) rfl (by decide) dX0_allows_46 (QI_of h)
    · refine E_aload_n (pc := 28) rfl dX0_allows_28 ?_
      refine R_getR (pc := 29) (b := a0 + 3) f0_18 dX0_allows_29 (ent_st h0.1) (by decide) rfl rfl ?_
      refine E_iload_n (pc := 32) rfl dX0_allows_32 ?_
      refine T_iald (pc := 33) dX0_allows_33 (ent_st h0.2.2.2.1) (by decide) h (fun v4 h => ?_)
      refine E_iload_n (pc := 34) rfl dX0_allows_34 ?_
      refine E_ishr (pc := 35) dX0_allows_35 ?_
      refine E_iconst (pc := 36) 1 rfl dX0_allows_36 ?_
      refine E_iand (pc := 37) dX0_allows_37 ?_
      refine T_if_eq (pc := 38) 45 dX0_allows_38 (by decide) h (fun h => ?_) (fun h => ?_)
      · refine E_iconst (pc := 45) 0 rfl dX0_allows_45 ?_
        exact E_ireturn (pc := 46) rfl (by decide) dX0_allows_46 (QI_of h)
      · refine E_iconst (pc := 41) 1 rfl dX0_allows_41 ?_
        refine E_goto (pc := 42) 46 (by decide) dX0_allows_42 ?_
        exact E_ireturn (pc := 46) rfl (by decide) dX0_allows_46 (QI_of h)
noncomputable def f_X0_mayChoose (a0 : Nat) (x1 : Int32) (x2 : Int32) (σ : ST) : Option (Int32 × ST) :=
    (rdI σ (a0 + 4) 12 x1).bind fun v1 =>
    if ((v1 >>> (x2 &&& 31)) &&& (nI 1)) = 0 then
    (some ((nI 0), σ))
    else (some ((nI 1), σ))
theorem e_X0_mayChoose {G : GP} {a0 : Nat} {x1 : Int32} {x2 : Int32} {σ : ST} {v : Int32} {s : ST} (h0 : AS a0) (h : f_X0_mayChoose a0 x1 x2 σ = some (v, s)) : E G mX0_mayChoose (0, 0) 0 [.ref a0, .int x1, .int x2] [] (mem σ) (QI v s) := by
  unfold f_X0_mayChoose at h
  refine E_aload_n (pc := 0) rfl dX0_mayChoose_0 ?_
  refine R_getR (pc := 1) (b := a0 + 4) f0_21 dX0_mayChoose_1 (ent_st h0.1) (by decide) rfl rfl ?_
  refine E_iload_n (pc := 4) rfl dX0_mayChoose_4 ?_
  refine T_iald (pc := 5) dX0_mayChoose_5 (ent_st h0.2.2.2.2.1) (by decide) h (fun v1 h => ?_)
  refine E_iload_n (pc := 6) rfl dX0_mayChoose_6 ?_
  refine E_ishr (pc := 7) dX0_mayChoose_7 ?_
  refine E_iconst (pc := 8) 1 rfl dX0_mayChoose_8 ?_
  refine E_iand (pc := 9) dX0_mayChoose_9 ?_
  refine T_if_eq (pc := 10) 17 dX0_mayChoose_10 (by decide) h (fun h => ?_) (fun h => ?_)
  · refine E_iconst (pc := 17) 0 rfl dX0_mayChoose_17 ?_
    exact E_ireturn (pc := 18) rfl (by decide) dX0_mayChoose_18 (QI_of h)
  · refine E_iconst (pc := 13) 1 rfl dX0_mayChoose_13 ?_
    refine E_goto (pc := 14) 18 (by decide) dX0_mayChoose_14 ?_
    exact E_ireturn (pc := 18) rfl (by decide) dX0_mayChoose_18 (QI_of h)
noncomputable def f_X0_flagsAfter (a0 : Nat) (x1 : Int32) (x2 : Int32) (x3 : Int32) (σ : ST) : Option (Int32 × ST) :=
    (rdI σ (a0 + 6) 84 ((x2 * (nI 7)) + x3)).bind fun v1 =>
    (rdI σ (a0 + 7) 12 x2).bind fun v2 =>
    (rdI σ (a0 + 7) 12 x2).bind fun v3 =>
    if ((x1 ||| v1) &&& v2) = v3 then
    (some ((x1 ||| v1), σ))
    else (some ((-1), σ))
theorem e_X0_flagsAfter {G : GP} {a0 : Nat} {x1 : Int32} {x2 : Int32} {x3 : Int32} {σ : ST} {v : Int32} {s : ST} (h0 : AS a0) (h : f_X0_flagsAfter a0 x1 x2 x3 σ = some (v, s)) : E G mX0_flagsAfter (0, 0) 0 [.ref a0, .int x1, .int x2, .int x3, D0] [] (mem σ) (QI v s) := by
  unfold f_X0_flagsAfter at h
  refine E_iload_n (pc := 0) rfl dX0_flagsAfter_0 ?_
  refine E_aload_n (pc := 1) rfl dX0_flagsAfter_1 ?_
  refine R_getR (pc := 2) (b := a0 + 6) f0_27 dX0_flagsAfter_2 (ent_st h0.1) (by decide) rfl rfl ?_
  refine E_iload_n (pc := 5) rfl dX0_flagsAfter_5 ?_
  refine E_bipush (pc := 6) (nI 7) (by decide) dX0_flagsAfter_6 ?_
  refine E_imul (pc := 8) dX0_flagsAfter_8 ?_
  refine E_iload_n (pc := 9) rfl dX0_flagsAfter_9 ?_
  refine E_iadd (pc := 10) dX0_flagsAfter_10 ?_
  refine T_iald (pc := 11) dX0_flagsAfter_11 (ent_st h0.2.2.2.2.2.2.1) (by decide) h (fun v1 h => ?_)
  refine E_ior (pc := 12) dX0_flagsAfter_12 ?_
  refine E_istore (pc := 13) (L2 := [_, _, _, _, _]) rfl rfl dX0_flagsAfter_13 ?_
  refine E_iload (pc := 15) rfl dX0_flagsAfter_15 ?_
  refine E_aload_n (pc := 17) rfl dX0_flagsAfter_17 ?_
  refine R_getR (pc := 18) (b := a0 + 7) f0_30 dX0_flagsAfter_18 (ent_st h0.1) (by decide) rfl rfl ?_
  refine E_iload_n (pc := 21) rfl dX0_flagsAfter_21 ?_
  refine T_iald (pc := 22) dX0_flagsAfter_22 (ent_st h0.2.2.2.2.2.2.2) (by decide) h (fun v2 h => ?_)
  refine E_iand (pc := 23) dX0_flagsAfter_23 ?_
  refine E_aload_n (pc := 24) rfl dX0_flagsAfter_24 ?_
  refine R_getR (pc := 25) (b := a0 + 7) f0_30 dX0_flagsAfter_25 (ent_st h0.1) (by decide) rfl rfl ?_
  refine E_iload_n (pc := 28) rfl dX0_flagsAfter_28 ?_
  refine T_iald (pc := 29) dX0_flagsAfter_29 (ent_st h0.2.2.2.2.2.2.2) (by decide) h (fun v3 h => ?_)
  refine T_icmp_ne (pc := 30) 38 dX0_flagsAfter_30 (by decide) h (fun h => ?_) (fun h => ?_)
  · refine E_im1 (pc := 38) dX0_flagsAfter_38 ?_
    exact E_ireturn (pc := 39) rfl rfl dX0_flagsAfter_39 (QI_of h)
  · refine E_iload (pc := 33) rfl dX0_flagsAfter_33 ?_
    refine E_goto (pc := 35) 39 (by decide) dX0_flagsAfter_35 ?_
    exact E_ireturn (pc := 39) rfl rfl dX0_flagsAfter_39 (QI_of h)
noncomputable def f_X0_costOf_29 (a0 : Nat) (x2 : Int32) (z0 : Int32) (sg : ST) : Option (Int32 × ST) :=
    if z0 = 0 then
    ((ixR 6 x2).bind fun j1 =>
    some ((sg.1 (2 + 57 + 6 * j1) 4), sg))
    else (some ((nI 0), sg))
theorem e_X0_costOf_29 {G : GP} {a0 : Nat} {x2 : Int32} {z0 : Int32} {sg : ST} {v : Int32} {s : ST} (h0 : AS a0) (h : f_X0_costOf_29 a0 x2 z0 sg = some (v, s)) : E G mX0_costOf (0, 0) 29 [.ref a0, D0, .int x2, D0] [.int z0] (mem sg) (QI v s) := by
  unfold f_X0_costOf_29 at h
  refine E_istore_n (pc := 29) (L2 := [_, _, _, _]) rfl rfl dX0_costOf_29 ?_
  refine E_iload_n (pc := 30) rfl dX0_costOf_30 ?_
  refine T_if_eq (pc := 31) 38 dX0_costOf_31 (by decide) h (fun h => ?_) (fun h => ?_)
  · refine E_aload_n (pc := 38) rfl dX0_costOf_38 ?_
    refine R_getR (pc := 39) (b := 2) f0_37 dX0_costOf_39 (ent_st h0.1) (by decide) rfl rfl ?_
    refine R_getR (pc := 42) (b := 6) f0_92 dX0_costOf_42 (ent_st WO2.1) (by decide) rfl rfl ?_
    refine E_iload_n (pc := 45) rfl dX0_costOf_45 ?_
    refine T_rald (pc := 46) (b := fun i => 2 + 57 + 6 * i) dX0_costOf_46 (ent_st WO2.2.2.2.2.1) (by decide) (by decide) h (fun j1 hj1 h => ?_)
    refine R_getI (pc := 47) f0_96 dX0_costOf_47 (ent_st (LA_w 2 (Or.inl rfl) j1 hj1).1) (by decide) rfl ?_
    exact E_ireturn (pc := 50) rfl rfl dX0_costOf_50 (QI_of h)
  · refine E_iconst (pc := 34) 0 rfl dX0_costOf_34 ?_
    refine E_goto (pc := 35) 50 (by decide) dX0_costOf_35 ?_
    exact E_ireturn (pc := 50) rfl rfl dX0_costOf_50 (QI_of h)
noncomputable def f_X0_costOf_24 (a0 : Nat) (x2 : Int32) (sg : ST) : Option (Int32 × ST) :=
    f_X0_costOf_29 a0 x2 (nI 1) sg
theorem e_X0_costOf_24 {G : GP} {a0 : Nat} {x2 : Int32} {sg : ST} {v : Int32} {s : ST} (h0 : AS a0) (h : f_X0_costOf_24 a0 x2 sg = some (v, s)) : E G mX0_costOf (0, 0) 24 [.ref a0, D0, .int x2, D0] [] (mem sg) (QI v s) := by
  unfold f_X0_costOf_24 at h
  refine E_iconst (pc := 24) 1 rfl dX0_costOf_24 ?_
  refine E_goto (pc := 25) 29 (by decide) dX0_costOf_25 ?_
  refine e_X0_costOf_29 h0 h
noncomputable def f_X0_costOf (a0 : Nat) (x1 : Int32) (x2 : Int32) (σ : ST) : Option (Int32 × ST) :=
    if x2 < (σ.1 2 1) then
    ((rdI σ (a0 + 5) 12 x1).bind fun v2 =>
    if ((v2 >>> (x2 &&& 31)) &&& (nI 1)) = 0 then
    (f_X0_costOf_29 a0 x2 (nI 0) σ)
    else (f_X0_costOf_24 a0 x2 σ))
    else (f_X0_costOf_24 a0 x2 σ)
theorem e_X0_costOf {G : GP} {a0 : Nat} {x1 : Int32} {x2 : Int32} {σ : ST} {v : Int32} {s : ST} (h0 : AS a0) (h : f_X0_costOf a0 x1 x2 σ = some (v, s)) : E G mX0_costOf (0, 0) 0 [.ref a0, .int x1, .int x2, D0] [] (mem σ) (QI v s) := by
  unfold f_X0_costOf at h
  refine E_iload_n (pc := 0) rfl dX0_costOf_0 ?_
  refine E_aload_n (pc := 1) rfl dX0_costOf_1 ?_
  refine R_getR (pc := 2) (b := 2) f0_37 dX0_costOf_2 (ent_st h0.1) (by decide) rfl rfl ?_
  refine R_getI (pc := 5) f0_47 dX0_costOf_5 (ent_st WO2.1) (by decide) rfl ?_
  refine T_icmp_ge (pc := 8) 24 dX0_costOf_8 (by decide) h (fun h => ?_) (fun h => ?_)
  · refine E_kp [true, false, true, false] (L2 := [_, D0, _, D0]) rfl rfl ?_
    refine e_X0_costOf_24 h0 h
  · refine E_aload_n (pc := 11) rfl dX0_costOf_11 ?_
    refine R_getR (pc := 12) (b := a0 + 5) f0_24 dX0_costOf_12 (ent_st h0.1) (by decide) rfl rfl ?_
    refine E_iload_n (pc := 15) rfl dX0_costOf_15 ?_
    refine T_iald (pc := 16) dX0_costOf_16 (ent_st h0.2.2.2.2.2.1) (by decide) h (fun v2 h => ?_)
    refine E_iload_n (pc := 17) rfl dX0_costOf_17 ?_
    refine E_ishr (pc := 18) dX0_costOf_18 ?_
    refine E_iconst (pc := 19) 1 rfl dX0_costOf_19 ?_
    refine E_iand (pc := 20) dX0_costOf_20 ?_
    refine T_if_eq (pc := 21) 28 dX0_costOf_21 (by decide) h (fun h => ?_) (fun h => ?_)
    · refine E_iconst (pc := 28) 0 rfl dX0_costOf_28 ?_
      refine E_kp [true, false, true, false] (L2 := [_, D0, _, D0]) rfl rfl ?_
      refine e_X0_costOf_29 h0 h
    · refine E_kp [true, false, true, false] (L2 := [_, D0, _, D0]) rfl rfl ?_
      refine e_X0_costOf_24 h0 h
