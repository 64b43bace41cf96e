/-! ===== functions: 34.tlW ===== -/
noncomputable def f_X10_countOf_4 : Nat → Int32 → Int32 → Int32 → ST → Option (Int32 × ST)
  | 0, _, _, _, _ => none
  | n + 1, x1, x2, x3, sg =>
    if x3 < (sg.1 2 0) then
    ((rdI sg 3 10 x3).bind fun v1 =>
    if v1 = x1 then
    ((f_X10_countOf_4 n) x1 (x2 + nI 1) (x3 + nI 1) sg)
    else ((f_X10_countOf_4 n) x1 x2 (x3 + nI 1) sg))
    else (some (x2, sg))
theorem e_X10_countOf_4 {G : GP} {v : Int32} {s : ST}  : ∀ (n : Nat) {x1 : Int32} {x2 : Int32} {x3 : Int32} {sg : ST}, f_X10_countOf_4 n x1 x2 x3 sg = some (v, s) → E G mX10_countOf (0, 0) 4 [.ref 2, .int x1, .int x2, .int x3] [] (mem sg) (QI v s) := by
  intro n
  induction n with
  | zero => intro _ _ _ _ h; rw [f_X10_countOf_4] at h; cases h
  | succ n ih =>
    intro x1 x2 x3 sg h
    rw [f_X10_countOf_4] at h
    refine E_iload_n (pc := 4) rfl dX10_countOf_4 ?_
    refine E_aload_n (pc := 5) rfl dX10_countOf_5 ?_
    refine R_getI (pc := 6) f10_9 dX10_countOf_6 (ent_st WO2.1) (by decide) rfl ?_
    refine T_icmp_ge (pc := 9) 31 dX10_countOf_9 (by decide) h (fun h => ?_) (fun h => ?_)
    · refine E_iload_n (pc := 31) rfl dX10_countOf_31 ?_
      exact E_ireturn (pc := 32) rfl rfl dX10_countOf_32 (QI_of h)
    · refine E_aload_n (pc := 12) rfl dX10_countOf_12 ?_
      refine R_getR (pc := 13) (b := 3) f10_24 dX10_countOf_13 (ent_st WO2.1) (by decide) rfl rfl ?_
      refine E_iload_n (pc := 16) rfl dX10_countOf_16 ?_
      refine T_iald (pc := 17) dX10_countOf_17 (ent_st WO2.2.1) (by decide) h (fun v1 h => ?_)
      refine E_iload_n (pc := 18) rfl dX10_countOf_18 ?_
      refine T_icmp_ne (pc := 19) 25 dX10_countOf_19 (by decide) h (fun h => ?_) (fun h => ?_)
      · refine T_iinc (pc := 25) (m := 1) (L2 := [_, _, _, _]) rfl rfl rfl rfl dX10_countOf_25 ?_
        refine E_goto (pc := 28) 4 (by decide) dX10_countOf_28 ?_
        exact ih h
      · refine T_iinc (pc := 22) (m := 1) (L2 := [_, _, _, _]) rfl rfl rfl rfl dX10_countOf_22 ?_
        refine T_iinc (pc := 25) (m := 1) (L2 := [_, _, _, _]) rfl rfl rfl rfl dX10_countOf_25 ?_
        refine E_goto (pc := 28) 4 (by decide) dX10_countOf_28 ?_
        exact ih h
noncomputable def f_X10_countOf (x1 : Int32) (σ : ST) : Option (Int32 × ST) :=
    f_X10_countOf_4 FU x1 (nI 0) (nI 0) σ
theorem e_X10_countOf {G : GP} {x1 : Int32} {σ : ST} {v : Int32} {s : ST}  (h : f_X10_countOf x1 σ = some (v, s)) : E G mX10_countOf (0, 0) 0 [.ref 2, .int x1, D0, D0] [] (mem σ) (QI v s) := by
  unfold f_X10_countOf at h
  refine E_iconst (pc := 0) 0 rfl dX10_countOf_0 ?_
  refine E_istore_n (pc := 1) (L2 := [_, _, _, _]) rfl rfl dX10_countOf_1 ?_
  refine E_iconst (pc := 2) 0 rfl dX10_countOf_2 ?_
  refine E_istore_n (pc := 3) (L2 := [_, _, _, _]) rfl rfl dX10_countOf_3 ?_
  refine e_X10_countOf_4  FU h
noncomputable def f_X10_lowStates (σ : ST) : Option (Int32 × ST) :=
    bd2 (f_X10_countOf (nI 3) σ) fun v2 s1 =>
    if v2 = 0 then
    (bd2 (f_X10_countOf (nI 1) s1) fun v6 s5 =>
    some (((nI 1) <<< (v6 &&& 31)), s5))
    else (bd2 (f_X10_countOf (nI 1) s1) fun v4 s3 =>
    some (((nI 8) <<< (v4 &&& 31)), s3))
theorem e_X10_lowStates {G : GP} {σ : ST} {v : Int32} {s : ST}  (h : f_X10_lowStates σ = some (v, s)) : E G mX10_lowStates (1, 23) 0 [.ref 2] [] (mem σ) (QI v s) := by
  unfold f_X10_lowStates at h
  refine E_aload_n (pc := 0) rfl dX10_lowStates_0 ?_
  refine E_iconst (pc := 1) 3 rfl dX10_lowStates_1 ?_
  obtain ⟨v2, s1, hp, h⟩ := bd2_some h
  refine E_callV (pc := 2) (As := [_]) (fc := (0, 0)) s10_73_10 oX10_countOf dX10_lowStates_2 (mem_ob (ent_st WO2.1)) rfl rfl (Nat.le_of_ble_eq_true rfl) rfl rfl (by decide) (e_X10_countOf hp) (fun rv_ M_ hq_ => ?_)
  obtain ⟨rfl, rfl⟩ := hq_
  refine T_if_ne (pc := 5) 12 dX10_lowStates_5 (by decide) h (fun h => ?_) (fun h => ?_)
  · refine E_bipush (pc := 12) (nI 8) (by decide) dX10_lowStates_12 ?_
    refine E_aload_n (pc := 14) rfl dX10_lowStates_14 ?_
    refine E_iconst (pc := 15) 1 rfl dX10_lowStates_15 ?_
    obtain ⟨v4, s3, hp, h⟩ := bd2_some h
    refine E_callV (pc := 16) (As := [_]) (fc := (0, 0)) s10_73_10 oX10_countOf dX10_lowStates_16 (mem_ob (ent_st WO2.1)) rfl rfl (Nat.le_of_ble_eq_true rfl) rfl rfl (by decide) (e_X10_countOf hp) (fun rv_ M_ hq_ => ?_)
    obtain ⟨rfl, rfl⟩ := hq_
    refine E_ishl (pc := 19) dX10_lowStates_19 ?_
    exact E_ireturn (pc := 20) rfl rfl dX10_lowStates_20 (QI_of h)
  · refine E_iconst (pc := 8) 1 rfl dX10_lowStates_8 ?_
    refine E_goto (pc := 9) 14 (by decide) dX10_lowStates_9 ?_
    refine E_aload_n (pc := 14) rfl dX10_lowStates_14 ?_
    refine E_iconst (pc := 15) 1 rfl dX10_lowStates_15 ?_
    obtain ⟨v6, s5, hp, h⟩ := bd2_some h
    refine E_callV (pc := 16) (As := [_]) (fc := (0, 0)) s10_73_10 oX10_countOf dX10_lowStates_16 (mem_ob (ent_st WO2.1)) rfl rfl (Nat.le_of_ble_eq_true rfl) rfl rfl (by decide) (e_X10_countOf hp) (fun rv_ M_ hq_ => ?_)
    obtain ⟨rfl, rfl⟩ := hq_
    refine E_ishl (pc := 19) dX10_lowStates_19 ?_
    exact E_ireturn (pc := 20) rfl rfl dX10_lowStates_20 (QI_of h)
noncomputable def f_X10_freeLooks (σ : ST) : Option (Int32 × ST) :=
    bd2 (f_X10_countOf (nI 0) σ) fun v2 s1 =>
    some (((nI 1) <<< (v2 &&& 31)), s1)
theorem e_X10_freeLooks {G : GP} {σ : ST} {v : Int32} {s : ST}  (h : f_X10_freeLooks σ = some (v, s)) : E G mX10_freeLooks (1, 23) 0 [.ref 2] [] (mem σ) (QI v s) := by
  unfold f_X10_freeLooks at h
  refine E_iconst (pc := 0) 1 rfl dX10_freeLooks_0 ?_
  refine E_aload_n (pc := 1) rfl dX10_freeLooks_1 ?_
  refine E_iconst (pc := 2) 0 rfl dX10_freeLooks_2 ?_
  obtain ⟨v2, s1, hp, h⟩ := bd2_some h
  refine E_callV (pc := 3) (As := [_]) (fc := (0, 0)) s10_73_10 oX10_countOf dX10_freeLooks_3 (mem_ob (ent_st WO2.1)) rfl rfl (Nat.le_of_ble_eq_true rfl) rfl rfl (by decide) (e_X10_countOf hp) (fun rv_ M_ hq_ => ?_)
  obtain ⟨rfl, rfl⟩ := hq_
  refine E_ishl (pc := 6) dX10_freeLooks_6 ?_
  exact E_ireturn (pc := 7) rfl rfl dX10_freeLooks_7 (QI_of h)
noncomputable def f_X10_become_34 (a0 : Nat) (a1 : Nat) (k85 : ST → Option ST) : Nat → Int32 → ST → Option ST
  | 0, _, _ => none
  | n + 1, x2, sg =>
    if x2 < (nI 10) then
    ((rdI sg (a1 + 1) 10 x2).bind fun v5 =>
    (wrI sg (a0 + 1) 10 x2 v5).bind fun s6 =>
    (rdI s6 (a1 + 2) 10 x2).bind fun v7 =>
    (wrI s6 (a0 + 2) 10 x2 v7).bind fun s8 =>
    (ixR 10 x2).bind fun j9 =>
    (ixR 10 x2).bind fun j10 =>
    (f_X1_become (a0 + 7 + 5 * j9) (a1 + 7 + 5 * j10) s8).bind fun s11 =>
    (f_X10_become_34 a0 a1 k85 n) (x2 + nI 1) s11)
    else (k85 sg)
theorem e_X10_become_34 {G : GP} {a0 : Nat} {a1 : Nat} {k85 : ST → Option ST} {s : ST} (h0 : (a0 = 2 ∨ a0 = 95)) (h1 : (a1 = 2 ∨ a1 = 95)) (hk85 : ∀ {sg : ST}, k85 sg = some s → E G mX10_become (3, 102) 85 [.ref a0, .ref a1, D0] [] (mem sg) (QV s)) : ∀ (n : Nat) {x2 : Int32} {sg : ST}, f_X10_become_34 a0 a1 k85 n x2 sg = some s → E G mX10_become (3, 102) 34 [.ref a0, .ref a1, .int x2] [] (mem sg) (QV s) := by
  intro n
  induction n with
  | zero => intro _ _ h; rw [f_X10_become_34] at h; cases h
  | succ n ih =>
    intro x2 sg h
    rw [f_X10_become_34] at h
    refine E_iload_n (pc := 34) rfl dX10_become_34 ?_
    refine E_bipush (pc := 35) (nI 10) (by decide) dX10_become_35 ?_
    refine T_icmp_ge (pc := 37) 85 dX10_become_37 (by decide) h (fun h => ?_) (fun h => ?_)
    · refine E_kp [true, true, false] (L2 := [_, _, D0]) rfl rfl ?_
      exact hk85 h
    · refine E_aload_n (pc := 40) rfl dX10_become_40 ?_
      refine R_getR (pc := 41) (b := a0 + 1) f10_24 dX10_become_41 (ent_st (WO_of h0).1) (by decide) rfl rfl ?_
      refine E_iload_n (pc := 44) rfl dX10_become_44 ?_
      refine E_aload_n (pc := 45) rfl dX10_become_45 ?_
      refine R_getR (pc := 46) (b := a1 + 1) f10_24 dX10_become_46 (ent_st (WO_of h1).1) (by decide) rfl rfl ?_
      refine E_iload_n (pc := 49) rfl dX10_become_49 ?_
      refine T_iald (pc := 50) dX10_become_50 (ent_st (WO_of h1).2.1) (by decide) h (fun v5 h => ?_)
      refine T_iast (pc := 51) dX10_become_51 (ent_st (WO_of h0).2.1) (by decide) h (fun s6 h => ?_)
      refine E_aload_n (pc := 52) rfl dX10_become_52 ?_
      refine R_getR (pc := 53) (b := a0 + 2) f10_28 dX10_become_53 (ent_st (WO_of h0).1) (by decide) rfl rfl ?_
      refine E_iload_n (pc := 56) rfl dX10_become_56 ?_
      refine E_aload_n (pc := 57) rfl dX10_become_57 ?_
      refine R_getR (pc := 58) (b := a1 + 2) f10_28 dX10_become_58 (ent_st (WO_of h1).1) (by decide) rfl rfl ?_
      refine E_iload_n (pc := 61) rfl dX10_become_61 ?_
      refine T_iald (pc := 62) dX10_become_62 (ent_st (WO_of h1).2.2.1) (by decide) h (fun v7 h => ?_)
      refine T_iast (pc := 63) dX10_become_63 (ent_st (WO_of h0).2.2.1) (by decide) h (fun s8 h => ?_)
      refine E_aload_n (pc := 64) rfl dX10_become_64 ?_
      refine R_getR (pc := 65) (b := a0 + 3) f10_33 dX10_become_65 (ent_st (WO_of h0).1) (by decide) rfl rfl ?_
      refine E_iload_n (pc := 68) rfl dX10_become_68 ?_
      refine T_rald (pc := 69) (b := fun i => a0 + 7 + 5 * i) dX10_become_69 (ent_st (WO_of h0).2.2.2.1) (by decide) (by decide) h (fun j9 hj9 h => ?_)
      refine E_aload_n (pc := 70) rfl dX10_become_70 ?_
      refine R_getR (pc := 71) (b := a1 + 3) f10_33 dX10_become_71 (ent_st (WO_of h1).1) (by decide) rfl rfl ?_
      refine E_iload_n (pc := 74) rfl dX10_become_74 ?_
      refine T_rald (pc := 75) (b := fun i => a1 + 7 + 5 * i) dX10_become_75 (ent_st (WO_of h1).2.2.2.1) (by decide) (by decide) h (fun j10 hj10 h => ?_)
      obtain ⟨s11, hp, h⟩ := bd_some h
      refine E_callV (pc := 76) (As := [_]) (fc := (1, 60)) s10_60_1 oX1_become dX10_become_76 (mem_ob (ent_st (CO_w a0 h0 j9 hj9).1)) rfl rfl (Nat.le_of_ble_eq_true rfl) rfl rfl (by decide) (e_X1_become (CO_w a0 h0 j9 hj9) (CO_w a1 h1 j10 hj10) hp) (fun rv_ M_ hq_ => ?_)
      obtain ⟨rfl, rfl⟩ := hq_
      refine T_iinc (pc := 79) (m := 1) (L2 := [_, _, _]) rfl rfl rfl rfl dX10_become_79 ?_
      refine E_goto (pc := 82) 34 (by decide) dX10_become_82 ?_
      exact ih h
noncomputable def f_X10_become_87 (a0 : Nat) (a1 : Nat) (k114 : ST → Option ST) : Nat → Int32 → ST → Option ST
  | 0, _, _ => none
  | n + 1, x2, sg =>
    if x2 < (nI 6) then
    ((ixR 6 x2).bind fun j13 =>
    (ixR 6 x2).bind fun j14 =>
    (f_X3_become (a0 + 57 + 6 * j13) (a1 + 57 + 6 * j14) sg).bind fun s15 =>
    (f_X10_become_87 a0 a1 k114 n) (x2 + nI 1) s15)
    else (k114 sg)
theorem e_X10_become_87 {G : GP} {a0 : Nat} {a1 : Nat} {k114 : ST → Option ST} {s : ST} (h0 : (a0 = 2 ∨ a0 = 95)) (h1 : (a1 = 2 ∨ a1 = 95)) (hk114 : ∀ {sg : ST}, k114 sg = some s → E G mX10_become (3, 102) 114 [.ref a0, .ref a1, D0] [] (mem sg) (QV s)) : ∀ (n : Nat) {x2 : Int32} {sg : ST}, f_X10_become_87 a0 a1 k114 n x2 sg = some s → E G mX10_become (3, 102) 87 [.ref a0, .ref a1, .int x2] [] (mem sg) (QV s) := by
  intro n
  induction n with
  | zero => intro _ _ h; rw [f_X10_become_87] at h; cases h
  | succ n ih =>
    intro x2 sg h
    rw [f_X10_become_87] at h
    refine E_iload_n (pc := 87) rfl dX10_become_87 ?_
    refine E_bipush (pc := 88) (nI 6) (by decide) dX10_become_88 ?_
    refine T_icmp_ge (pc := 90) 114 dX10_become_90 (by decide) h (fun h => ?_) (fun h => ?_)
    · refine E_kp [true, true, false] (L2 := [_, _, D0]) rfl rfl ?_
      exact hk114 h
    · refine E_aload_n (pc := 93) rfl dX10_become_93 ?_
      refine R_getR (pc := 94) (b := a0 + 4) f10_39 dX10_become_94 (ent_st (WO_of h0).1) (by decide) rfl rfl ?_
      refine E_iload_n (pc := 97) rfl dX10_become_97 ?_
      refine T_rald (pc := 98) (b := fun i => a0 + 57 + 6 * i) dX10_become_98 (ent_st (WO_of h0).2.2.2.2.1) (by decide) (by decide) h (fun j13 hj13 h => ?_)
      refine E_aload_n (pc := 99) rfl dX10_become_99 ?_
      refine R_getR (pc := 100) (b := a1 + 4) f10_39 dX10_become_100 (ent_st (WO_of h1).1) (by decide) rfl rfl ?_
      refine E_iload_n (pc := 103) rfl dX10_become_103 ?_
      refine T_rald (pc := 104) (b := fun i => a1 + 57 + 6 * i) dX10_become_104 (ent_st (WO_of h1).2.2.2.2.1) (by decide) (by decide) h (fun j14 hj14 h => ?_)
      obtain ⟨s15, hp, h⟩ := bd_some h
      refine E_callV (pc := 105) (As := [_]) (fc := (2, 81)) s10_64_3 oX3_become dX10_become_105 (mem_ob (ent_st (LA_w a0 h0 j13 hj13).1)) rfl rfl (Nat.le_of_ble_eq_true rfl) rfl rfl (by decide) (e_X3_become (LA_w a0 h0 j13 hj13) (LA_w a1 h1 j14 hj14) hp) (fun rv_ M_ hq_ => ?_)
      obtain ⟨rfl, rfl⟩ := hq_
      refine T_iinc (pc := 108) (m := 1) (L2 := [_, _, _]) rfl rfl rfl rfl dX10_become_108 ?_
      refine E_goto (pc := 111) 87 (by decide) dX10_become_111 ?_
      exact ih h
noncomputable def f_X10_become_116 (a0 : Nat) (a1 : Nat) : Nat → Int32 → ST → Option ST
  | 0, _, _ => none
  | n + 1, x2, sg =>
    if x2 < (nI 16) then
    ((rdT sg (a1 + 5) 16 x2).bind fun q18 =>
    (wrT sg (a0 + 5) 16 x2 q18).bind fun s19 =>
    (f_X10_become_116 a0 a1 n) (x2 + nI 1) s19)
    else ((cpI sg (a1 + 6) 6 (a0 + 6) 6 (nI 0) (nI 0) (nI 6)).bind fun s17 =>
    some s17)
theorem e_X10_become_116 {G : GP} {a0 : Nat} {a1 : Nat} {s : ST} (h0 : (a0 = 2 ∨ a0 = 95)) (h1 : (a1 = 2 ∨ a1 = 95)) : ∀ (n : Nat) {x2 : Int32} {sg : ST}, f_X10_become_116 a0 a1 n x2 sg = some s → E G mX10_become (3, 102) 116 [.ref a0, .ref a1, .int x2] [] (mem sg) (QV s) := by
  intro n
  induction n with
  | zero => intro _ _ h; rw [f_X10_become_116] at h; cases h
  | succ n ih =>
    intro x2 sg h
    rw [f_X10_become_116] at h
    refine E_iload_n (pc := 116) rfl dX10_become_116 ?_
    refine E_bipush (pc := 117) (nI 16) (by decide) dX10_become_117 ?_
    refine T_icmp_ge (pc := 119) 140 dX10_become_119 (by decide) h (fun h => ?_) (fun h => ?_)
    · refine E_aload_n (pc := 140) rfl dX10_become_140 ?_
      refine R_getR (pc := 141) (b := a1 + 6) f10_49 dX10_become_141 (ent_st (WO_of h1).1) (by decide) rfl rfl ?_
      refine E_iconst (pc := 144) 0 rfl dX10_become_144 ?_
      refine E_aload_n (pc := 145) rfl dX10_become_145 ?_
      refine R_getR (pc := 146) (b := a0 + 6) f10_49 dX10_become_146 (ent_st (WO_of h0).1) (by decide) rfl rfl ?_
      refine E_iconst (pc := 149) 0 rfl dX10_become_149 ?_
      refine E_bipush (pc := 150) (nI 6) (by decide) dX10_become_150 ?_
      refine T_copyI (pc := 152) (by decide +kernel) (by decide) (Nat.le_of_ble_eq_true rfl) dX10_become_152 (ent_st (WO_of h1).2.2.2.2.2.2) (ent_st (WO_of h0).2.2.2.2.2.2) (by decide) h (fun s17 h => ?_)
      exact E_return (pc := 155) rfl dX10_become_155 (QV_of h)
    · refine E_aload_n (pc := 122) rfl dX10_become_122 ?_
      refine R_getR (pc := 123) (b := a0 + 5) f10_45 dX10_become_123 (ent_st (WO_of h0).1) (by decide) rfl rfl ?_
      refine E_iload_n (pc := 126) rfl dX10_become_126 ?_
      refine E_aload_n (pc := 127) rfl dX10_become_127 ?_
      refine R_getR (pc := 128) (b := a1 + 5) f10_45 dX10_become_128 (ent_st (WO_of h1).1) (by decide) rfl rfl ?_
      refine E_iload_n (pc := 131) rfl dX10_become_131 ?_
      refine T_tald (pc := 132) dX10_become_132 (ent_st (WO_of h1).2.2.2.2.2.1) (by decide) h (fun q18 h => ?_)
      refine T_tast (pc := 133) dX10_become_133 (ent_st (WO_of h0).2.2.2.2.2.1) (by decide) h (fun s19 h => ?_)
      refine T_iinc (pc := 134) (m := 1) (L2 := [_, _, _]) rfl rfl rfl rfl dX10_become_134 ?_
      refine E_goto (pc := 137) 116 (by decide) dX10_become_137 ?_
      exact ih h
noncomputable def f_X10_become (a0 : Nat) (a1 : Nat) (σ : ST) : Option ST :=
    (pfI σ a0 0 (σ.1 a1 0)).bind fun s1 =>
    (pfI s1 a0 1 (s1.1 a1 1)).bind fun s2 =>
    (pfI s2 a0 2 (s2.1 a1 2)).bind fun s3 =>
    (pfI s3 a0 3 (s3.1 a1 3)).bind fun s4 =>
    f_X10_become_34 a0 a1 (fun s12 =>
    f_X10_become_87 a0 a1 (fun s16 =>
    f_X10_become_116 a0 a1 FU (nI 0) s16) FU (nI 0) s12) FU (nI 0) s4
theorem e_X10_become {G : GP} {a0 : Nat} {a1 : Nat} {σ : ST} {s : ST} (h0 : (a0 = 2 ∨ a0 = 95)) (h1 : (a1 = 2 ∨ a1 = 95)) (h : f_X10_become a0 a1 σ = some s) : E G mX10_become (3, 102) 0 [.ref a0, .ref a1, D0] [] (mem σ) (QV s) := by
  unfold f_X10_become at h
  refine E_aload_n (pc := 0) rfl dX10_become_0 ?_
  refine E_aload_n (pc := 1) rfl dX10_become_1 ?_
  refine R_getI (pc := 2) f10_9 dX10_become_2 (ent_st (WO_of h1).1) (by decide) rfl ?_
  refine T_putI (pc := 5) f10_9 dX10_become_5 (ent_st (WO_of h0).1) (by decide) rfl (by decide +kernel) h (fun s1 h => ?_)
  refine E_aload_n (pc := 8) rfl dX10_become_8 ?_
  refine E_aload_n (pc := 9) rfl dX10_become_9 ?_
  refine R_getI (pc := 10) f10_15 dX10_become_10 (ent_st (WO_of h1).1) (by decide) rfl ?_
  refine T_putI (pc := 13) f10_15 dX10_become_13 (ent_st (WO_of h0).1) (by decide) rfl (by decide +kernel) h (fun s2 h => ?_)
  refine E_aload_n (pc := 16) rfl dX10_become_16 ?_
  refine E_aload_n (pc := 17) rfl dX10_become_17 ?_
  refine R_getI (pc := 18) f10_18 dX10_become_18 (ent_st (WO_of h1).1) (by decide) rfl ?_
  refine T_putI (pc := 21) f10_18 dX10_become_21 (ent_st (WO_of h0).1) (by decide) rfl (by decide +kernel) h (fun s3 h => ?_)
  refine E_aload_n (pc := 24) rfl dX10_become_24 ?_
  refine E_aload_n (pc := 25) rfl dX10_become_25 ?_
  refine R_getI (pc := 26) f10_21 dX10_become_26 (ent_st (WO_of h1).1) (by decide) rfl ?_
  refine T_putI (pc := 29) f10_21 dX10_become_29 (ent_st (WO_of h0).1) (by decide) rfl (by decide +kernel) h (fun s4 h => ?_)
  refine E_iconst (pc := 32) 0 rfl dX10_become_32 ?_
  refine E_istore_n (pc := 33) (L2 := [_, _, _]) rfl rfl dX10_become_33 ?_
  refine e_X10_become_34 h0 h1 ?_ FU h
  · intro s12 h
    refine E_iconst (pc := 85) 0 rfl dX10_become_85 ?_
    refine E_istore_n (pc := 86) (L2 := [_, _, _]) rfl rfl dX10_become_86 ?_
    refine e_X10_become_87 h0 h1 ?_ FU h
    · intro s16 h
      refine E_iconst (pc := 114) 0 rfl dX10_become_114 ?_
      refine E_istore_n (pc := 115) (L2 := [_, _, _]) rfl rfl dX10_become_115 ?_
      refine e_X10_become_116 h0 h1 FU h
noncomputable def f_X10_mostOf (x0 : Int32) (σ : ST) : Option (Int32 × ST) :=
    if x0 = nI 0 then
    (some ((nI 2), σ))
    else if x0 = nI 1 then
    (some ((nI 5), σ))
    else if x0 = nI 2 then
    (some ((nI 3), σ))
    else (some ((nI 1), σ))
theorem e_X10_mostOf {G : GP} {x0 : Int32} {σ : ST} {v : Int32} {s : ST}  (h : f_X10_mostOf x0 σ = some (v, s)) : E G mX10_mostOf (0, 0) 0 [.int x0] [] (mem σ) (QI v s) := by
  unfold f_X10_mostOf at h
  refine E_iload_n (pc := 0) rfl dX10_mostOf_0 ?_
  refine T_tbl (pc := 1) (m := 0) 28 (by omega) (by decide) (by decide) dX10_mostOf_1 rfl (by decide) h (fun h => ?_) (fun u1_0 h => ?_)
  · refine E_iconst (pc := 28) 2 rfl dX10_mostOf_28 ?_
    exact E_ireturn (pc := 29) rfl rfl dX10_mostOf_29 (QI_of h)
  refine T_tbl (pc := 1) (m := 1) 30 (by omega) (by decide) (by decide) dX10_mostOf_1 rfl (by decide) h (fun h => ?_) (fun u1_1 h => ?_)
  · refine E_iconst (pc := 30) 5 rfl dX10_mostOf_30 ?_
    exact E_ireturn (pc := 31) rfl rfl dX10_mostOf_31 (QI_of h)
  refine T_tbl (pc := 1) (m := 2) 32 (by omega) (by decide) (by decide) dX10_mostOf_1 rfl (by decide) h (fun h => ?_) (fun u1_2 h => ?_)
  · refine E_iconst (pc := 32) 3 rfl dX10_mostOf_32 ?_
    exact E_ireturn (pc := 33) rfl rfl dX10_mostOf_33 (QI_of h)
  refine E_tblOut (pc := 1) 34 (by omega) (by decide) dX10_mostOf_1 ?_
  refine E_iconst (pc := 34) 1 rfl dX10_mostOf_34 ?_
  exact E_ireturn (pc := 35) rfl rfl dX10_mostOf_35 (QI_of h)
noncomputable def f_X10_hasRoomFor (x1 : Int32) (σ : ST) : Option (Int32 × ST) :=
    if (σ.1 2 0) < (nI 10) then
    (bd2 (f_X10_countOf x1 σ) fun v2 s1 =>
    bd2 (f_X10_mostOf x1 s1) fun v4 s3 =>
    if v2 < v4 then
    (some ((nI 1), s3))
    else (some ((nI 0), s3)))
    else (some ((nI 0), σ))
theorem e_X10_hasRoomFor {G : GP} {x1 : Int32} {σ : ST} {v : Int32} {s : ST}  (h : f_X10_hasRoomFor x1 σ = some (v, s)) : E G mX10_hasRoomFor (1, 23) 0 [.ref 2, .int x1] [] (mem σ) (QI v s) := by
  unfold f_X10_hasRoomFor at h
  refine E_aload_n (pc := 0) rfl dX10_hasRoomFor_0 ?_
  refine R_getI (pc := 1) f10_9 dX10_hasRoomFor_1 (ent_st WO2.1) (by decide) rfl ?_
  refine E_bipush (pc := 4) (nI 10) (by decide) dX10_hasRoomFor_4 ?_
  refine T_icmp_ge (pc := 6) 25 dX10_hasRoomFor_6 (by decide) h (fun h => ?_) (fun h => ?_)
  · refine E_iconst (pc := 25) 0 rfl dX10_hasRoomFor_25 ?_
    exact E_ireturn (pc := 26) rfl (by decide) dX10_hasRoomFor_26 (QI_of h)
  · refine E_aload_n (pc := 9) rfl dX10_hasRoomFor_9 ?_
    refine E_iload_n (pc := 10) rfl dX10_hasRoomFor_10 ?_
    obtain ⟨v2, s1, hp, h⟩ := bd2_some h
    refine E_callV (pc := 11) (As := [_]) (fc := (0, 0)) s10_73_10 oX10_countOf dX10_hasRoomFor_11 (mem_ob (ent_st WO2.1)) rfl rfl (Nat.le_of_ble_eq_true rfl) rfl rfl (by decide) (e_X10_countOf hp) (fun rv_ M_ hq_ => ?_)
    obtain ⟨rfl, rfl⟩ := hq_
    refine E_iload_n (pc := 14) rfl dX10_hasRoomFor_14 ?_
    obtain ⟨v4, s3, hp, h⟩ := bd2_some h
    refine E_callS (pc := 15) (As := [_]) (fc := (0, 0)) s10_77 oX10_mostOf dX10_hasRoomFor_15 rfl rfl (Nat.le_of_ble_eq_true rfl) rfl rfl (by decide) (e_X10_mostOf hp) (fun rv_ M_ hq_ => ?_)
    obtain ⟨rfl, rfl⟩ := hq_
    refine T_icmp_ge (pc := 18) 25 dX10_hasRoomFor_18 (by decide) h (fun h => ?_) (fun h => ?_)
    · refine E_iconst (pc := 25) 0 rfl dX10_hasRoomFor_25 ?_
      exact E_ireturn (pc := 26) rfl (by decide) dX10_hasRoomFor_26 (QI_of h)
    · refine E_iconst (pc := 21) 1 rfl dX10_hasRoomFor_21 ?_
      refine E_goto (pc := 22) 26 (by decide) dX10_hasRoomFor_22 ?_
      exact E_ireturn (pc := 26) rfl (by decide) dX10_hasRoomFor_26 (QI_of h)
noncomputable def f_X10_addThing_43 (a2 : Nat) (x3 : Int32) (sg : ST) : Option (Int32 × ST) :=
    (ixR 10 x3).bind fun j7 =>
    (f_X1_become (2 + 7 + 5 * j7) a2 sg).bind fun s8 =>
    (pfI s8 2 0 ((s8.1 2 0) + (nI 1))).bind fun s9 =>
    some (x3, s9)
theorem e_X10_addThing_43 {G : GP} {a2 : Nat} {x3 : Int32} {sg : ST} {v : Int32} {s : ST} (h2 : CO a2) (h : f_X10_addThing_43 a2 x3 sg = some (v, s)) : E G mX10_addThing (2, 81) 43 [.ref 2, D0, .ref a2, .int x3] [] (mem sg) (QI v s) := by
  unfold f_X10_addThing_43 at h
  refine E_aload_n (pc := 43) rfl dX10_addThing_43 ?_
  refine R_getR (pc := 44) (b := 5) f10_33 dX10_addThing_44 (ent_st WO2.1) (by decide) rfl rfl ?_
  refine E_iload_n (pc := 47) rfl dX10_addThing_47 ?_
  refine T_rald (pc := 48) (b := fun i => 2 + 7 + 5 * i) dX10_addThing_48 (ent_st WO2.2.2.2.1) (by decide) (by decide) h (fun j7 hj7 h => ?_)
  refine E_aload_n (pc := 49) rfl dX10_addThing_49 ?_
  obtain ⟨s8, hp, h⟩ := bd_some h
  refine E_callV (pc := 50) (As := [_]) (fc := (1, 60)) s10_60_1 oX1_become dX10_addThing_50 (mem_ob (ent_st (CO_w 2 (Or.inl rfl) j7 hj7).1)) rfl rfl (Nat.le_of_ble_eq_true rfl) rfl rfl (by decide) (e_X1_become (CO_w 2 (Or.inl rfl) j7 hj7) h2 hp) (fun rv_ M_ hq_ => ?_)
  obtain ⟨rfl, rfl⟩ := hq_
  refine E_aload_n (pc := 53) rfl dX10_addThing_53 ?_
  refine E_dup (pc := 54) rfl dX10_addThing_54 ?_
  refine R_getI (pc := 55) f10_9 dX10_addThing_55 (ent_st WO2.1) (by decide) rfl ?_
  refine E_iconst (pc := 58) 1 rfl dX10_addThing_58 ?_
  refine E_iadd (pc := 59) dX10_addThing_59 ?_
  refine T_putI (pc := 60) f10_9 dX10_addThing_60 (ent_st WO2.1) (by decide) rfl (by decide +kernel) h (fun s9 h => ?_)
  refine E_iload_n (pc := 63) rfl dX10_addThing_63 ?_
  exact E_ireturn (pc := 64) rfl rfl dX10_addThing_64 (QI_of h)
noncomputable def f_X10_addThing (x1 : Int32) (a2 : Nat) (σ : ST) : Option (Int32 × ST) :=
    bd2 (f_X10_hasRoomFor x1 σ) fun v2 s1 =>
    if v2 = 0 then
    (some ((-1), s1))
    else (bd2 (f_X10_countOf x1 s1) fun v4 s3 =>
    (wrI s3 4 10 (s1.1 2 0) v4).bind fun s5 =>
    (wrI s5 3 10 (s1.1 2 0) x1).bind fun s6 =>
    if x1 = (nI 2) then
    (f_X10_addThing_43 a2 (s1.1 2 0) s6)
    else (if x1 = (nI 3) then
    (f_X10_addThing_43 a2 (s1.1 2 0) s6)
    else ((pfI s6 2 0 ((s6.1 2 0) + (nI 1))).bind fun s10 =>
    some ((s1.1 2 0), s10))))
theorem e_X10_addThing {G : GP} {x1 : Int32} {a2 : Nat} {σ : ST} {v : Int32} {s : ST} (h2 : CO a2) (h : f_X10_addThing x1 a2 σ = some (v, s)) : E G mX10_addThing (2, 81) 0 [.ref 2, .int x1, .ref a2, D0] [] (mem σ) (QI v s) := by
  unfold f_X10_addThing at h
  refine E_aload_n (pc := 0) rfl dX10_addThing_0 ?_
  refine E_iload_n (pc := 1) rfl dX10_addThing_1 ?_
  obtain ⟨v2, s1, hp, h⟩ := bd2_some h
  refine E_callV (pc := 2) (As := [_]) (fc := (1, 23)) s10_80_10 oX10_hasRoomFor dX10_addThing_2 (mem_ob (ent_st WO2.1)) rfl rfl (Nat.le_of_ble_eq_true rfl) rfl rfl (by decide) (e_X10_hasRoomFor hp) (fun rv_ M_ hq_ => ?_)
  obtain ⟨rfl, rfl⟩ := hq_
  refine T_if_ne (pc := 5) 10 dX10_addThing_5 (by decide) h (fun h => ?_) (fun h => ?_)
  · refine E_aload_n (pc := 10) rfl dX10_addThing_10 ?_
    refine R_getI (pc := 11) f10_9 dX10_addThing_11 (ent_st WO2.1) (by decide) rfl ?_
    refine E_istore_n (pc := 14) (L2 := [_, _, _, _]) rfl rfl dX10_addThing_14 ?_
    refine E_aload_n (pc := 15) rfl dX10_addThing_15 ?_
    refine R_getR (pc := 16) (b := 4) f10_28 dX10_addThing_16 (ent_st WO2.1) (by decide) rfl rfl ?_
    refine E_iload_n (pc := 19) rfl dX10_addThing_19 ?_
    refine E_aload_n (pc := 20) rfl dX10_addThing_20 ?_
    refine E_iload_n (pc := 21) rfl dX10_addThing_21 ?_
    obtain ⟨v4, s3, hp, h⟩ := bd2_some h
    refine E_callV (pc := 22) (As := [_]) (fc := (0, 0)) s10_73_10 oX10_countOf dX10_addThing_22 (mem_ob (ent_st WO2.1)) rfl rfl (Nat.le_of_ble_eq_true rfl) rfl rfl (by decide) (e_X10_countOf hp) (fun rv_ M_ hq_ => ?_)
    obtain ⟨rfl, rfl⟩ := hq_
    refine T_iast (pc := 25) dX10_addThing_25 (ent_st WO2.2.2.1) (by decide) h (fun s5 h => ?_)
    refine E_aload_n (pc := 26) rfl dX10_addThing_26 ?_
    refine R_getR (pc := 27) (b := 3) f10_24 dX10_addThing_27 (ent_st WO2.1) (by decide) rfl rfl ?_
    refine E_iload_n (pc := 30) rfl dX10_addThing_30 ?_
    refine E_iload_n (pc := 31) rfl dX10_addThing_31 ?_
    refine T_iast (pc := 32) dX10_addThing_32 (ent_st WO2.2.1) (by decide) h (fun s6 h => ?_)
    refine E_iload_n (pc := 33) rfl dX10_addThing_33 ?_
    refine E_iconst (pc := 34) 2 rfl dX10_addThing_34 ?_
    refine T_icmp_eq (pc := 35) 43 dX10_addThing_35 (by decide) h (fun h => ?_) (fun h => ?_)
    · refine E_kp [true, false, true, true] (L2 := [_, D0, _, _]) rfl rfl ?_
      refine e_X10_addThing_43 h2 h
    · refine E_iload_n (pc := 38) rfl dX10_addThing_38 ?_
      refine E_iconst (pc := 39) 3 rfl dX10_addThing_39 ?_
      refine T_icmp_ne (pc := 40) 53 dX10_addThing_40 (by decide) h (fun h => ?_) (fun h => ?_)
      · refine E_aload_n (pc := 53) rfl dX10_addThing_53 ?_
        refine E_dup (pc := 54) rfl dX10_addThing_54 ?_
        refine R_getI (pc := 55) f10_9 dX10_addThing_55 (ent_st WO2.1) (by decide) rfl ?_
        refine E_iconst (pc := 58) 1 rfl dX10_addThing_58 ?_
        refine E_iadd (pc := 59) dX10_addThing_59 ?_
        refine T_putI (pc := 60) f10_9 dX10_addThing_60 (ent_st WO2.1) (by decide) rfl (by decide +kernel) h (fun s10 h => ?_)
        refine E_iload_n (pc := 63) rfl dX10_addThing_63 ?_
        exact E_ireturn (pc := 64) rfl rfl dX10_addThing_64 (QI_of h)
      · refine E_kp [true, false, true, true] (L2 := [_, D0, _, _]) rfl rfl ?_
        refine e_X10_addThing_43 h2 h
  · refine E_im1 (pc := 8) dX10_addThing_8 ?_
    exact E_ireturn (pc := 9) rfl rfl dX10_addThing_9 (QI_of h)
noncomputable def f_X10_addHappening (a1 : Nat) (x2 : Int32) (x3 : Int32) (σ : ST) : Option (Int32 × ST) :=
    if (σ.1 2 1) < (nI 6) then
    ((ixR 6 (σ.1 2 1)).bind fun j1 =>
    (f_X3_become (2 + 57 + 6 * j1) a1 σ).bind fun s2 =>
    (ixR 6 (σ.1 2 1)).bind fun j3 =>
    (pfI s2 (2 + 57 + 6 * j3) 4 x2).bind fun s4 =>
    (ixR 6 (σ.1 2 1)).bind fun j5 =>
    (pfZ s4 (2 + 57 + 6 * j5) 5 x3).bind fun s6 =>
    (pfI s6 2 1 ((s6.1 2 1) + (nI 1))).bind fun s7 =>
    some ((σ.1 2 1), s7))
    else (some ((-1), σ))
theorem e_X10_addHappening {G : GP} {a1 : Nat} {x2 : Int32} {x3 : Int32} {σ : ST} {v : Int32} {s : ST} (h1 : LA a1) (h : f_X10_addHappening a1 x2 x3 σ = some (v, s)) : E G mX10_addHappening (3, 102) 0 [.ref 2, .ref a1, .int x2, .int x3, D0] [] (mem σ) (QI v s) := by
  unfold f_X10_addHappening at h
  refine E_aload_n (pc := 0) rfl dX10_addHappening_0 ?_
  refine R_getI (pc := 1) f10_15 dX10_addHappening_1 (ent_st WO2.1) (by decide) rfl ?_
  refine E_bipush (pc := 4) (nI 6) (by decide) dX10_addHappening_4 ?_
  refine T_icmp_lt (pc := 6) 11 dX10_addHappening_6 (by decide) h (fun h => ?_) (fun h => ?_)
  · refine E_aload_n (pc := 11) rfl dX10_addHappening_11 ?_
    refine R_getI (pc := 12) f10_15 dX10_addHappening_12 (ent_st WO2.1) (by decide) rfl ?_
    refine E_istore (pc := 15) (L2 := [_, _, _, _, _]) rfl rfl dX10_addHappening_15 ?_
    refine E_aload_n (pc := 17) rfl dX10_addHappening_17 ?_
    refine R_getR (pc := 18) (b := 6) f10_39 dX10_addHappening_18 (ent_st WO2.1) (by decide) rfl rfl ?_
    refine E_iload (pc := 21) rfl dX10_addHappening_21 ?_
    refine T_rald (pc := 23) (b := fun i => 2 + 57 + 6 * i) dX10_addHappening_23 (ent_st WO2.2.2.2.2.1) (by decide) (by decide) h (fun j1 hj1 h => ?_)
    refine E_aload_n (pc := 24) rfl dX10_addHappening_24 ?_
    obtain ⟨s2, hp, h⟩ := bd_some h
    refine E_callV (pc := 25) (As := [_]) (fc := (2, 81)) s10_64_3 oX3_become dX10_addHappening_25 (mem_ob (ent_st (LA_w 2 (Or.inl rfl) j1 hj1).1)) rfl rfl (Nat.le_of_ble_eq_true rfl) rfl rfl (by decide) (e_X3_become (LA_w 2 (Or.inl rfl) j1 hj1) h1 hp) (fun rv_ M_ hq_ => ?_)
    obtain ⟨rfl, rfl⟩ := hq_
    refine E_aload_n (pc := 28) rfl dX10_addHappening_28 ?_
    refine R_getR (pc := 29) (b := 6) f10_39 dX10_addHappening_29 (ent_st WO2.1) (by decide) rfl rfl ?_
    refine E_iload (pc := 32) rfl dX10_addHappening_32 ?_
    refine T_rald (pc := 34) (b := fun i => 2 + 57 + 6 * i) dX10_addHappening_34 (ent_st WO2.2.2.2.2.1) (by decide) (by decide) h (fun j3 hj3 h => ?_)
    refine E_iload_n (pc := 35) rfl dX10_addHappening_35 ?_
    refine T_putI (pc := 36) f10_84 dX10_addHappening_36 (ent_st (LA_w 2 (Or.inl rfl) j3 hj3).1) (by decide) rfl (by decide +kernel) h (fun s4 h => ?_)
    refine E_aload_n (pc := 39) rfl dX10_addHappening_39 ?_
    refine R_getR (pc := 40) (b := 6) f10_39 dX10_addHappening_40 (ent_st WO2.1) (by decide) rfl rfl ?_
    refine E_iload (pc := 43) rfl dX10_addHappening_43 ?_
    refine T_rald (pc := 45) (b := fun i => 2 + 57 + 6 * i) dX10_addHappening_45 (ent_st WO2.2.2.2.2.1) (by decide) (by decide) h (fun j5 hj5 h => ?_)
    refine E_iload_n (pc := 46) rfl dX10_addHappening_46 ?_
    refine T_putZ (pc := 47) f10_87 dX10_addHappening_47 (ent_st (LA_w 2 (Or.inl rfl) j5 hj5).1) (by decide) rfl (by decide +kernel) h (fun s6 h => ?_)
    refine E_aload_n (pc := 50) rfl dX10_addHappening_50 ?_
    refine E_dup (pc := 51) rfl dX10_addHappening_51 ?_
    refine R_getI (pc := 52) f10_15 dX10_addHappening_52 (ent_st WO2.1) (by decide) rfl ?_
    refine E_iconst (pc := 55) 1 rfl dX10_addHappening_55 ?_
    refine E_iadd (pc := 56) dX10_addHappening_56 ?_
    refine T_putI (pc := 57) f10_15 dX10_addHappening_57 (ent_st WO2.1) (by decide) rfl (by decide +kernel) h (fun s7 h => ?_)
    refine E_iload (pc := 60) rfl dX10_addHappening_60 ?_
    exact E_ireturn (pc := 62) rfl rfl dX10_addHappening_62 (QI_of h)
  · refine E_im1 (pc := 9) dX10_addHappening_9 ?_
    exact E_ireturn (pc := 10) rfl rfl dX10_addHappening_10 (QI_of h)
noncomputable def f_X10_hasRoomForPiece_15 (k54 : Int32 → Int32 → ST → Option (Int32 × ST)) : Nat → Int32 → Int32 → Int32 → ST → Option (Int32 × ST)
  | 0, _, _, _, _ => none
  | n + 1, x1, x2, x3, sg =>
    if x3 < (sg.1 2 2) then
    ((rdT sg 7 16 x3).bind fun q1 =>
    nl q1 ((f_X10_hasRoomForPiece_15 k54 n) x1 x2 (x3 + nI 1) sg) fun q2 =>
    (rdP [6, 4, 8, 9] sg q2 1).bind fun v3 =>
    if v3 = (nI 1) then
    ((f_X10_hasRoomForPiece_15 k54 n) x1 (x2 + nI 1) (x3 + nI 1) sg)
    else ((f_X10_hasRoomForPiece_15 k54 n) x1 x2 (x3 + nI 1) sg))
    else (k54 x1 x2 sg)
theorem e_X10_hasRoomForPiece_15 {G : GP} {k54 : Int32 → Int32 → ST → Option (Int32 × ST)} {v : Int32} {s : ST} (hk54 : ∀ {x1 : Int32} {x2 : Int32} {sg : ST}, k54 x1 x2 sg = some (v, s) → E G mX10_hasRoomForPiece (0, 0) 54 [D0, .int x1, .int x2, D0, D0] [] (mem sg) (QI v s)) : ∀ (n : Nat) {x1 : Int32} {x2 : Int32} {x3 : Int32} {sg : ST}, f_X10_hasRoomForPiece_15 k54 n x1 x2 x3 sg = some (v, s) → E G mX10_hasRoomForPiece (0, 0) 15 [.ref 2, .int x1, .int x2, .int x3, D0] [] (mem sg) (QI v s) := by
  intro n
  induction n with
  | zero => intro _ _ _ _ h; rw [f_X10_hasRoomForPiece_15] at h; cases h
  | succ n ih =>
    intro x1 x2 x3 sg h
    rw [f_X10_hasRoomForPiece_15] at h
    refine E_iload_n (pc := 15) rfl dX10_hasRoomForPiece_15 ?_
    refine E_aload_n (pc := 16) rfl dX10_hasRoomForPiece_16 ?_
    refine R_getI (pc := 17) f10_18 dX10_hasRoomForPiece_17 (ent_st WO2.1) (by decide) rfl ?_
    refine T_icmp_ge (pc := 20) 54 dX10_hasRoomForPiece_20 (by decide) h (fun h => ?_) (fun h => ?_)
    · refine E_kp [false, true, true, false, false] (L2 := [D0, _, _, D0, D0]) rfl rfl ?_
      exact hk54 h
    · refine E_aload_n (pc := 23) rfl dX10_hasRoomForPiece_23 ?_
      refine R_getR (pc := 24) (b := 7) f10_45 dX10_hasRoomForPiece_24 (ent_st WO2.1) (by decide) rfl rfl ?_
      refine E_iload_n (pc := 27) rfl dX10_hasRoomForPiece_27 ?_
      refine T_tald (pc := 28) dX10_hasRoomForPiece_28 (ent_st WO2.2.2.2.2.2.1) (by decide) h (fun q1 h => ?_)
      refine T_astoreQ (pc := 29) (L2 := [_, _, _, _, _]) rfl rfl dX10_hasRoomForPiece_29 ?_
      refine T_aloadQ (pc := 31) rfl dX10_hasRoomForPiece_31 ?_
      cases q1 with
      | none =>
        replace h := nl_none h
        refine E_ifnullN (pc := 33) 48 (by decide) dX10_hasRoomForPiece_33 ?_
        refine T_iinc (pc := 48) (m := 1) (L2 := [_, _, _, _, _]) rfl rfl rfl rfl dX10_hasRoomForPiece_48 ?_
        refine E_goto (pc := 51) 15 (by decide) dX10_hasRoomForPiece_51 ?_
        refine E_kp [true, true, true, true, false] (L2 := [_, _, _, _, D0]) rfl rfl ?_
        exact ih h
      | some q2 =>
        replace h := nl_some h
        refine E_ifnull (pc := 33) dX10_hasRoomForPiece_33 ?_
        refine E_aload (pc := 36) rfl dX10_hasRoomForPiece_36 ?_
        refine T_getP (pc := 38) f10_91 dX10_hasRoomForPiece_38 (by decide) h (fun v3 h => ?_)
        refine E_iconst (pc := 41) 1 rfl dX10_hasRoomForPiece_41 ?_
        refine T_icmp_ne (pc := 42) 48 dX10_hasRoomForPiece_42 (by decide) h (fun h => ?_) (fun h => ?_)
        · refine T_iinc (pc := 48) (m := 1) (L2 := [_, _, _, _, _]) rfl rfl rfl rfl dX10_hasRoomForPiece_48 ?_
          refine E_goto (pc := 51) 15 (by decide) dX10_hasRoomForPiece_51 ?_
          refine E_kp [true, true, true, true, false] (L2 := [_, _, _, _, D0]) rfl rfl ?_
          exact ih h
        · refine T_iinc (pc := 45) (m := 1) (L2 := [_, _, _, _, _]) rfl rfl rfl rfl dX10_hasRoomForPiece_45 ?_
          refine T_iinc (pc := 48) (m := 1) (L2 := [_, _, _, _, _]) rfl rfl rfl rfl dX10_hasRoomForPiece_48 ?_
          refine E_goto (pc := 51) 15 (by decide) dX10_hasRoomForPiece_51 ?_
          refine E_kp [true, true, true, true, false] (L2 := [_, _, _, _, D0]) rfl rfl ?_
          exact ih h
noncomputable def f_X10_hasRoomForPiece (x1 : Int32) (σ : ST) : Option (Int32 × ST) :=
    if (σ.1 2 2) < (nI 16) then
    (f_X10_hasRoomForPiece_15 (fun x1_4 x2_5 s6 =>
    if x1_4 = (nI 1) then
    (if x2_5 < (nI 2) then
    (some ((nI 1), s6))
    else (some ((nI 0), s6)))
    else (some ((nI 1), s6))) FU x1 (nI 0) (nI 0) σ)
    else (some ((nI 0), σ))
theorem e_X10_hasRoomForPiece {G : GP} {x1 : Int32} {σ : ST} {v : Int32} {s : ST}  (h : f_X10_hasRoomForPiece x1 σ = some (v, s)) : E G mX10_hasRoomForPiece (0, 0) 0 [.ref 2, .int x1, D0, D0, D0] [] (mem σ) (QI v s) := by
  unfold f_X10_hasRoomForPiece at h
  refine E_aload_n (pc := 0) rfl dX10_hasRoomForPiece_0 ?_
  refine R_getI (pc := 1) f10_18 dX10_hasRoomForPiece_1 (ent_st WO2.1) (by decide) rfl ?_
  refine E_bipush (pc := 4) (nI 16) (by decide) dX10_hasRoomForPiece_4 ?_
  refine T_icmp_lt (pc := 6) 11 dX10_hasRoomForPiece_6 (by decide) h (fun h => ?_) (fun h => ?_)
  · refine E_iconst (pc := 11) 0 rfl dX10_hasRoomForPiece_11 ?_
    refine E_istore_n (pc := 12) (L2 := [_, _, _, _, _]) rfl rfl dX10_hasRoomForPiece_12 ?_
    refine E_iconst (pc := 13) 0 rfl dX10_hasRoomForPiece_13 ?_
    refine E_istore_n (pc := 14) (L2 := [_, _, _, _, _]) rfl rfl dX10_hasRoomForPiece_14 ?_
    refine e_X10_hasRoomForPiece_15 ?_ FU h
    · intro x1_4 x2_5 s6 h
      refine E_iload_n (pc := 54) rfl dX10_hasRoomForPiece_54 ?_
      refine E_iconst (pc := 55) 1 rfl dX10_hasRoomForPiece_55 ?_
      refine T_icmp_ne (pc := 56) 64 dX10_hasRoomForPiece_56 (by decide) h (fun h => ?_) (fun h => ?_)
      · refine E_iconst (pc := 64) 1 rfl dX10_hasRoomForPiece_64 ?_
        refine E_goto (pc := 65) 69 (by decide) dX10_hasRoomForPiece_65 ?_
        exact E_ireturn (pc := 69) rfl (by decide) dX10_hasRoomForPiece_69 (QI_of h)
      · refine E_iload_n (pc := 59) rfl dX10_hasRoomForPiece_59 ?_
        refine E_iconst (pc := 60) 2 rfl dX10_hasRoomForPiece_60 ?_
        refine T_icmp_ge (pc := 61) 68 dX10_hasRoomForPiece_61 (by decide) h (fun h => ?_) (fun h => ?_)
        · refine E_iconst (pc := 68) 0 rfl dX10_hasRoomForPiece_68 ?_
          exact E_ireturn (pc := 69) rfl (by decide) dX10_hasRoomForPiece_69 (QI_of h)
        · refine E_iconst (pc := 64) 1 rfl dX10_hasRoomForPiece_64 ?_
          refine E_goto (pc := 65) 69 (by decide) dX10_hasRoomForPiece_65 ?_
          exact E_ireturn (pc := 69) rfl (by decide) dX10_hasRoomForPiece_69 (QI_of h)
  · refine E_iconst (pc := 9) 0 rfl dX10_hasRoomForPiece_9 ?_
    exact E_ireturn (pc := 10) rfl (by decide) dX10_hasRoomForPiece_10 (QI_of h)
noncomputable def f_X10_addPiece (x1 : Int32) (x2 : Int32) (x3 : Int32) (x4 : Int32) (x5 : Int32) (x6 : Int32) (σ : ST) : Option (Int32 × ST) :=
    if (σ.1 2 2) < (nI 16) then
    (if x1 = nI 1 then
    (bd2 (nwP σ 8) fun p1 s2 =>
    (chkP [8] s2 p1).bind fun c4 =>
    (f_X8_init p1 (σ.1 2 2) x2 x3 x4 x6 s2).bind fun s3 =>
    (wrT s3 7 16 (σ.1 2 2) (some p1)).bind fun s5 =>
    (pfI s5 2 2 ((s5.1 2 2) + (nI 1))).bind fun s6 =>
    some ((σ.1 2 2), s6))
    else if x1 = nI 2 then
    (bd2 (nwP σ 9) fun p7 s8 =>
    (chkP [9] s8 p7).bind fun c10 =>
    (f_X9_init p7 (σ.1 2 2) x2 x3 x4 x5 x6 s8).bind fun s9 =>
    (wrT s9 7 16 (σ.1 2 2) (some p7)).bind fun s11 =>
    (pfI s11 2 2 ((s11.1 2 2) + (nI 1))).bind fun s12 =>
    some ((σ.1 2 2), s12))
    else if x1 = nI 3 then
    (bd2 (nwP σ 4) fun p13 s14 =>
    (chkP [4] s14 p13).bind fun c16 =>
    (f_X4_init p13 (σ.1 2 2) x2 x3 x4 x6 s14).bind fun s15 =>
    (wrT s15 7 16 (σ.1 2 2) (some p13)).bind fun s17 =>
    (pfI s17 2 2 ((s17.1 2 2) + (nI 1))).bind fun s18 =>
    some ((σ.1 2 2), s18))
    else (bd2 (nwP σ 6) fun p19 s20 =>
    (chkP [6] s20 p19).bind fun c22 =>
    (f_X6_init p19 (σ.1 2 2) x2 x3 x6 s20).bind fun s21 =>
    (wrT s21 7 16 (σ.1 2 2) (some p19)).bind fun s23 =>
    (pfI s23 2 2 ((s23.1 2 2) + (nI 1))).bind fun s24 =>
    some ((σ.1 2 2), s24)))
    else (some ((-1), σ))
theorem e_X10_addPiece {G : GP} {x1 : Int32} {x2 : Int32} {x3 : Int32} {x4 : Int32} {x5 : Int32} {x6 : Int32} {σ : ST} {v : Int32} {s : ST}  (h : f_X10_addPiece x1 x2 x3 x4 x5 x6 σ = some (v, s)) : E G mX10_addPiece (4, 98) 0 [.ref 2, .int x1, .int x2, .int x3, .int x4, .int x5, .int x6, D0] [] (mem σ) (QI v s) := by
  unfold f_X10_addPiece at h
  refine E_aload_n (pc := 0) rfl dX10_addPiece_0 ?_
  refine R_getI (pc := 1) f10_18 dX10_addPiece_1 (ent_st WO2.1) (by decide) rfl ?_
  refine E_bipush (pc := 4) (nI 16) (by decide) dX10_addPiece_4 ?_
  refine T_icmp_lt (pc := 6) 11 dX10_addPiece_6 (by decide) h (fun h => ?_) (fun h => ?_)
  · refine E_aload_n (pc := 11) rfl dX10_addPiece_11 ?_
    refine R_getI (pc := 12) f10_18 dX10_addPiece_12 (ent_st WO2.1) (by decide) rfl ?_
    refine E_istore (pc := 15) (L2 := [_, _, _, _, _, _, _, _]) rfl rfl dX10_addPiece_15 ?_
    refine E_iload_n (pc := 17) rfl dX10_addPiece_17 ?_
    refine T_tbl (pc := 18) (m := 1) 44 (by omega) (by decide) (by decide) dX10_addPiece_18 rfl (by decide) h (fun h => ?_) (fun u18_1 h => ?_)
    · refine E_aload_n (pc := 44) rfl dX10_addPiece_44 ?_
      refine R_getR (pc := 45) (b := 7) f10_45 dX10_addPiece_45 (ent_st WO2.1) (by decide) rfl rfl ?_
      refine E_iload (pc := 48) rfl dX10_addPiece_48 ?_
      refine T_new (pc := 50) (ci := 8) l10_94 rfl (by decide +kernel) (by decide) dX10_addPiece_50 h (fun p1 s2 h => ?_)
      refine E_dup (pc := 53) rfl dX10_addPiece_53 ?_
      refine E_iload (pc := 54) rfl dX10_addPiece_54 ?_
      refine E_iload_n (pc := 56) rfl dX10_addPiece_56 ?_
      refine E_iload_n (pc := 57) rfl dX10_addPiece_57 ?_
      refine E_iload (pc := 58) rfl dX10_addPiece_58 ?_
      refine E_iload (pc := 60) rfl dX10_addPiece_60 ?_
      obtain ⟨c4, hc, h⟩ := bd_some h
      obtain ⟨hc, he⟩ := chkP_of hc
      rcases (by simpa using hc : c4 = 8) with rfl
      · obtain ⟨s3, hp, h⟩ := bd_some h
        refine E_callV (pc := 62) (As := [_, _, _, _, _]) (fc := (2, 47)) s10_96_8 oX8_init dX10_addPiece_62 (mem_ob he) rfl rfl (Nat.le_of_ble_eq_true rfl) rfl rfl (by decide) (e_X8_init  hp) (fun rv_ M_ hq_ => ?_)
        obtain ⟨rfl, rfl⟩ := hq_
        refine T_tastP (pc := 65) dX10_addPiece_65 (ent_st WO2.2.2.2.2.2.1) (by decide) h (fun s5 h => ?_)
        refine E_goto (pc := 66) 141 (by decide) dX10_addPiece_66 ?_
        refine E_aload_n (pc := 141) rfl dX10_addPiece_141 ?_
        refine E_dup (pc := 142) rfl dX10_addPiece_142 ?_
        refine R_getI (pc := 143) f10_18 dX10_addPiece_143 (ent_st WO2.1) (by decide) rfl ?_
        refine E_iconst (pc := 146) 1 rfl dX10_addPiece_146 ?_
        refine E_iadd (pc := 147) dX10_addPiece_147 ?_
        refine T_putI (pc := 148) f10_18 dX10_addPiece_148 (ent_st WO2.1) (by decide) rfl (by decide +kernel) h (fun s6 h => ?_)
        refine E_iload (pc := 151) rfl dX10_addPiece_151 ?_
        exact E_ireturn (pc := 153) rfl rfl dX10_addPiece_153 (QI_of h)
    refine T_tbl (pc := 18) (m := 2) 69 (by omega) (by decide) (by decide) dX10_addPiece_18 rfl (by decide) h (fun h => ?_) (fun u18_2 h => ?_)
    · refine E_aload_n (pc := 69) rfl dX10_addPiece_69 ?_
      refine R_getR (pc := 70) (b := 7) f10_45 dX10_addPiece_70 (ent_st WO2.1) (by decide) rfl rfl ?_
      refine E_iload (pc := 73) rfl dX10_addPiece_73 ?_
      refine T_new (pc := 75) (ci := 9) l10_99 rfl (by decide +kernel) (by decide) dX10_addPiece_75 h (fun p7 s8 h => ?_)
      refine E_dup (pc := 78) rfl dX10_addPiece_78 ?_
      refine E_iload (pc := 79) rfl dX10_addPiece_79 ?_
      refine E_iload_n (pc := 81) rfl dX10_addPiece_81 ?_
      refine E_iload_n (pc := 82) rfl dX10_addPiece_82 ?_
      refine E_iload (pc := 83) rfl dX10_addPiece_83 ?_
      refine E_iload (pc := 85) rfl dX10_addPiece_85 ?_
      refine E_iload (pc := 87) rfl dX10_addPiece_87 ?_
      obtain ⟨c10, hc, h⟩ := bd_some h
      obtain ⟨hc, he⟩ := chkP_of hc
      rcases (by simpa using hc : c10 = 9) with rfl
      · obtain ⟨s9, hp, h⟩ := bd_some h
        refine E_callV (pc := 89) (As := [_, _, _, _, _, _]) (fc := (2, 47)) s10_101_9 oX9_init dX10_addPiece_89 (mem_ob he) rfl rfl (Nat.le_of_ble_eq_true rfl) rfl rfl (by decide) (e_X9_init  hp) (fun rv_ M_ hq_ => ?_)
        obtain ⟨rfl, rfl⟩ := hq_
        refine T_tastP (pc := 92) dX10_addPiece_92 (ent_st WO2.2.2.2.2.2.1) (by decide) h (fun s11 h => ?_)
        refine E_goto (pc := 93) 141 (by decide) dX10_addPiece_93 ?_
        refine E_aload_n (pc := 141) rfl dX10_addPiece_141 ?_
        refine E_dup (pc := 142) rfl dX10_addPiece_142 ?_
        refine R_getI (pc := 143) f10_18 dX10_addPiece_143 (ent_st WO2.1) (by decide) rfl ?_
        refine E_iconst (pc := 146) 1 rfl dX10_addPiece_146 ?_
        refine E_iadd (pc := 147) dX10_addPiece_147 ?_
        refine T_putI (pc := 148) f10_18 dX10_addPiece_148 (ent_st WO2.1) (by decide) rfl (by decide +kernel) h (fun s12 h => ?_)
        refine E_iload (pc := 151) rfl dX10_addPiece_151 ?_
        exact E_ireturn (pc := 153) rfl rfl dX10_addPiece_153 (QI_of h)
    refine T_tbl (pc := 18) (m := 3) 96 (by omega) (by decide) (by decide) dX10_addPiece_18 rfl (by decide) h (fun h => ?_) (fun u18_3 h => ?_)
    · refine E_aload_n (pc := 96) rfl dX10_addPiece_96 ?_
      refine R_getR (pc := 97) (b := 7) f10_45 dX10_addPiece_97 (ent_st WO2.1) (by decide) rfl rfl ?_
      refine E_iload (pc := 100) rfl dX10_addPiece_100 ?_
      refine T_new (pc := 102) (ci := 4) l10_104 rfl (by decide +kernel) (by decide) dX10_addPiece_102 h (fun p13 s14 h => ?_)
      refine E_dup (pc := 105) rfl dX10_addPiece_105 ?_
      refine E_iload (pc := 106) rfl dX10_addPiece_106 ?_
      refine E_iload_n (pc := 108) rfl dX10_addPiece_108 ?_
      refine E_iload_n (pc := 109) rfl dX10_addPiece_109 ?_
      refine E_iload (pc := 110) rfl dX10_addPiece_110 ?_
      refine E_iload (pc := 112) rfl dX10_addPiece_112 ?_
      obtain ⟨c16, hc, h⟩ := bd_some h
      obtain ⟨hc, he⟩ := chkP_of hc
      rcases (by simpa using hc : c16 = 4) with rfl
      · obtain ⟨s15, hp, h⟩ := bd_some h
        refine E_callV (pc := 114) (As := [_, _, _, _, _]) (fc := (3, 73)) s10_106_4 oX4_init dX10_addPiece_114 (mem_ob he) rfl rfl (Nat.le_of_ble_eq_true rfl) rfl rfl (by decide) (e_X4_init  hp) (fun rv_ M_ hq_ => ?_)
        obtain ⟨rfl, rfl⟩ := hq_
        refine T_tastP (pc := 117) dX10_addPiece_117 (ent_st WO2.2.2.2.2.2.1) (by decide) h (fun s17 h => ?_)
        refine E_goto (pc := 118) 141 (by decide) dX10_addPiece_118 ?_
        refine E_aload_n (pc := 141) rfl dX10_addPiece_141 ?_
        refine E_dup (pc := 142) rfl dX10_addPiece_142 ?_
        refine R_getI (pc := 143) f10_18 dX10_addPiece_143 (ent_st WO2.1) (by decide) rfl ?_
        refine E_iconst (pc := 146) 1 rfl dX10_addPiece_146 ?_
        refine E_iadd (pc := 147) dX10_addPiece_147 ?_
        refine T_putI (pc := 148) f10_18 dX10_addPiece_148 (ent_st WO2.1) (by decide) rfl (by decide +kernel) h (fun s18 h => ?_)
        refine E_iload (pc := 151) rfl dX10_addPiece_151 ?_
        exact E_ireturn (pc := 153) rfl rfl dX10_addPiece_153 (QI_of h)
    refine E_tblOut (pc := 18) 121 (by omega) (by decide) dX10_addPiece_18 ?_
    refine E_aload_n (pc := 121) rfl dX10_addPiece_121 ?_
    refine R_getR (pc := 122) (b := 7) f10_45 dX10_addPiece_122 (ent_st WO2.1) (by decide) rfl rfl ?_
    refine E_iload (pc := 125) rfl dX10_addPiece_125 ?_
    refine T_new (pc := 127) (ci := 6) l10_43 rfl (by decide +kernel) (by decide) dX10_addPiece_127 h (fun p19 s20 h => ?_)
    refine E_dup (pc := 130) rfl dX10_addPiece_130 ?_
    refine E_iload (pc := 131) rfl dX10_addPiece_131 ?_
    refine E_iload_n (pc := 133) rfl dX10_addPiece_133 ?_
    refine E_iload_n (pc := 134) rfl dX10_addPiece_134 ?_
    refine E_iload (pc := 135) rfl dX10_addPiece_135 ?_
    obtain ⟨c22, hc, h⟩ := bd_some h
    obtain ⟨hc, he⟩ := chkP_of hc
    rcases (by simpa using hc : c22 = 6) with rfl
    · obtain ⟨s21, hp, h⟩ := bd_some h
      refine E_callV (pc := 137) (As := [_, _, _, _]) (fc := (2, 47)) s10_107_6 oX6_init dX10_addPiece_137 (mem_ob he) rfl rfl (Nat.le_of_ble_eq_true rfl) rfl rfl (by decide) (e_X6_init  hp) (fun rv_ M_ hq_ => ?_)
      obtain ⟨rfl, rfl⟩ := hq_
      refine T_tastP (pc := 140) dX10_addPiece_140 (ent_st WO2.2.2.2.2.2.1) (by decide) h (fun s23 h => ?_)
      refine E_aload_n (pc := 141) rfl dX10_addPiece_141 ?_
      refine E_dup (pc := 142) rfl dX10_addPiece_142 ?_
      refine R_getI (pc := 143) f10_18 dX10_addPiece_143 (ent_st WO2.1) (by decide) rfl ?_
      refine E_iconst (pc := 146) 1 rfl dX10_addPiece_146 ?_
      refine E_iadd (pc := 147) dX10_addPiece_147 ?_
      refine T_putI (pc := 148) f10_18 dX10_addPiece_148 (ent_st WO2.1) (by decide) rfl (by decide +kernel) h (fun s24 h => ?_)
      refine E_iload (pc := 151) rfl dX10_addPiece_151 ?_
      exact E_ireturn (pc := 153) rfl rfl dX10_addPiece_153 (QI_of h)
  · refine E_im1 (pc := 9) dX10_addPiece_9 ?_
    exact E_ireturn (pc := 10) rfl rfl dX10_addPiece_10 (QI_of h)
noncomputable def f_X10_pieceAt (x1 : Int32) (σ : ST) : Option (Option Nat × ST) :=
    if x1 < 0 then
    (some (none, σ))
    else (if x1 < (σ.1 2 2) then
    ((rdT σ 7 16 x1).bind fun q1 =>
    some (q1, σ))
    else (some (none, σ)))
theorem e_X10_pieceAt {G : GP} {x1 : Int32} {σ : ST} {v : Option Nat} {s : ST}  (h : f_X10_pieceAt x1 σ = some (v, s)) : E G mX10_pieceAt (0, 0) 0 [.ref 2, .int x1] [] (mem σ) (QR v s) := by
  unfold f_X10_pieceAt at h
  refine E_iload_n (pc := 0) rfl dX10_pieceAt_0 ?_
  refine T_if_lt (pc := 1) 21 dX10_pieceAt_1 (by decide) h (fun h => ?_) (fun h => ?_)
  · refine E_null (pc := 21) dX10_pieceAt_21 ?_
    exact T_aretQ (pc := 22) rfl dX10_pieceAt_22 h
  · refine E_iload_n (pc := 4) rfl dX10_pieceAt_4 ?_
    refine E_aload_n (pc := 5) rfl dX10_pieceAt_5 ?_
    refine R_getI (pc := 6) f10_18 dX10_pieceAt_6 (ent_st WO2.1) (by decide) rfl ?_
    refine T_icmp_ge (pc := 9) 21 dX10_pieceAt_9 (by decide) h (fun h => ?_) (fun h => ?_)
    · refine E_null (pc := 21) dX10_pieceAt_21 ?_
      exact T_aretQ (pc := 22) rfl dX10_pieceAt_22 h
    · refine E_aload_n (pc := 12) rfl dX10_pieceAt_12 ?_
      refine R_getR (pc := 13) (b := 7) f10_45 dX10_pieceAt_13 (ent_st WO2.1) (by decide) rfl rfl ?_
      refine E_iload_n (pc := 16) rfl dX10_pieceAt_16 ?_
      refine T_tald (pc := 17) dX10_pieceAt_17 (ent_st WO2.2.2.2.2.2.1) (by decide) h (fun q1 h => ?_)
      refine E_goto (pc := 18) 22 (by decide) dX10_pieceAt_18 ?_
      exact T_aretQ (pc := 22) rfl dX10_pieceAt_22 h
noncomputable def f_X10_isPutBy (x1 : Int32) (σ : ST) : Option (Int32 × ST) :=
    if (((σ.1 2 3) >>> (x1 &&& 31)) &&& (nI 1)) = 0 then
    (some ((nI 0), σ))
    else (some ((nI 1), σ))
theorem e_X10_isPutBy {G : GP} {x1 : Int32} {σ : ST} {v : Int32} {s : ST}  (h : f_X10_isPutBy x1 σ = some (v, s)) : E G mX10_isPutBy (0, 0) 0 [.ref 2, .int x1] [] (mem σ) (QI v s) := by
  unfold f_X10_isPutBy at h
  refine E_aload_n (pc := 0) rfl dX10_isPutBy_0 ?_
  refine R_getI (pc := 1) f10_21 dX10_isPutBy_1 (ent_st WO2.1) (by decide) rfl ?_
  refine E_iload_n (pc := 4) rfl dX10_isPutBy_4 ?_
  refine E_ishr (pc := 5) dX10_isPutBy_5 ?_
  refine E_iconst (pc := 6) 1 rfl dX10_isPutBy_6 ?_
  refine E_iand (pc := 7) dX10_isPutBy_7 ?_
  refine T_if_eq (pc := 8) 15 dX10_isPutBy_8 (by decide) h (fun h => ?_) (fun h => ?_)
  · refine E_iconst (pc := 15) 0 rfl dX10_isPutBy_15 ?_
    exact E_ireturn (pc := 16) rfl (by decide) dX10_isPutBy_16 (QI_of h)
  · refine E_iconst (pc := 11) 1 rfl dX10_isPutBy_11 ?_
    refine E_goto (pc := 12) 16 (by decide) dX10_isPutBy_12 ?_
    exact E_ireturn (pc := 16) rfl (by decide) dX10_isPutBy_16 (QI_of h)
noncomputable def f_X10_inForce (σ : ST) : Option (Int32 × ST) :=
    some (((((nI 1) <<< ((σ.1 2 2) &&& 31)) - (nI 1)) &&& ((σ.1 2 3) ^^^ (-1))), σ)
theorem e_X10_inForce {G : GP} {σ : ST} {v : Int32} {s : ST}  (h : f_X10_inForce σ = some (v, s)) : E G mX10_inForce (0, 0) 0 [.ref 2] [] (mem σ) (QI v s) := by
  unfold f_X10_inForce at h
  refine E_iconst (pc := 0) 1 rfl dX10_inForce_0 ?_
  refine E_aload_n (pc := 1) rfl dX10_inForce_1 ?_
  refine R_getI (pc := 2) f10_18 dX10_inForce_2 (ent_st WO2.1) (by decide) rfl ?_
  refine E_ishl (pc := 5) dX10_inForce_5 ?_
  refine E_iconst (pc := 6) 1 rfl dX10_inForce_6 ?_
  refine E_isub (pc := 7) dX10_inForce_7 ?_
  refine E_aload_n (pc := 8) rfl dX10_inForce_8 ?_
  refine R_getI (pc := 9) f10_21 dX10_inForce_9 (ent_st WO2.1) (by decide) rfl ?_
  refine E_im1 (pc := 12) dX10_inForce_12 ?_
  refine E_ixor (pc := 13) dX10_inForce_13 ?_
  refine E_iand (pc := 14) dX10_inForce_14 ?_
  exact E_ireturn (pc := 15) rfl rfl dX10_inForce_15 (QI_of h)
noncomputable def f_X10_toldBy_5 : Nat → Int32 → Int32 → Int32 → Int32 → ST → Option (Int32 × ST)
  | 0, _, _, _, _, _ => none
  | n + 1, x1, x2, x3, x4, sg =>
    if x4 < (sg.1 2 2) then
    ((rdT sg 7 16 x4).bind fun q3 =>
    nl q3 ((f_X10_toldBy_5 n) x1 x2 x3 (x4 + nI 1) sg) fun q4 =>
    (rdP [6, 4, 8, 9] sg q4 6).bind fun v5 =>
    if v5 = x1 then
    ((rdP [6, 4, 8, 9] sg q4 4).bind fun v6 =>
    if x2 < v6 then
    ((f_X10_toldBy_5 n) x1 x2 x3 (x4 + nI 1) sg)
    else ((f_X10_toldBy_5 n) x1 x2 (x3 ||| ((nI 1) <<< (x4 &&& 31))) (x4 + nI 1) sg))
    else ((f_X10_toldBy_5 n) x1 x2 x3 (x4 + nI 1) sg))
    else (bd2 (f_X10_inForce sg) fun v2 s1 =>
    some ((x3 &&& v2), s1))
theorem e_X10_toldBy_5 {G : GP} {v : Int32} {s : ST}  : ∀ (n : Nat) {x1 : Int32} {x2 : Int32} {x3 : Int32} {x4 : Int32} {sg : ST}, f_X10_toldBy_5 n x1 x2 x3 x4 sg = some (v, s) → E G mX10_toldBy (1, 20) 5 [.ref 2, .int x1, .int x2, .int x3, .int x4, D0] [] (mem sg) (QI v s) := by
  intro n
  induction n with
  | zero => intro _ _ _ _ _ h; rw [f_X10_toldBy_5] at h; cases h
  | succ n ih =>
    intro x1 x2 x3 x4 sg h
    rw [f_X10_toldBy_5] at h
    refine E_iload (pc := 5) rfl dX10_toldBy_5 ?_
    refine E_aload_n (pc := 7) rfl dX10_toldBy_7 ?_
    refine R_getI (pc := 8) f10_18 dX10_toldBy_8 (ent_st WO2.1) (by decide) rfl ?_
    refine T_icmp_ge (pc := 11) 59 dX10_toldBy_11 (by decide) h (fun h => ?_) (fun h => ?_)
    · refine E_iload_n (pc := 59) rfl dX10_toldBy_59 ?_
      refine E_aload_n (pc := 60) rfl dX10_toldBy_60 ?_
      obtain ⟨v2, s1, hp, h⟩ := bd2_some h
      refine E_callV (pc := 61) (As := []) (fc := (0, 0)) s10_116_10 oX10_inForce dX10_toldBy_61 (mem_ob (ent_st WO2.1)) rfl rfl (Nat.le_of_ble_eq_true rfl) rfl rfl (by decide) (e_X10_inForce hp) (fun rv_ M_ hq_ => ?_)
      obtain ⟨rfl, rfl⟩ := hq_
      refine E_iand (pc := 64) dX10_toldBy_64 ?_
      exact E_ireturn (pc := 65) rfl rfl dX10_toldBy_65 (QI_of h)
    · refine E_aload_n (pc := 14) rfl dX10_toldBy_14 ?_
      refine R_getR (pc := 15) (b := 7) f10_45 dX10_toldBy_15 (ent_st WO2.1) (by decide) rfl rfl ?_
      refine E_iload (pc := 18) rfl dX10_toldBy_18 ?_
      refine T_tald (pc := 20) dX10_toldBy_20 (ent_st WO2.2.2.2.2.2.1) (by decide) h (fun q3 h => ?_)
      refine T_astoreQ (pc := 21) (L2 := [_, _, _, _, _, _]) rfl rfl dX10_toldBy_21 ?_
      refine T_aloadQ (pc := 23) rfl dX10_toldBy_23 ?_
      cases q3 with
      | none =>
        replace h := nl_none h
        refine E_ifnullN (pc := 25) 53 (by decide) dX10_toldBy_25 ?_
        refine T_iinc (pc := 53) (m := 1) (L2 := [_, _, _, _, _, _]) rfl rfl rfl rfl dX10_toldBy_53 ?_
        refine E_goto (pc := 56) 5 (by decide) dX10_toldBy_56 ?_
        refine E_kp [true, true, true, true, true, false] (L2 := [_, _, _, _, _, D0]) rfl rfl ?_
        exact ih h
      | some q4 =>
        replace h := nl_some h
        refine E_ifnull (pc := 25) dX10_toldBy_25 ?_
        refine E_aload (pc := 28) rfl dX10_toldBy_28 ?_
        refine T_getP (pc := 30) f10_110 dX10_toldBy_30 (by decide) h (fun v5 h => ?_)
        refine E_iload_n (pc := 33) rfl dX10_toldBy_33 ?_
        refine T_icmp_ne (pc := 34) 53 dX10_toldBy_34 (by decide) h (fun h => ?_) (fun h => ?_)
        · refine T_iinc (pc := 53) (m := 1) (L2 := [_, _, _, _, _, _]) rfl rfl rfl rfl dX10_toldBy_53 ?_
          refine E_goto (pc := 56) 5 (by decide) dX10_toldBy_56 ?_
          refine E_kp [true, true, true, true, true, false] (L2 := [_, _, _, _, _, D0]) rfl rfl ?_
          exact ih h
        · refine E_aload (pc := 37) rfl dX10_toldBy_37 ?_
          refine T_getP (pc := 39) f10_113 dX10_toldBy_39 (by decide) h (fun v6 h => ?_)
          refine E_iload_n (pc := 42) rfl dX10_toldBy_42 ?_
          refine T_icmp_gt (pc := 43) 53 dX10_toldBy_43 (by decide) h (fun h => ?_) (fun h => ?_)
          · refine T_iinc (pc := 53) (m := 1) (L2 := [_, _, _, _, _, _]) rfl rfl rfl rfl dX10_toldBy_53 ?_
            refine E_goto (pc := 56) 5 (by decide) dX10_toldBy_56 ?_
            refine E_kp [true, true, true, true, true, false] (L2 := [_, _, _, _, _, D0]) rfl rfl ?_
            exact ih h
          · refine E_iload_n (pc := 46) rfl dX10_toldBy_46 ?_
            refine E_iconst (pc := 47) 1 rfl dX10_toldBy_47 ?_
            refine E_iload (pc := 48) rfl dX10_toldBy_48 ?_
            refine E_ishl (pc := 50) dX10_toldBy_50 ?_
            refine E_ior (pc := 51) dX10_toldBy_51 ?_
            refine E_istore_n (pc := 52) (L2 := [_, _, _, _, _, _]) rfl rfl dX10_toldBy_52 ?_
            refine T_iinc (pc := 53) (m := 1) (L2 := [_, _, _, _, _, _]) rfl rfl rfl rfl dX10_toldBy_53 ?_
            refine E_goto (pc := 56) 5 (by decide) dX10_toldBy_56 ?_
            refine E_kp [true, true, true, true, true, false] (L2 := [_, _, _, _, _, D0]) rfl rfl ?_
            exact ih h
noncomputable def f_X10_toldBy (x1 : Int32) (x2 : Int32) (σ : ST) : Option (Int32 × ST) :=
    f_X10_toldBy_5 FU x1 x2 (nI 0) (nI 0) σ
theorem e_X10_toldBy {G : GP} {x1 : Int32} {x2 : Int32} {σ : ST} {v : Int32} {s : ST}  (h : f_X10_toldBy x1 x2 σ = some (v, s)) : E G mX10_toldBy (1, 20) 0 [.ref 2, .int x1, .int x2, D0, D0, D0] [] (mem σ) (QI v s) := by
  unfold f_X10_toldBy at h
  refine E_iconst (pc := 0) 0 rfl dX10_toldBy_0 ?_
  refine E_istore_n (pc := 1) (L2 := [_, _, _, _, _, _]) rfl rfl dX10_toldBy_1 ?_
  refine E_iconst (pc := 2) 0 rfl dX10_toldBy_2 ?_
  refine E_istore (pc := 3) (L2 := [_, _, _, _, _, _]) rfl rfl dX10_toldBy_3 ?_
  refine e_X10_toldBy_5  FU h
noncomputable def f_X10_weightOf (x1 : Int32) (σ : ST) : Option (Int32 × ST) :=
    bd2 (f_X10_pieceAt x1 σ) fun v2 s1 =>
    nl v2 (some ((nI 0), s1)) fun q3 =>
    (rdP [6, 4, 8, 9] s1 q3 6).bind fun v4 =>
    (rdI s1 8 6 v4).bind fun v5 =>
    some (v5, s1)
theorem e_X10_weightOf {G : GP} {x1 : Int32} {σ : ST} {v : Int32} {s : ST}  (h : f_X10_weightOf x1 σ = some (v, s)) : E G mX10_weightOf (1, 21) 0 [.ref 2, .int x1, D0] [] (mem σ) (QI v s) := by
  unfold f_X10_weightOf at h
  refine E_aload_n (pc := 0) rfl dX10_weightOf_0 ?_
  refine E_iload_n (pc := 1) rfl dX10_weightOf_1 ?_
  obtain ⟨v2, s1, hp, h⟩ := bd2_some h
  refine E_callV (pc := 2) (As := [_]) (fc := (0, 0)) s10_120_10 oX10_pieceAt dX10_weightOf_2 (mem_ob (ent_st WO2.1)) rfl rfl (Nat.le_of_ble_eq_true rfl) rfl rfl (by decide) (e_X10_pieceAt hp) (fun rv_ M_ hq_ => ?_)
  obtain ⟨rfl, rfl⟩ := hq_
  refine T_astore_nQ (pc := 5) (L2 := [_, _, _]) rfl rfl dX10_weightOf_5 ?_
  refine T_aload_nQ (pc := 6) rfl dX10_weightOf_6 ?_
  cases v2 with
  | none =>
    replace h := nl_none h
    refine E_ifnonnullN (pc := 7) dX10_weightOf_7 ?_
    refine E_iconst (pc := 10) 0 rfl dX10_weightOf_10 ?_
    refine E_goto (pc := 11) 23 (by decide) dX10_weightOf_11 ?_
    exact E_ireturn (pc := 23) rfl rfl dX10_weightOf_23 (QI_of h)
  | some q3 =>
    replace h := nl_some h
    refine E_ifnonnull (pc := 7) 14 (by decide) dX10_weightOf_7 ?_
    refine E_aload_n (pc := 14) rfl dX10_weightOf_14 ?_
    refine R_getR (pc := 15) (b := 8) f10_49 dX10_weightOf_15 (ent_st WO2.1) (by decide) rfl rfl ?_
    refine E_aload_n (pc := 18) rfl dX10_weightOf_18 ?_
    refine T_getP (pc := 19) f10_110 dX10_weightOf_19 (by decide) h (fun v4 h => ?_)
    refine T_iald (pc := 22) dX10_weightOf_22 (ent_st WO2.2.2.2.2.2.2) (by decide) h (fun v5 h => ?_)
    exact E_ireturn (pc := 23) rfl rfl dX10_weightOf_23 (QI_of h)
noncomputable def f_X10_isSeenIn_2 : Nat → Int32 → Int32 → ST → Option (Int32 × ST)
  | 0, _, _, _ => none
  | n + 1, x1, x2, sg =>
    if x2 < (sg.1 2 2) then
    ((rdT sg 7 16 x2).bind fun q1 =>
    nl q1 ((f_X10_isSeenIn_2 n) x1 (x2 + nI 1) sg) fun q2 =>
    (rdP [6, 4, 8, 9] sg q2 1).bind fun v3 =>
    if v3 = 0 then
    ((rdP [6, 4, 8, 9] sg q2 3).bind fun v4 =>
    if v4 = x1 then
    (bd2 (f_X10_isPutBy x2 sg) fun v6 s5 =>
    if v6 = 0 then
    (some ((nI 1), s5))
    else ((f_X10_isSeenIn_2 n) x1 (x2 + nI 1) s5))
    else ((f_X10_isSeenIn_2 n) x1 (x2 + nI 1) sg))
    else ((f_X10_isSeenIn_2 n) x1 (x2 + nI 1) sg))
    else (some ((nI 0), sg))
theorem e_X10_isSeenIn_2 {G : GP} {v : Int32} {s : ST}  : ∀ (n : Nat) {x1 : Int32} {x2 : Int32} {sg : ST}, f_X10_isSeenIn_2 n x1 x2 sg = some (v, s) → E G mX10_isSeenIn (1, 21) 2 [.ref 2, .int x1, .int x2, D0] [] (mem sg) (QI v s) := by
  intro n
  induction n with
  | zero => intro _ _ _ h; rw [f_X10_isSeenIn_2] at h; cases h
  | succ n ih =>
    intro x1 x2 sg h
    rw [f_X10_isSeenIn_2] at h
    refine E_iload_n (pc := 2) rfl dX10_isSeenIn_2 ?_
    refine E_aload_n (pc := 3) rfl dX10_isSeenIn_3 ?_
    refine R_getI (pc := 4) f10_18 dX10_isSeenIn_4 (ent_st WO2.1) (by decide) rfl ?_
    refine T_icmp_ge (pc := 7) 52 dX10_isSeenIn_7 (by decide) h (fun h => ?_) (fun h => ?_)
    · refine E_iconst (pc := 52) 0 rfl dX10_isSeenIn_52 ?_
      exact E_ireturn (pc := 53) rfl (by decide) dX10_isSeenIn_53 (QI_of h)
    · refine E_aload_n (pc := 10) rfl dX10_isSeenIn_10 ?_
      refine R_getR (pc := 11) (b := 7) f10_45 dX10_isSeenIn_11 (ent_st WO2.1) (by decide) rfl rfl ?_
      refine E_iload_n (pc := 14) rfl dX10_isSeenIn_14 ?_
      refine T_tald (pc := 15) dX10_isSeenIn_15 (ent_st WO2.2.2.2.2.2.1) (by decide) h (fun q1 h => ?_)
      refine T_astore_nQ (pc := 16) (L2 := [_, _, _, _]) rfl rfl dX10_isSeenIn_16 ?_
      refine T_aload_nQ (pc := 17) rfl dX10_isSeenIn_17 ?_
      cases q1 with
      | none =>
        replace h := nl_none h
        refine E_ifnullN (pc := 18) 46 (by decide) dX10_isSeenIn_18 ?_
        refine T_iinc (pc := 46) (m := 1) (L2 := [_, _, _, _]) rfl rfl rfl rfl dX10_isSeenIn_46 ?_
        refine E_goto (pc := 49) 2 (by decide) dX10_isSeenIn_49 ?_
        refine E_kp [true, true, true, false] (L2 := [_, _, _, D0]) rfl rfl ?_
        exact ih h
      | some q2 =>
        replace h := nl_some h
        refine E_ifnull (pc := 18) dX10_isSeenIn_18 ?_
        refine E_aload_n (pc := 21) rfl dX10_isSeenIn_21 ?_
        refine T_getP (pc := 22) f10_91 dX10_isSeenIn_22 (by decide) h (fun v3 h => ?_)
        refine T_if_ne (pc := 25) 46 dX10_isSeenIn_25 (by decide) h (fun h => ?_) (fun h => ?_)
        · refine T_iinc (pc := 46) (m := 1) (L2 := [_, _, _, _]) rfl rfl rfl rfl dX10_isSeenIn_46 ?_
          refine E_goto (pc := 49) 2 (by decide) dX10_isSeenIn_49 ?_
          refine E_kp [true, true, true, false] (L2 := [_, _, _, D0]) rfl rfl ?_
          exact ih h
        · refine E_aload_n (pc := 28) rfl dX10_isSeenIn_28 ?_
          refine T_getP (pc := 29) f10_124 dX10_isSeenIn_29 (by decide) h (fun v4 h => ?_)
          refine E_iload_n (pc := 32) rfl dX10_isSeenIn_32 ?_
          refine T_icmp_ne (pc := 33) 46 dX10_isSeenIn_33 (by decide) h (fun h => ?_) (fun h => ?_)
          · refine T_iinc (pc := 46) (m := 1) (L2 := [_, _, _, _]) rfl rfl rfl rfl dX10_isSeenIn_46 ?_
            refine E_goto (pc := 49) 2 (by decide) dX10_isSeenIn_49 ?_
            refine E_kp [true, true, true, false] (L2 := [_, _, _, D0]) rfl rfl ?_
            exact ih h
          · refine E_aload_n (pc := 36) rfl dX10_isSeenIn_36 ?_
            refine E_iload_n (pc := 37) rfl dX10_isSeenIn_37 ?_
            obtain ⟨v6, s5, hp, h⟩ := bd2_some h
            refine E_callV (pc := 38) (As := [_]) (fc := (0, 0)) s10_127_10 oX10_isPutBy dX10_isSeenIn_38 (mem_ob (ent_st WO2.1)) rfl rfl (Nat.le_of_ble_eq_true rfl) rfl rfl (by decide) (e_X10_isPutBy hp) (fun rv_ M_ hq_ => ?_)
            obtain ⟨rfl, rfl⟩ := hq_
            refine T_if_ne (pc := 41) 46 dX10_isSeenIn_41 (by decide) h (fun h => ?_) (fun h => ?_)
            · refine T_iinc (pc := 46) (m := 1) (L2 := [_, _, _, _]) rfl rfl rfl rfl dX10_isSeenIn_46 ?_
              refine E_goto (pc := 49) 2 (by decide) dX10_isSeenIn_49 ?_
              refine E_kp [true, true, true, false] (L2 := [_, _, _, D0]) rfl rfl ?_
              exact ih h
            · refine E_iconst (pc := 44) 1 rfl dX10_isSeenIn_44 ?_
              exact E_ireturn (pc := 45) rfl (by decide) dX10_isSeenIn_45 (QI_of h)
noncomputable def f_X10_isSeenIn (x1 : Int32) (σ : ST) : Option (Int32 × ST) :=
    f_X10_isSeenIn_2 FU x1 (nI 0) σ
theorem e_X10_isSeenIn {G : GP} {x1 : Int32} {σ : ST} {v : Int32} {s : ST}  (h : f_X10_isSeenIn x1 σ = some (v, s)) : E G mX10_isSeenIn (1, 21) 0 [.ref 2, .int x1, D0, D0] [] (mem σ) (QI v s) := by
  unfold f_X10_isSeenIn at h
  refine E_iconst (pc := 0) 0 rfl dX10_isSeenIn_0 ?_
  refine E_istore_n (pc := 1) (L2 := [_, _, _, _]) rfl rfl dX10_isSeenIn_1 ?_
  refine e_X10_isSeenIn_2  FU h
noncomputable def f_X10_nextOf_96 (x3 : Int32) (x5 : Int32) (x6 : Int32) (x7 : Int32) (sg : ST) : Option (Int32 × ST) :=
    if x7 = 0 then
    (if ((x3 >>> ((nI 16) &&& 31)) &&& (nI 1)) = 0 then
    (bd2 (f_X10_countOf (nI 1) sg) fun v2 s1 =>
    some (((x6 <<< (v2 &&& 31)) ||| x5), s1))
    else (if x6 < (nI 7) then
    (bd2 (f_X10_countOf (nI 1) sg) fun v6 s5 =>
    some ((((x6 + nI 1) <<< (v6 &&& 31)) ||| x5), s5))
    else (bd2 (f_X10_countOf (nI 1) sg) fun v4 s3 =>
    some (((x6 <<< (v4 &&& 31)) ||| x5), s3))))
    else (bd2 (f_X10_countOf (nI 1) sg) fun v8 s7 =>
    some ((((nI 0) <<< (v8 &&& 31)) ||| x5), s7))
theorem e_X10_nextOf_96 {G : GP} {x3 : Int32} {x5 : Int32} {x6 : Int32} {x7 : Int32} {sg : ST} {v : Int32} {s : ST}  (h : f_X10_nextOf_96 x3 x5 x6 x7 sg = some (v, s)) : E G mX10_nextOf (1, 23) 96 [.ref 2, D0, D0, .int x3, D0, .int x5, .int x6, .int x7, D0, D0] [] (mem sg) (QI v s) := by
  unfold f_X10_nextOf_96 at h
  refine E_iload (pc := 96) rfl dX10_nextOf_96 ?_
  refine T_if_eq (pc := 98) 107 dX10_nextOf_98 (by decide) h (fun h => ?_) (fun h => ?_)
  · refine E_iload_n (pc := 107) rfl dX10_nextOf_107 ?_
    refine E_bipush (pc := 108) (nI 16) (by decide) dX10_nextOf_108 ?_
    refine E_ishr (pc := 110) dX10_nextOf_110 ?_
    refine E_iconst (pc := 111) 1 rfl dX10_nextOf_111 ?_
    refine E_iand (pc := 112) dX10_nextOf_112 ?_
    refine T_if_eq (pc := 113) 126 dX10_nextOf_113 (by decide) h (fun h => ?_) (fun h => ?_)
    · refine E_iload (pc := 126) rfl dX10_nextOf_126 ?_
      refine E_aload_n (pc := 128) rfl dX10_nextOf_128 ?_
      refine E_iconst (pc := 129) 1 rfl dX10_nextOf_129 ?_
      obtain ⟨v2, s1, hp, h⟩ := bd2_some h
      refine E_callV (pc := 130) (As := [_]) (fc := (0, 0)) s10_73_10 oX10_countOf dX10_nextOf_130 (mem_ob (ent_st WO2.1)) rfl rfl (Nat.le_of_ble_eq_true rfl) rfl rfl (by decide) (e_X10_countOf hp) (fun rv_ M_ hq_ => ?_)
      obtain ⟨rfl, rfl⟩ := hq_
      refine E_ishl (pc := 133) dX10_nextOf_133 ?_
      refine E_iload (pc := 134) rfl dX10_nextOf_134 ?_
      refine E_ior (pc := 136) dX10_nextOf_136 ?_
      exact E_ireturn (pc := 137) rfl rfl dX10_nextOf_137 (QI_of h)
    · refine E_iload (pc := 116) rfl dX10_nextOf_116 ?_
      refine E_bipush (pc := 118) (nI 7) (by decide) dX10_nextOf_118 ?_
      refine T_icmp_ge (pc := 120) 126 dX10_nextOf_120 (by decide) h (fun h => ?_) (fun h => ?_)
      · refine E_iload (pc := 126) rfl dX10_nextOf_126 ?_
        refine E_aload_n (pc := 128) rfl dX10_nextOf_128 ?_
        refine E_iconst (pc := 129) 1 rfl dX10_nextOf_129 ?_
        obtain ⟨v4, s3, hp, h⟩ := bd2_some h
        refine E_callV (pc := 130) (As := [_]) (fc := (0, 0)) s10_73_10 oX10_countOf dX10_nextOf_130 (mem_ob (ent_st WO2.1)) rfl rfl (Nat.le_of_ble_eq_true rfl) rfl rfl (by decide) (e_X10_countOf hp) (fun rv_ M_ hq_ => ?_)
        obtain ⟨rfl, rfl⟩ := hq_
        refine E_ishl (pc := 133) dX10_nextOf_133 ?_
        refine E_iload (pc := 134) rfl dX10_nextOf_134 ?_
        refine E_ior (pc := 136) dX10_nextOf_136 ?_
        exact E_ireturn (pc := 137) rfl rfl dX10_nextOf_137 (QI_of h)
      · refine T_iinc (pc := 123) (m := 1) (L2 := [_, _, _, _, _, _, _, _, _, _]) rfl rfl rfl rfl dX10_nextOf_123 ?_
        refine E_iload (pc := 126) rfl dX10_nextOf_126 ?_
        refine E_aload_n (pc := 128) rfl dX10_nextOf_128 ?_
        refine E_iconst (pc := 129) 1 rfl dX10_nextOf_129 ?_
        obtain ⟨v6, s5, hp, h⟩ := bd2_some h
        refine E_callV (pc := 130) (As := [_]) (fc := (0, 0)) s10_73_10 oX10_countOf dX10_nextOf_130 (mem_ob (ent_st WO2.1)) rfl rfl (Nat.le_of_ble_eq_true rfl) rfl rfl (by decide) (e_X10_countOf hp) (fun rv_ M_ hq_ => ?_)
        obtain ⟨rfl, rfl⟩ := hq_
        refine E_ishl (pc := 133) dX10_nextOf_133 ?_
        refine E_iload (pc := 134) rfl dX10_nextOf_134 ?_
        refine E_ior (pc := 136) dX10_nextOf_136 ?_
        exact E_ireturn (pc := 137) rfl rfl dX10_nextOf_137 (QI_of h)
  · refine E_iconst (pc := 101) 0 rfl dX10_nextOf_101 ?_
    refine E_istore (pc := 102) (L2 := [_, _, _, _, _, _, _, _, _, _]) rfl rfl dX10_nextOf_102 ?_
    refine E_goto (pc := 104) 126 (by decide) dX10_nextOf_104 ?_
    refine E_iload (pc := 126) rfl dX10_nextOf_126 ?_
    refine E_aload_n (pc := 128) rfl dX10_nextOf_128 ?_
    refine E_iconst (pc := 129) 1 rfl dX10_nextOf_129 ?_
    obtain ⟨v8, s7, hp, h⟩ := bd2_some h
    refine E_callV (pc := 130) (As := [_]) (fc := (0, 0)) s10_73_10 oX10_countOf dX10_nextOf_130 (mem_ob (ent_st WO2.1)) rfl rfl (Nat.le_of_ble_eq_true rfl) rfl rfl (by decide) (e_X10_countOf hp) (fun rv_ M_ hq_ => ?_)
    obtain ⟨rfl, rfl⟩ := hq_
    refine E_ishl (pc := 133) dX10_nextOf_133 ?_
    refine E_iload (pc := 134) rfl dX10_nextOf_134 ?_
    refine E_ior (pc := 136) dX10_nextOf_136 ?_
    exact E_ireturn (pc := 137) rfl rfl dX10_nextOf_137 (QI_of h)
noncomputable def f_X10_nextOf_66 (a8 : Nat) (x3 : Int32) (x5 : Int32) (x6 : Int32) (x7 : Int32) (x9 : Int32) (sg : ST) : Option (Int32 × ST) :=
    if x9 = 0 then
    (f_X10_nextOf_96 x3 x5 x6 x7 sg)
    else (f_X10_nextOf_96 x3 ((x5 &&& ((sg.1 a8 2) ^^^ (-1))) ||| (sg.1 a8 1)) x6 (sg.1 a8 3) sg)
theorem e_X10_nextOf_66 {G : GP} {a8 : Nat} {x3 : Int32} {x5 : Int32} {x6 : Int32} {x7 : Int32} {x9 : Int32} {sg : ST} {v : Int32} {s : ST} (h8 : LA a8) (h : f_X10_nextOf_66 a8 x3 x5 x6 x7 x9 sg = some (v, s)) : E G mX10_nextOf (1, 23) 66 [.ref 2, D0, D0, .int x3, D0, .int x5, .int x6, .int x7, .ref a8, .int x9] [] (mem sg) (QI v s) := by
  unfold f_X10_nextOf_66 at h
  refine E_iload (pc := 66) rfl dX10_nextOf_66 ?_
  refine T_if_eq (pc := 68) 96 dX10_nextOf_68 (by decide) h (fun h => ?_) (fun h => ?_)
  · refine E_kp [true, false, false, true, false, true, true, true, false, false] (L2 := [_, D0, D0, _, D0, _, _, _, D0, D0]) rfl rfl ?_
    refine e_X10_nextOf_96  h
  · refine E_iload (pc := 71) rfl dX10_nextOf_71 ?_
    refine E_aload (pc := 73) rfl dX10_nextOf_73 ?_
    refine R_getI (pc := 75) f10_157 dX10_nextOf_75 (ent_st h8.1) (by decide) rfl ?_
    refine E_im1 (pc := 78) dX10_nextOf_78 ?_
    refine E_ixor (pc := 79) dX10_nextOf_79 ?_
    refine E_iand (pc := 80) dX10_nextOf_80 ?_
    refine E_aload (pc := 81) rfl dX10_nextOf_81 ?_
    refine R_getI (pc := 83) f10_160 dX10_nextOf_83 (ent_st h8.1) (by decide) rfl ?_
    refine E_ior (pc := 86) dX10_nextOf_86 ?_
    refine E_istore (pc := 87) (L2 := [_, _, _, _, _, _, _, _, _, _]) rfl rfl dX10_nextOf_87 ?_
    refine E_aload (pc := 89) rfl dX10_nextOf_89 ?_
    refine R_getI (pc := 91) f10_163 dX10_nextOf_91 (ent_st h8.1) (by decide) rfl ?_
    refine E_istore (pc := 94) (L2 := [_, _, _, _, _, _, _, _, _, _]) rfl rfl dX10_nextOf_94 ?_
    refine E_kp [true, false, false, true, false, true, true, true, false, false] (L2 := [_, D0, D0, _, D0, _, _, _, D0, D0]) rfl rfl ?_
    refine e_X10_nextOf_96  h
noncomputable def f_X10_nextOf_49 (a8 : Nat) (x3 : Int32) (x5 : Int32) (x6 : Int32) (x7 : Int32) (z0 : Int32) (sg : ST) : Option (Int32 × ST) :=
    if z0 = 0 then
    (if (sg.1 a8 5) = 0 then
    (f_X10_nextOf_66 a8 x3 x5 x6 x7 z0 sg)
    else (some ((-1), sg)))
    else (f_X10_nextOf_66 a8 x3 x5 x6 x7 z0 sg)
theorem e_X10_nextOf_49 {G : GP} {a8 : Nat} {x3 : Int32} {x5 : Int32} {x6 : Int32} {x7 : Int32} {z0 : Int32} {sg : ST} {v : Int32} {s : ST} (h8 : LA a8) (h : f_X10_nextOf_49 a8 x3 x5 x6 x7 z0 sg = some (v, s)) : E G mX10_nextOf (1, 23) 49 [.ref 2, D0, D0, .int x3, D0, .int x5, .int x6, .int x7, .ref a8, D0] [.int z0] (mem sg) (QI v s) := by
  unfold f_X10_nextOf_49 at h
  refine E_istore (pc := 49) (L2 := [_, _, _, _, _, _, _, _, _, _]) rfl rfl dX10_nextOf_49 ?_
  refine E_iload (pc := 51) rfl dX10_nextOf_51 ?_
  refine T_if_ne (pc := 53) 66 dX10_nextOf_53 (by decide) h (fun h => ?_) (fun h => ?_)
  · refine e_X10_nextOf_66 h8 h
  · refine E_aload (pc := 56) rfl dX10_nextOf_56 ?_
    refine R_getI (pc := 58) f10_87 dX10_nextOf_58 (ent_st h8.1) (by decide) rfl ?_
    refine T_if_eq (pc := 61) 66 dX10_nextOf_61 (by decide) h (fun h => ?_) (fun h => ?_)
    · refine e_X10_nextOf_66 h8 h
    · refine E_im1 (pc := 64) dX10_nextOf_64 ?_
      exact E_ireturn (pc := 65) rfl rfl dX10_nextOf_65 (QI_of h)
noncomputable def f_X10_nextOf (x1 : Int32) (x2 : Int32) (x3 : Int32) (x4 : Int32) (σ : ST) : Option (Int32 × ST) :=
    if x4 < 0 then
    (f_X10_nextOf_96 x3 x1 x2 (nI 0) σ)
    else (if x4 < (σ.1 2 1) then
    ((ixR 6 x4).bind fun j9 =>
    if ((x3 >>> (((nI 10) + x4) &&& 31)) &&& (nI 1)) = 0 then
    (f_X10_nextOf_49 (2 + 57 + 6 * j9) x3 x1 x2 (nI 0) (nI 0) σ)
    else (f_X10_nextOf_49 (2 + 57 + 6 * j9) x3 x1 x2 (nI 0) (nI 1) σ))
    else (f_X10_nextOf_96 x3 x1 x2 (nI 0) σ))
theorem e_X10_nextOf {G : GP} {x1 : Int32} {x2 : Int32} {x3 : Int32} {x4 : Int32} {σ : ST} {v : Int32} {s : ST}  (h : f_X10_nextOf x1 x2 x3 x4 σ = some (v, s)) : E G mX10_nextOf (1, 23) 0 [.ref 2, .int x1, .int x2, .int x3, .int x4, D0, D0, D0, D0, D0] [] (mem σ) (QI v s) := by
  unfold f_X10_nextOf at h
  refine E_iload_n (pc := 0) rfl dX10_nextOf_0 ?_
  refine E_istore (pc := 1) (L2 := [_, _, _, _, _, _, _, _, _, _]) rfl rfl dX10_nextOf_1 ?_
  refine E_iload_n (pc := 3) rfl dX10_nextOf_3 ?_
  refine E_istore (pc := 4) (L2 := [_, _, _, _, _, _, _, _, _, _]) rfl rfl dX10_nextOf_4 ?_
  refine E_iconst (pc := 6) 0 rfl dX10_nextOf_6 ?_
  refine E_istore (pc := 7) (L2 := [_, _, _, _, _, _, _, _, _, _]) rfl rfl dX10_nextOf_7 ?_
  refine E_iload (pc := 9) rfl dX10_nextOf_9 ?_
  refine T_if_lt (pc := 11) 96 dX10_nextOf_11 (by decide) h (fun h => ?_) (fun h => ?_)
  · refine E_kp [true, false, false, true, false, true, true, true, false, false] (L2 := [_, D0, D0, _, D0, _, _, _, D0, D0]) rfl rfl ?_
    refine e_X10_nextOf_96  h
  · refine E_iload (pc := 14) rfl dX10_nextOf_14 ?_
    refine E_aload_n (pc := 16) rfl dX10_nextOf_16 ?_
    refine R_getI (pc := 17) f10_15 dX10_nextOf_17 (ent_st WO2.1) (by decide) rfl ?_
    refine T_icmp_ge (pc := 20) 96 dX10_nextOf_20 (by decide) h (fun h => ?_) (fun h => ?_)
    · refine E_kp [true, false, false, true, false, true, true, true, false, false] (L2 := [_, D0, D0, _, D0, _, _, _, D0, D0]) rfl rfl ?_
      refine e_X10_nextOf_96  h
    · refine E_aload_n (pc := 23) rfl dX10_nextOf_23 ?_
      refine R_getR (pc := 24) (b := 6) f10_39 dX10_nextOf_24 (ent_st WO2.1) (by decide) rfl rfl ?_
      refine E_iload (pc := 27) rfl dX10_nextOf_27 ?_
      refine T_rald (pc := 29) (b := fun i => 2 + 57 + 6 * i) dX10_nextOf_29 (ent_st WO2.2.2.2.2.1) (by decide) (by decide) h (fun j9 hj9 h => ?_)
      refine E_astore (pc := 30) (L2 := [_, _, _, _, _, _, _, _, _, _]) rfl rfl dX10_nextOf_30 ?_
      refine E_iload_n (pc := 32) rfl dX10_nextOf_32 ?_
      refine E_bipush (pc := 33) (nI 10) (by decide) dX10_nextOf_33 ?_
      refine E_iload (pc := 35) rfl dX10_nextOf_35 ?_
      refine E_iadd (pc := 37) dX10_nextOf_37 ?_
      refine E_ishr (pc := 38) dX10_nextOf_38 ?_
      refine E_iconst (pc := 39) 1 rfl dX10_nextOf_39 ?_
      refine E_iand (pc := 40) dX10_nextOf_40 ?_
      refine T_if_eq (pc := 41) 48 dX10_nextOf_41 (by decide) h (fun h => ?_) (fun h => ?_)
      · refine E_iconst (pc := 48) 0 rfl dX10_nextOf_48 ?_
        refine E_kp [true, false, false, true, false, true, true, true, true, false] (L2 := [_, D0, D0, _, D0, _, _, _, _, D0]) rfl rfl ?_
        refine e_X10_nextOf_49 (LA_w 2 (Or.inl rfl) j9 hj9) h
      · refine E_iconst (pc := 44) 1 rfl dX10_nextOf_44 ?_
        refine E_goto (pc := 45) 49 (by decide) dX10_nextOf_45 ?_
        refine E_kp [true, false, false, true, false, true, true, true, true, false] (L2 := [_, D0, D0, _, D0, _, _, _, _, D0]) rfl rfl ?_
        refine e_X10_nextOf_49 (LA_w 2 (Or.inl rfl) j9 hj9) h
noncomputable def f_X10_isThingSo (x1 : Int32) (x2 : Int32) (x3 : Int32) (x4 : Int32) (x5 : Int32) (σ : ST) : Option (Int32 × ST) :=
    (rdI σ 3 10 x1).bind fun v1 =>
    if v1 = nI 0 then
    ((rdI σ 4 10 x1).bind fun v2 =>
    if ((x3 >>> (v2 &&& 31)) &&& (nI 1)) = 0 then
    (some ((nI 0), σ))
    else (some ((nI 1), σ)))
    else if v1 = nI 1 then
    ((rdI σ 4 10 x1).bind fun v3 =>
    if ((x4 >>> (v3 &&& 31)) &&& (nI 1)) = 0 then
    (some ((nI 0), σ))
    else (some ((nI 1), σ)))
    else if v1 = nI 2 then
    ((ixR 10 x1).bind fun j4 =>
    bd2 (f_X1_isMet (2 + 7 + 5 * j4) x2 x5 σ) fun v6 s5 =>
    zr v6 s5)
    else (if 0 < x5 then
    (some ((nI 1), σ))
    else (some ((nI 0), σ)))
theorem e_X10_isThingSo {G : GP} {x1 : Int32} {x2 : Int32} {x3 : Int32} {x4 : Int32} {x5 : Int32} {σ : ST} {v : Int32} {s : ST}  (h : f_X10_isThingSo x1 x2 x3 x4 x5 σ = some (v, s)) : E G mX10_isThingSo (1, 24) 0 [.ref 2, .int x1, .int x2, .int x3, .int x4, .int x5] [] (mem σ) (QI v s) := by
  unfold f_X10_isThingSo at h
  refine E_aload_n (pc := 0) rfl dX10_isThingSo_0 ?_
  refine R_getR (pc := 1) (b := 3) f10_24 dX10_isThingSo_1 (ent_st WO2.1) (by decide) rfl rfl ?_
  refine E_iload_n (pc := 4) rfl dX10_isThingSo_4 ?_
  refine T_iald (pc := 5) dX10_isThingSo_5 (ent_st WO2.2.1) (by decide) h (fun v1 h => ?_)
  refine T_tbl (pc := 6) (m := 0) 32 (by omega) (by decide) (by decide) dX10_isThingSo_6 rfl (by decide) h (fun h => ?_) (fun u6_0 h => ?_)
  · refine E_iload_n (pc := 32) rfl dX10_isThingSo_32 ?_
    refine E_aload_n (pc := 33) rfl dX10_isThingSo_33 ?_
    refine R_getR (pc := 34) (b := 4) f10_28 dX10_isThingSo_34 (ent_st WO2.1) (by decide) rfl rfl ?_
    refine E_iload_n (pc := 37) rfl dX10_isThingSo_37 ?_
    refine T_iald (pc := 38) dX10_isThingSo_38 (ent_st WO2.2.2.1) (by decide) h (fun v2 h => ?_)
    refine E_ishr (pc := 39) dX10_isThingSo_39 ?_
    refine E_iconst (pc := 40) 1 rfl dX10_isThingSo_40 ?_
    refine E_iand (pc := 41) dX10_isThingSo_41 ?_
    refine T_if_eq (pc := 42) 49 dX10_isThingSo_42 (by decide) h (fun h => ?_) (fun h => ?_)
    · refine E_iconst (pc := 49) 0 rfl dX10_isThingSo_49 ?_
      exact E_ireturn (pc := 50) rfl (by decide) dX10_isThingSo_50 (QI_of h)
    · refine E_iconst (pc := 45) 1 rfl dX10_isThingSo_45 ?_
      refine E_goto (pc := 46) 50 (by decide) dX10_isThingSo_46 ?_
      exact E_ireturn (pc := 50) rfl (by decide) dX10_isThingSo_50 (QI_of h)
  refine T_tbl (pc := 6) (m := 1) 51 (by omega) (by decide) (by decide) dX10_isThingSo_6 rfl (by decide) h (fun h => ?_) (fun u6_1 h => ?_)
  · refine E_iload (pc := 51) rfl dX10_isThingSo_51 ?_
    refine E_aload_n (pc := 53) rfl dX10_isThingSo_53 ?_
    refine R_getR (pc := 54) (b := 4) f10_28 dX10_isThingSo_54 (ent_st WO2.1) (by decide) rfl rfl ?_
    refine E_iload_n (pc := 57) rfl dX10_isThingSo_57 ?_
    refine T_iald (pc := 58) dX10_isThingSo_58 (ent_st WO2.2.2.1) (by decide) h (fun v3 h => ?_)
    refine E_ishr (pc := 59) dX10_isThingSo_59 ?_
    refine E_iconst (pc := 60) 1 rfl dX10_isThingSo_60 ?_
    refine E_iand (pc := 61) dX10_isThingSo_61 ?_
    refine T_if_eq (pc := 62) 69 dX10_isThingSo_62 (by decide) h (fun h => ?_) (fun h => ?_)
    · refine E_iconst (pc := 69) 0 rfl dX10_isThingSo_69 ?_
      exact E_ireturn (pc := 70) rfl (by decide) dX10_isThingSo_70 (QI_of h)
    · refine E_iconst (pc := 65) 1 rfl dX10_isThingSo_65 ?_
      refine E_goto (pc := 66) 70 (by decide) dX10_isThingSo_66 ?_
      exact E_ireturn (pc := 70) rfl (by decide) dX10_isThingSo_70 (QI_of h)
  refine T_tbl (pc := 6) (m := 2) 71 (by omega) (by decide) (by decide) dX10_isThingSo_6 rfl (by decide) h (fun h => ?_) (fun u6_2 h => ?_)
  · refine E_aload_n (pc := 71) rfl dX10_isThingSo_71 ?_
    refine R_getR (pc := 72) (b := 5) f10_33 dX10_isThingSo_72 (ent_st WO2.1) (by decide) rfl rfl ?_
    refine E_iload_n (pc := 75) rfl dX10_isThingSo_75 ?_
    refine T_rald (pc := 76) (b := fun i => 2 + 7 + 5 * i) dX10_isThingSo_76 (ent_st WO2.2.2.2.1) (by decide) (by decide) h (fun j4 hj4 h => ?_)
    refine E_iload_n (pc := 77) rfl dX10_isThingSo_77 ?_
    refine E_iload (pc := 78) rfl dX10_isThingSo_78 ?_
    obtain ⟨v6, s5, hp, h⟩ := bd2_some h
    refine E_callV (pc := 80) (As := [_, _]) (fc := (0, 0)) s10_148_1 oX1_isMet dX10_isThingSo_80 (mem_ob (ent_st (CO_w 2 (Or.inl rfl) j4 hj4).1)) rfl rfl (Nat.le_of_ble_eq_true rfl) rfl rfl (by decide) (e_X1_isMet (CO_w 2 (Or.inl rfl) j4 hj4) hp) (fun rv_ M_ hq_ => ?_)
    obtain ⟨rfl, rfl⟩ := hq_
    exact T_zret (pc := 83) rfl dX10_isThingSo_83 h
  refine E_tblOut (pc := 6) 84 (by omega) (by decide) dX10_isThingSo_6 ?_
  refine E_iload (pc := 84) rfl dX10_isThingSo_84 ?_
  refine T_if_le (pc := 86) 93 dX10_isThingSo_86 (by decide) h (fun h => ?_) (fun h => ?_)
  · refine E_iconst (pc := 93) 0 rfl dX10_isThingSo_93 ?_
    exact E_ireturn (pc := 94) rfl (by decide) dX10_isThingSo_94 (QI_of h)
  · refine E_iconst (pc := 89) 1 rfl dX10_isThingSo_89 ?_
    refine E_goto (pc := 90) 94 (by decide) dX10_isThingSo_90 ?_
    exact E_ireturn (pc := 94) rfl (by decide) dX10_isThingSo_94 (QI_of h)
noncomputable def f_X10_truthOf_9 (k47 : Int32 → Int32 → Int32 → ST → Option (Int32 × ST)) : Nat → Int32 → Int32 → Int32 → Int32 → Int32 → Int32 → ST → Option (Int32 × ST)
  | 0, _, _, _, _, _, _, _ => none
  | n + 1, x1, x2, x3, x4, x5, x6, sg =>
    if x6 < (sg.1 2 0) then
    (bd2 (f_X10_isThingSo x6 x4 x1 x2 x3 sg) fun v2 s1 =>
    if v2 = 0 then
    ((f_X10_truthOf_9 k47 n) x1 x2 x3 x4 x5 (x6 + nI 1) s1)
    else ((f_X10_truthOf_9 k47 n) x1 x2 x3 (x4 ||| ((nI 1) <<< (x6 &&& 31))) x5 (x6 + nI 1) s1))
    else (k47 x3 x4 x5 sg)
theorem e_X10_truthOf_9 {G : GP} {k47 : Int32 → Int32 → Int32 → ST → Option (Int32 × ST)} {v : Int32} {s : ST} (hk47 : ∀ {x3 : Int32} {x4 : Int32} {x5 : Int32} {sg : ST}, k47 x3 x4 x5 sg = some (v, s) → E G mX10_truthOf (2, 49) 47 [.ref 2, D0, D0, .int x3, .int x4, .int x5, D0] [] (mem sg) (QI v s)) : ∀ (n : Nat) {x1 : Int32} {x2 : Int32} {x3 : Int32} {x4 : Int32} {x5 : Int32} {x6 : Int32} {sg : ST}, f_X10_truthOf_9 k47 n x1 x2 x3 x4 x5 x6 sg = some (v, s) → E G mX10_truthOf (2, 49) 9 [.ref 2, .int x1, .int x2, .int x3, .int x4, .int x5, .int x6] [] (mem sg) (QI v s) := by
  intro n
  induction n with
  | zero => intro _ _ _ _ _ _ _ h; rw [f_X10_truthOf_9] at h; cases h
  | succ n ih =>
    intro x1 x2 x3 x4 x5 x6 sg h
    rw [f_X10_truthOf_9] at h
    refine E_iload (pc := 9) rfl dX10_truthOf_9 ?_
    refine E_aload_n (pc := 11) rfl dX10_truthOf_11 ?_
    refine R_getI (pc := 12) f10_9 dX10_truthOf_12 (ent_st WO2.1) (by decide) rfl ?_
    refine T_icmp_ge (pc := 15) 47 dX10_truthOf_15 (by decide) h (fun h => ?_) (fun h => ?_)
    · refine E_kp [true, false, false, true, true, true, false] (L2 := [_, D0, D0, _, _, _, D0]) rfl rfl ?_
      exact hk47 h
    · refine E_aload_n (pc := 18) rfl dX10_truthOf_18 ?_
      refine E_iload (pc := 19) rfl dX10_truthOf_19 ?_
      refine E_iload (pc := 21) rfl dX10_truthOf_21 ?_
      refine E_iload_n (pc := 23) rfl dX10_truthOf_23 ?_
      refine E_iload_n (pc := 24) rfl dX10_truthOf_24 ?_
      refine E_iload_n (pc := 25) rfl dX10_truthOf_25 ?_
      obtain ⟨v2, s1, hp, h⟩ := bd2_some h
      refine E_callV (pc := 26) (As := [_, _, _, _, _]) (fc := (1, 24)) s10_144_10 oX10_isThingSo dX10_truthOf_26 (mem_ob (ent_st WO2.1)) rfl rfl (Nat.le_of_ble_eq_true rfl) rfl rfl (by decide) (e_X10_isThingSo hp) (fun rv_ M_ hq_ => ?_)
      obtain ⟨rfl, rfl⟩ := hq_
      refine T_if_eq (pc := 29) 41 dX10_truthOf_29 (by decide) h (fun h => ?_) (fun h => ?_)
      · refine T_iinc (pc := 41) (m := 1) (L2 := [_, _, _, _, _, _, _]) rfl rfl rfl rfl dX10_truthOf_41 ?_
        refine E_goto (pc := 44) 9 (by decide) dX10_truthOf_44 ?_
        exact ih h
      · refine E_iload (pc := 32) rfl dX10_truthOf_32 ?_
        refine E_iconst (pc := 34) 1 rfl dX10_truthOf_34 ?_
        refine E_iload (pc := 35) rfl dX10_truthOf_35 ?_
        refine E_ishl (pc := 37) dX10_truthOf_37 ?_
        refine E_ior (pc := 38) dX10_truthOf_38 ?_
        refine E_istore (pc := 39) (L2 := [_, _, _, _, _, _, _]) rfl rfl dX10_truthOf_39 ?_
        refine T_iinc (pc := 41) (m := 1) (L2 := [_, _, _, _, _, _, _]) rfl rfl rfl rfl dX10_truthOf_41 ?_
        refine E_goto (pc := 44) 9 (by decide) dX10_truthOf_44 ?_
        exact ih h
noncomputable def f_X10_truthOf_50 (k96 : Int32 → Int32 → Int32 → ST → Option (Int32 × ST)) : Nat → Int32 → Int32 → Int32 → Int32 → ST → Option (Int32 × ST)
  | 0, _, _, _, _, _ => none
  | n + 1, x3, x4, x5, x6, sg =>
    if x6 < (sg.1 2 0) then
    ((rdI sg 3 10 x6).bind fun v7 =>
    if v7 = (nI 3) then
    ((ixR 10 x6).bind fun j8 =>
    bd2 (f_X1_isMet (2 + 7 + 5 * j8) x4 x3 sg) fun v10 s9 =>
    if v10 = 0 then
    ((f_X10_truthOf_50 k96 n) x3 x4 x5 (x6 + nI 1) s9)
    else ((f_X10_truthOf_50 k96 n) x3 x4 (nI 65536) (x6 + nI 1) s9))
    else ((f_X10_truthOf_50 k96 n) x3 x4 x5 (x6 + nI 1) sg))
    else (k96 x3 x4 x5 sg)
theorem e_X10_truthOf_50 {G : GP} {k96 : Int32 → Int32 → Int32 → ST → Option (Int32 × ST)} {v : Int32} {s : ST} (hk96 : ∀ {x3 : Int32} {x4 : Int32} {x5 : Int32} {sg : ST}, k96 x3 x4 x5 sg = some (v, s) → E G mX10_truthOf (2, 49) 96 [.ref 2, D0, D0, .int x3, .int x4, .int x5, D0] [] (mem sg) (QI v s)) : ∀ (n : Nat) {x3 : Int32} {x4 : Int32} {x5 : Int32} {x6 : Int32} {sg : ST}, f_X10_truthOf_50 k96 n x3 x4 x5 x6 sg = some (v, s) → E G mX10_truthOf (2, 49) 50 [.ref 2, D0, D0, .int x3, .int x4, .int x5, .int x6] [] (mem sg) (QI v s) := by
  intro n
  induction n with
  | zero => intro _ _ _ _ _ h; rw [f_X10_truthOf_50] at h; cases h
  | succ n ih =>
    intro x3 x4 x5 x6 sg h
    rw [f_X10_truthOf_50] at h
    refine E_iload (pc := 50) rfl dX10_truthOf_50 ?_
    refine E_aload_n (pc := 52) rfl dX10_truthOf_52 ?_
    refine R_getI (pc := 53) f10_9 dX10_truthOf_53 (ent_st WO2.1) (by decide) rfl ?_
    refine T_icmp_ge (pc := 56) 96 dX10_truthOf_56 (by decide) h (fun h => ?_) (fun h => ?_)
    · refine E_kp [true, false, false, true, true, true, false] (L2 := [_, D0, D0, _, _, _, D0]) rfl rfl ?_
      exact hk96 h
    · refine E_aload_n (pc := 59) rfl dX10_truthOf_59 ?_
      refine R_getR (pc := 60) (b := 3) f10_24 dX10_truthOf_60 (ent_st WO2.1) (by decide) rfl rfl ?_
      refine E_iload (pc := 63) rfl dX10_truthOf_63 ?_
      refine T_iald (pc := 65) dX10_truthOf_65 (ent_st WO2.2.1) (by decide) h (fun v7 h => ?_)
      refine E_iconst (pc := 66) 3 rfl dX10_truthOf_66 ?_
      refine T_icmp_ne (pc := 67) 90 dX10_truthOf_67 (by decide) h (fun h => ?_) (fun h => ?_)
      · refine T_iinc (pc := 90) (m := 1) (L2 := [_, _, _, _, _, _, _]) rfl rfl rfl rfl dX10_truthOf_90 ?_
        refine E_goto (pc := 93) 50 (by decide) dX10_truthOf_93 ?_
        exact ih h
      · refine E_aload_n (pc := 70) rfl dX10_truthOf_70 ?_
        refine R_getR (pc := 71) (b := 5) f10_33 dX10_truthOf_71 (ent_st WO2.1) (by decide) rfl rfl ?_
        refine E_iload (pc := 74) rfl dX10_truthOf_74 ?_
        refine T_rald (pc := 76) (b := fun i => 2 + 7 + 5 * i) dX10_truthOf_76 (ent_st WO2.2.2.2.1) (by decide) (by decide) h (fun j8 hj8 h => ?_)
        refine E_iload (pc := 77) rfl dX10_truthOf_77 ?_
        refine E_iload_n (pc := 79) rfl dX10_truthOf_79 ?_
        obtain ⟨v10, s9, hp, h⟩ := bd2_some h
        refine E_callV (pc := 80) (As := [_, _]) (fc := (0, 0)) s10_148_1 oX1_isMet dX10_truthOf_80 (mem_ob (ent_st (CO_w 2 (Or.inl rfl) j8 hj8).1)) rfl rfl (Nat.le_of_ble_eq_true rfl) rfl rfl (by decide) (e_X1_isMet (CO_w 2 (Or.inl rfl) j8 hj8) hp) (fun rv_ M_ hq_ => ?_)
        obtain ⟨rfl, rfl⟩ := hq_
        refine T_if_eq (pc := 83) 90 dX10_truthOf_83 (by decide) h (fun h => ?_) (fun h => ?_)
        · refine T_iinc (pc := 90) (m := 1) (L2 := [_, _, _, _, _, _, _]) rfl rfl rfl rfl dX10_truthOf_90 ?_
          refine E_goto (pc := 93) 50 (by decide) dX10_truthOf_93 ?_
          exact ih h
        · refine E_ldc (pc := 86) (v := nI 65536) q10_152 dX10_truthOf_86 ?_
          refine E_istore (pc := 88) (L2 := [_, _, _, _, _, _, _]) rfl rfl dX10_truthOf_88 ?_
          refine T_iinc (pc := 90) (m := 1) (L2 := [_, _, _, _, _, _, _]) rfl rfl rfl rfl dX10_truthOf_90 ?_
          refine E_goto (pc := 93) 50 (by decide) dX10_truthOf_93 ?_
          exact ih h
noncomputable def f_X10_truthOf_99 : Nat → Int32 → Int32 → Int32 → Int32 → ST → Option (Int32 × ST)
  | 0, _, _, _, _, _ => none
  | n + 1, x3, x4, x5, x6, sg =>
    if x6 < (sg.1 2 1) then
    ((ixR 6 x6).bind fun j15 =>
    bd2 (f_X1_isMet (2 + 57 + 6 * j15 + 1) x4 x3 sg) fun v17 s16 =>
    if v17 = 0 then
    ((f_X10_truthOf_99 n) x3 x4 x5 (x6 + nI 1) s16)
    else ((f_X10_truthOf_99 n) x3 x4 (x5 ||| ((nI 1) <<< (((nI 10) + x6) &&& 31))) (x6 + nI 1) s16))
    else (some ((x5 ||| x4), sg))
theorem e_X10_truthOf_99 {G : GP} {v : Int32} {s : ST}  : ∀ (n : Nat) {x3 : Int32} {x4 : Int32} {x5 : Int32} {x6 : Int32} {sg : ST}, f_X10_truthOf_99 n x3 x4 x5 x6 sg = some (v, s) → E G mX10_truthOf (2, 49) 99 [.ref 2, D0, D0, .int x3, .int x4, .int x5, .int x6] [] (mem sg) (QI v s) := by
  intro n
  induction n with
  | zero => intro _ _ _ _ _ h; rw [f_X10_truthOf_99] at h; cases h
  | succ n ih =>
    intro x3 x4 x5 x6 sg h
    rw [f_X10_truthOf_99] at h
    refine E_iload (pc := 99) rfl dX10_truthOf_99 ?_
    refine E_aload_n (pc := 101) rfl dX10_truthOf_101 ?_
    refine R_getI (pc := 102) f10_15 dX10_truthOf_102 (ent_st WO2.1) (by decide) rfl ?_
    refine T_icmp_ge (pc := 105) 145 dX10_truthOf_105 (by decide) h (fun h => ?_) (fun h => ?_)
    · refine E_iload (pc := 145) rfl dX10_truthOf_145 ?_
      refine E_iload (pc := 147) rfl dX10_truthOf_147 ?_
      refine E_ior (pc := 149) dX10_truthOf_149 ?_
      exact E_ireturn (pc := 150) rfl rfl dX10_truthOf_150 (QI_of h)
    · refine E_aload_n (pc := 108) rfl dX10_truthOf_108 ?_
      refine R_getR (pc := 109) (b := 6) f10_39 dX10_truthOf_109 (ent_st WO2.1) (by decide) rfl rfl ?_
      refine E_iload (pc := 112) rfl dX10_truthOf_112 ?_
      refine T_rald (pc := 114) (b := fun i => 2 + 57 + 6 * i) dX10_truthOf_114 (ent_st WO2.2.2.2.2.1) (by decide) (by decide) h (fun j15 hj15 h => ?_)
      refine R_getR (pc := 115) (b := 2 + 57 + 6 * j15 + 1) f10_153 dX10_truthOf_115 (ent_st (LA_w 2 (Or.inl rfl) j15 hj15).1) (by decide) rfl rfl ?_
      refine E_iload (pc := 118) rfl dX10_truthOf_118 ?_
      refine E_iload_n (pc := 120) rfl dX10_truthOf_120 ?_
      obtain ⟨v17, s16, hp, h⟩ := bd2_some h
      refine E_callV (pc := 121) (As := [_, _]) (fc := (0, 0)) s10_148_1 oX1_isMet dX10_truthOf_121 (mem_ob (ent_st (LA_w 2 (Or.inl rfl) j15 hj15).2.1)) rfl rfl (Nat.le_of_ble_eq_true rfl) rfl rfl (by decide) (e_X1_isMet (LA_w 2 (Or.inl rfl) j15 hj15).2 hp) (fun rv_ M_ hq_ => ?_)
      obtain ⟨rfl, rfl⟩ := hq_
      refine T_if_eq (pc := 124) 139 dX10_truthOf_124 (by decide) h (fun h => ?_) (fun h => ?_)
      · refine T_iinc (pc := 139) (m := 1) (L2 := [_, _, _, _, _, _, _]) rfl rfl rfl rfl dX10_truthOf_139 ?_
        refine E_goto (pc := 142) 99 (by decide) dX10_truthOf_142 ?_
        exact ih h
      · refine E_iload (pc := 127) rfl dX10_truthOf_127 ?_
        refine E_iconst (pc := 129) 1 rfl dX10_truthOf_129 ?_
        refine E_bipush (pc := 130) (nI 10) (by decide) dX10_truthOf_130 ?_
        refine E_iload (pc := 132) rfl dX10_truthOf_132 ?_
        refine E_iadd (pc := 134) dX10_truthOf_134 ?_
        refine E_ishl (pc := 135) dX10_truthOf_135 ?_
        refine E_ior (pc := 136) dX10_truthOf_136 ?_
        refine E_istore (pc := 137) (L2 := [_, _, _, _, _, _, _]) rfl rfl dX10_truthOf_137 ?_
        refine T_iinc (pc := 139) (m := 1) (L2 := [_, _, _, _, _, _, _]) rfl rfl rfl rfl dX10_truthOf_139 ?_
        refine E_goto (pc := 142) 99 (by decide) dX10_truthOf_142 ?_
        exact ih h
noncomputable def f_X10_truthOf (x1 : Int32) (x2 : Int32) (x3 : Int32) (σ : ST) : Option (Int32 × ST) :=
    f_X10_truthOf_9 (fun x3_3 x4_4 x5_5 s6 =>
    f_X10_truthOf_50 (fun x3_11 x4_12 x5_13 s14 =>
    f_X10_truthOf_99 FU x3_11 x4_12 x5_13 (nI 0) s14) FU x3_3 x4_4 x5_5 (nI 0) s6) FU x1 x2 x3 (nI 0) (nI 0) (nI 0) σ
theorem e_X10_truthOf {G : GP} {x1 : Int32} {x2 : Int32} {x3 : Int32} {σ : ST} {v : Int32} {s : ST}  (h : f_X10_truthOf x1 x2 x3 σ = some (v, s)) : E G mX10_truthOf (2, 49) 0 [.ref 2, .int x1, .int x2, .int x3, D0, D0, D0] [] (mem σ) (QI v s) := by
  unfold f_X10_truthOf at h
  refine E_iconst (pc := 0) 0 rfl dX10_truthOf_0 ?_
  refine E_istore (pc := 1) (L2 := [_, _, _, _, _, _, _]) rfl rfl dX10_truthOf_1 ?_
  refine E_iconst (pc := 3) 0 rfl dX10_truthOf_3 ?_
  refine E_istore (pc := 4) (L2 := [_, _, _, _, _, _, _]) rfl rfl dX10_truthOf_4 ?_
  refine E_iconst (pc := 6) 0 rfl dX10_truthOf_6 ?_
  refine E_istore (pc := 7) (L2 := [_, _, _, _, _, _, _]) rfl rfl dX10_truthOf_7 ?_
  refine e_X10_truthOf_9 ?_ FU h
  · intro x3_3 x4_4 x5_5 s6 h
    refine E_iconst (pc := 47) 0 rfl dX10_truthOf_47 ?_
    refine E_istore (pc := 48) (L2 := [_, _, _, _, _, _, _]) rfl rfl dX10_truthOf_48 ?_
    refine e_X10_truthOf_50 ?_ FU h
    · intro x3_11 x4_12 x5_13 s14 h
      refine E_iconst (pc := 96) 0 rfl dX10_truthOf_96 ?_
      refine E_istore (pc := 97) (L2 := [_, _, _, _, _, _, _]) rfl rfl dX10_truthOf_97 ?_
      refine e_X10_truthOf_99  FU h
noncomputable def f_X10_fillTables_86 (a1 : Nat) (n1 : Nat) (a2 : Nat) (n2 : Nat) (k121 : Int32 → Int32 → Int32 → Int32 → Int32 → ST → Option ST) : Nat → Int32 → Int32 → Int32 → Int32 → Int32 → Int32 → Int32 → Int32 → Int32 → Int32 → ST → Option ST
  | 0, _, _, _, _, _, _, _, _, _, _, _ => none
  | n + 1, x3, x4, x5, x6, x7, x8, x9, x10, x11, x12, sg =>
    if x12 < (nI 7) then
    (bd2 (f_X10_nextOf x10 x9 x11 x12 sg) fun v11 s10 =>
    (wrI s10 a2 n2 ((x8 * (nI 7)) + x12) v11).bind fun s12 =>
    (f_X10_fillTables_86 a1 n1 a2 n2 k121 n) x3 x4 x5 x6 x7 x8 x9 x10 x11 (x12 + nI 1) s12)
    else (k121 x3 x4 x5 x6 x7 sg)
theorem e_X10_fillTables_86 {G : GP} {a1 : Nat} {n1 : Nat} {a2 : Nat} {n2 : Nat} {k121 : Int32 → Int32 → Int32 → Int32 → Int32 → ST → Option ST} {s : ST} (h1 : slT[a1]? = some (0, n1, []) ∧ n1 < 2 ^ 31) (h2 : slT[a2]? = some (0, n2, []) ∧ n2 < 2 ^ 31) (hk121 : ∀ {x3 : Int32} {x4 : Int32} {x5 : Int32} {x6 : Int32} {x7 : Int32} {sg : ST}, k121 x3 x4 x5 x6 x7 sg = some s → E G mX10_fillTables (3, 75) 121 [.ref 2, .ref a1, .ref a2, .int x3, .int x4, .int x5, .int x6, .int x7, D0, D0, D0, D0, D0] [] (mem sg) (QV s)) : ∀ (n : Nat) {x3 : Int32} {x4 : Int32} {x5 : Int32} {x6 : Int32} {x7 : Int32} {x8 : Int32} {x9 : Int32} {x10 : Int32} {x11 : Int32} {x12 : Int32} {sg : ST}, f_X10_fillTables_86 a1 n1 a2 n2 k121 n x3 x4 x5 x6 x7 x8 x9 x10 x11 x12 sg = some s → E G mX10_fillTables (3, 75) 86 [.ref 2, .ref a1, .ref a2, .int x3, .int x4, .int x5, .int x6, .int x7, .int x8, .int x9, .int x10, .int x11, .int x12] [] (mem sg) (QV s) := by
  intro n
  induction n with
  | zero => intro _ _ _ _ _ _ _ _ _ _ _ h; rw [f_X10_fillTables_86] at h; cases h
  | succ n ih =>
    intro x3 x4 x5 x6 x7 x8 x9 x10 x11 x12 sg h
    rw [f_X10_fillTables_86] at h
    refine E_iload (pc := 86) rfl dX10_fillTables_86 ?_
    refine E_bipush (pc := 88) (nI 7) (by decide) dX10_fillTables_88 ?_
    refine T_icmp_ge (pc := 90) 121 dX10_fillTables_90 (by decide) h (fun h => ?_) (fun h => ?_)
    · refine E_kp [true, true, true, true, true, true, true, true, false, false, false, false, false] (L2 := [_, _, _, _, _, _, _, _, D0, D0, D0, D0, D0]) rfl rfl ?_
      exact hk121 h
    · refine E_aload_n (pc := 93) rfl dX10_fillTables_93 ?_
      refine E_iload (pc := 94) rfl dX10_fillTables_94 ?_
      refine E_bipush (pc := 96) (nI 7) (by decide) dX10_fillTables_96 ?_
      refine E_imul (pc := 98) dX10_fillTables_98 ?_
      refine E_iload (pc := 99) rfl dX10_fillTables_99 ?_
      refine E_iadd (pc := 101) dX10_fillTables_101 ?_
      refine E_aload_n (pc := 102) rfl dX10_fillTables_102 ?_
      refine E_iload (pc := 103) rfl dX10_fillTables_103 ?_
      refine E_iload (pc := 105) rfl dX10_fillTables_105 ?_
      refine E_iload (pc := 107) rfl dX10_fillTables_107 ?_
      refine E_iload (pc := 109) rfl dX10_fillTables_109 ?_
      obtain ⟨v11, s10, hp, h⟩ := bd2_some h
      refine E_callV (pc := 111) (As := [_, _, _, _]) (fc := (1, 23)) s10_140_10 oX10_nextOf dX10_fillTables_111 (mem_ob (ent_st WO2.1)) rfl rfl (Nat.le_of_ble_eq_true rfl) rfl rfl (by decide) (e_X10_nextOf hp) (fun rv_ M_ hq_ => ?_)
      obtain ⟨rfl, rfl⟩ := hq_
      refine T_iast (pc := 114) dX10_fillTables_114 (ent_st h2.1) h2.2 h (fun s12 h => ?_)
      refine T_iinc (pc := 115) (m := 1) (L2 := [_, _, _, _, _, _, _, _, _, _, _, _, _]) rfl rfl rfl rfl dX10_fillTables_115 ?_
      refine E_goto (pc := 118) 86 (by decide) dX10_fillTables_118 ?_
      exact ih h
noncomputable def f_X10_fillTables_30 (a1 : Nat) (n1 : Nat) (a2 : Nat) (n2 : Nat) (k127 : Int32 → Int32 → Int32 → Int32 → ST → Option ST) : Nat → Int32 → Int32 → Int32 → Int32 → Int32 → ST → Option ST
  | 0, _, _, _, _, _, _ => none
  | n + 1, x3, x4, x5, x6, x7, sg =>
    if x7 < x4 then
    (bd2 (f_X10_truthOf x6 (x7 &&& (((nI 1) <<< (x5 &&& 31)) - (nI 1))) (x7 >>> (x5 &&& 31)) sg) fun v8 s7 =>
    (wrI s7 a1 n1 ((x6 <<< ((nI 8) &&& 31)) ||| x7) v8).bind fun s9 =>
    f_X10_fillTables_86 a1 n1 a2 n2 (fun x3_13 x4_14 x5_15 x6_16 x7_17 s18 =>
    (f_X10_fillTables_30 a1 n1 a2 n2 k127 n) x3_13 x4_14 x5_15 x6_16 (x7_17 + nI 1) s18) FU x3 x4 x5 x6 x7 ((x6 <<< ((nI 8) &&& 31)) ||| x7) (x7 >>> (x5 &&& 31)) (x7 &&& (((nI 1) <<< (x5 &&& 31)) - (nI 1))) v8 (nI 0) s9)
    else (k127 x3 x4 x5 x6 sg)
theorem e_X10_fillTables_30 {G : GP} {a1 : Nat} {n1 : Nat} {a2 : Nat} {n2 : Nat} {k127 : Int32 → Int32 → Int32 → Int32 → ST → Option ST} {s : ST} (h1 : slT[a1]? = some (0, n1, []) ∧ n1 < 2 ^ 31) (h2 : slT[a2]? = some (0, n2, []) ∧ n2 < 2 ^ 31) (hk127 : ∀ {x3 : Int32} {x4 : Int32} {x5 : Int32} {x6 : Int32} {sg : ST}, k127 x3 x4 x5 x6 sg = some s → E G mX10_fillTables (3, 75) 127 [.ref 2, .ref a1, .ref a2, .int x3, .int x4, .int x5, .int x6, D0, D0, D0, D0, D0, D0] [] (mem sg) (QV s)) : ∀ (n : Nat) {x3 : Int32} {x4 : Int32} {x5 : Int32} {x6 : Int32} {x7 : Int32} {sg : ST}, f_X10_fillTables_30 a1 n1 a2 n2 k127 n x3 x4 x5 x6 x7 sg = some s → E G mX10_fillTables (3, 75) 30 [.ref 2, .ref a1, .ref a2, .int x3, .int x4, .int x5, .int x6, .int x7, D0, D0, D0, D0, D0] [] (mem sg) (QV s) := by
  intro n
  induction n with
  | zero => intro _ _ _ _ _ _ h; rw [f_X10_fillTables_30] at h; cases h
  | succ n ih =>
    intro x3 x4 x5 x6 x7 sg h
    rw [f_X10_fillTables_30] at h
    refine E_iload (pc := 30) rfl dX10_fillTables_30 ?_
    refine E_iload (pc := 32) rfl dX10_fillTables_32 ?_
    refine T_icmp_ge (pc := 34) 127 dX10_fillTables_34 (by decide) h (fun h => ?_) (fun h => ?_)
    · refine E_kp [true, true, true, true, true, true, true, false, false, false, false, false, false] (L2 := [_, _, _, _, _, _, _, D0, D0, D0, D0, D0, D0]) rfl rfl ?_
      exact hk127 h
    · refine E_iload (pc := 37) rfl dX10_fillTables_37 ?_
      refine E_bipush (pc := 39) (nI 8) (by decide) dX10_fillTables_39 ?_
      refine E_ishl (pc := 41) dX10_fillTables_41 ?_
      refine E_iload (pc := 42) rfl dX10_fillTables_42 ?_
      refine E_ior (pc := 44) dX10_fillTables_44 ?_
      refine E_istore (pc := 45) (L2 := [_, _, _, _, _, _, _, _, _, _, _, _, _]) rfl rfl dX10_fillTables_45 ?_
      refine E_iload (pc := 47) rfl dX10_fillTables_47 ?_
      refine E_iload (pc := 49) rfl dX10_fillTables_49 ?_
      refine E_ishr (pc := 51) dX10_fillTables_51 ?_
      refine E_istore (pc := 52) (L2 := [_, _, _, _, _, _, _, _, _, _, _, _, _]) rfl rfl dX10_fillTables_52 ?_
      refine E_iload (pc := 54) rfl dX10_fillTables_54 ?_
      refine E_iconst (pc := 56) 1 rfl dX10_fillTables_56 ?_
      refine E_iload (pc := 57) rfl dX10_fillTables_57 ?_
      refine E_ishl (pc := 59) dX10_fillTables_59 ?_
      refine E_iconst (pc := 60) 1 rfl dX10_fillTables_60 ?_
      refine E_isub (pc := 61) dX10_fillTables_61 ?_
      refine E_iand (pc := 62) dX10_fillTables_62 ?_
      refine E_istore (pc := 63) (L2 := [_, _, _, _, _, _, _, _, _, _, _, _, _]) rfl rfl dX10_fillTables_63 ?_
      refine E_aload_n (pc := 65) rfl dX10_fillTables_65 ?_
      refine E_iload (pc := 66) rfl dX10_fillTables_66 ?_
      refine E_iload (pc := 68) rfl dX10_fillTables_68 ?_
      refine E_iload (pc := 70) rfl dX10_fillTables_70 ?_
      obtain ⟨v8, s7, hp, h⟩ := bd2_some h
      refine E_callV (pc := 72) (As := [_, _, _]) (fc := (2, 49)) s10_136_10 oX10_truthOf dX10_fillTables_72 (mem_ob (ent_st WO2.1)) rfl rfl (Nat.le_of_ble_eq_true rfl) rfl rfl (by decide) (e_X10_truthOf hp) (fun rv_ M_ hq_ => ?_)
      obtain ⟨rfl, rfl⟩ := hq_
      refine E_istore (pc := 75) (L2 := [_, _, _, _, _, _, _, _, _, _, _, _, _]) rfl rfl dX10_fillTables_75 ?_
      refine E_aload_n (pc := 77) rfl dX10_fillTables_77 ?_
      refine E_iload (pc := 78) rfl dX10_fillTables_78 ?_
      refine E_iload (pc := 80) rfl dX10_fillTables_80 ?_
      refine T_iast (pc := 82) dX10_fillTables_82 (ent_st h1.1) h1.2 h (fun s9 h => ?_)
      refine E_iconst (pc := 83) 0 rfl dX10_fillTables_83 ?_
      refine E_istore (pc := 84) (L2 := [_, _, _, _, _, _, _, _, _, _, _, _, _]) rfl rfl dX10_fillTables_84 ?_
      refine e_X10_fillTables_86 ⟨h1.1, h1.2⟩ ⟨h2.1, h2.2⟩ ?_ FU h
      · intro x3_13 x4_14 x5_15 x6_16 x7_17 s18 h
        refine T_iinc (pc := 121) (m := 1) (L2 := [_, _, _, _, _, _, _, _, _, _, _, _, _]) rfl rfl rfl rfl dX10_fillTables_121 ?_
        refine E_goto (pc := 124) 30 (by decide) dX10_fillTables_124 ?_
        exact ih h
noncomputable def f_X10_fillTables_21 (a1 : Nat) (n1 : Nat) (a2 : Nat) (n2 : Nat) : Nat → Int32 → Int32 → Int32 → Int32 → ST → Option ST
  | 0, _, _, _, _, _ => none
  | n + 1, x3, x4, x5, x6, sg =>
    if x6 < x3 then
    (f_X10_fillTables_30 a1 n1 a2 n2 (fun x3_19 x4_20 x5_21 x6_22 s23 =>
    (f_X10_fillTables_21 a1 n1 a2 n2 n) x3_19 x4_20 x5_21 (x6_22 + nI 1) s23) FU x3 x4 x5 x6 (nI 0) sg)
    else (some sg)
theorem e_X10_fillTables_21 {G : GP} {a1 : Nat} {n1 : Nat} {a2 : Nat} {n2 : Nat} {s : ST} (h1 : slT[a1]? = some (0, n1, []) ∧ n1 < 2 ^ 31) (h2 : slT[a2]? = some (0, n2, []) ∧ n2 < 2 ^ 31) : ∀ (n : Nat) {x3 : Int32} {x4 : Int32} {x5 : Int32} {x6 : Int32} {sg : ST}, f_X10_fillTables_21 a1 n1 a2 n2 n x3 x4 x5 x6 sg = some s → E G mX10_fillTables (3, 75) 21 [.ref 2, .ref a1, .ref a2, .int x3, .int x4, .int x5, .int x6, D0, D0, D0, D0, D0, D0] [] (mem sg) (QV s) := by
  intro n
  induction n with
  | zero => intro _ _ _ _ _ h; rw [f_X10_fillTables_21] at h; cases h
  | succ n ih =>
    intro x3 x4 x5 x6 sg h
    rw [f_X10_fillTables_21] at h
    refine E_iload (pc := 21) rfl dX10_fillTables_21 ?_
    refine E_iload_n (pc := 23) rfl dX10_fillTables_23 ?_
    refine T_icmp_ge (pc := 24) 133 dX10_fillTables_24 (by decide) h (fun h => ?_) (fun h => ?_)
    · exact E_return (pc := 133) rfl dX10_fillTables_133 (QV_of h)
    · refine E_iconst (pc := 27) 0 rfl dX10_fillTables_27 ?_
      refine E_istore (pc := 28) (L2 := [_, _, _, _, _, _, _, _, _, _, _, _, _]) rfl rfl dX10_fillTables_28 ?_
      refine e_X10_fillTables_30 ⟨h1.1, h1.2⟩ ⟨h2.1, h2.2⟩ ?_ FU h
      · intro x3_19 x4_20 x5_21 x6_22 s23 h
        refine T_iinc (pc := 127) (m := 1) (L2 := [_, _, _, _, _, _, _, _, _, _, _, _, _]) rfl rfl rfl rfl dX10_fillTables_127 ?_
        refine E_goto (pc := 130) 21 (by decide) dX10_fillTables_130 ?_
        exact ih h
noncomputable def f_X10_fillTables (a1 : Nat) (n1 : Nat) (a2 : Nat) (n2 : Nat) (σ : ST) : Option ST :=
    bd2 (f_X10_freeLooks σ) fun v2 s1 =>
    bd2 (f_X10_lowStates s1) fun v4 s3 =>
    bd2 (f_X10_countOf (nI 1) s3) fun v6 s5 =>
    f_X10_fillTables_21 a1 n1 a2 n2 FU v2 v4 v6 (nI 0) s5
theorem e_X10_fillTables {G : GP} {a1 : Nat} {n1 : Nat} {a2 : Nat} {n2 : Nat} {σ : ST} {s : ST} (h1 : slT[a1]? = some (0, n1, []) ∧ n1 < 2 ^ 31) (h2 : slT[a2]? = some (0, n2, []) ∧ n2 < 2 ^ 31) (h : f_X10_fillTables a1 n1 a2 n2 σ = some s) : E G mX10_fillTables (3, 75) 0 [.ref 2, .ref a1, .ref a2, D0, D0, D0, D0, D0, D0, D0, D0, D0, D0] [] (mem σ) (QV s) := by
  unfold f_X10_fillTables at h
  refine E_aload_n (pc := 0) rfl dX10_fillTables_0 ?_
  obtain ⟨v2, s1, hp, h⟩ := bd2_some h
  refine E_callV (pc := 1) (As := []) (fc := (1, 23)) s10_130_10 oX10_freeLooks dX10_fillTables_1 (mem_ob (ent_st WO2.1)) rfl rfl (Nat.le_of_ble_eq_true rfl) rfl rfl (by decide) (e_X10_freeLooks hp) (fun rv_ M_ hq_ => ?_)
  obtain ⟨rfl, rfl⟩ := hq_
  refine E_istore_n (pc := 4) (L2 := [_, _, _, _, _, _, _, _, _, _, _, _, _]) rfl rfl dX10_fillTables_4 ?_
  refine E_aload_n (pc := 5) rfl dX10_fillTables_5 ?_
  obtain ⟨v4, s3, hp, h⟩ := bd2_some h
  refine E_callV (pc := 6) (As := []) (fc := (1, 23)) s10_133_10 oX10_lowStates dX10_fillTables_6 (mem_ob (ent_st WO2.1)) rfl rfl (Nat.le_of_ble_eq_true rfl) rfl rfl (by decide) (e_X10_lowStates hp) (fun rv_ M_ hq_ => ?_)
  obtain ⟨rfl, rfl⟩ := hq_
  refine E_istore (pc := 9) (L2 := [_, _, _, _, _, _, _, _, _, _, _, _, _]) rfl rfl dX10_fillTables_9 ?_
  refine E_aload_n (pc := 11) rfl dX10_fillTables_11 ?_
  refine E_iconst (pc := 12) 1 rfl dX10_fillTables_12 ?_
  obtain ⟨v6, s5, hp, h⟩ := bd2_some h
  refine E_callV (pc := 13) (As := [_]) (fc := (0, 0)) s10_73_10 oX10_countOf dX10_fillTables_13 (mem_ob (ent_st WO2.1)) rfl rfl (Nat.le_of_ble_eq_true rfl) rfl rfl (by decide) (e_X10_countOf hp) (fun rv_ M_ hq_ => ?_)
  obtain ⟨rfl, rfl⟩ := hq_
  refine E_istore (pc := 16) (L2 := [_, _, _, _, _, _, _, _, _, _, _, _, _]) rfl rfl dX10_fillTables_16 ?_
  refine E_iconst (pc := 18) 0 rfl dX10_fillTables_18 ?_
  refine E_istore (pc := 19) (L2 := [_, _, _, _, _, _, _, _, _, _, _, _, _]) rfl rfl dX10_fillTables_19 ?_
  refine e_X10_fillTables_21 ⟨h1.1, h1.2⟩ ⟨h2.1, h2.2⟩ FU h
