/-! ===== functions: 37.tlS ===== -/
noncomputable def f_X11_isShelf (x0 : Int32) (σ : ST) : Option (Int32 × ST) :=
    if x0 < 0 then
    (some ((nI 0), σ))
    else (if x0 < (nI 8) then
    (some ((nI 1), σ))
    else (some ((nI 0), σ)))
theorem e_X11_isShelf {G : GP} {x0 : Int32} {σ : ST} {v : Int32} {s : ST}  (h : f_X11_isShelf x0 σ = some (v, s)) : E G mX11_isShelf (0, 0) 0 [.int x0] [] (mem σ) (QI v s) := by
  unfold f_X11_isShelf at h
  refine E_iload_n (pc := 0) rfl dX11_isShelf_0 ?_
  refine T_if_lt (pc := 1) 14 dX11_isShelf_1 (by decide) h (fun h => ?_) (fun h => ?_)
  · refine E_iconst (pc := 14) 0 rfl dX11_isShelf_14 ?_
    exact E_ireturn (pc := 15) rfl (by decide) dX11_isShelf_15 (QI_of h)
  · refine E_iload_n (pc := 4) rfl dX11_isShelf_4 ?_
    refine E_bipush (pc := 5) (nI 8) (by decide) dX11_isShelf_5 ?_
    refine T_icmp_ge (pc := 7) 14 dX11_isShelf_7 (by decide) h (fun h => ?_) (fun h => ?_)
    · refine E_iconst (pc := 14) 0 rfl dX11_isShelf_14 ?_
      exact E_ireturn (pc := 15) rfl (by decide) dX11_isShelf_15 (QI_of h)
    · refine E_iconst (pc := 10) 1 rfl dX11_isShelf_10 ?_
      refine E_goto (pc := 11) 15 (by decide) dX11_isShelf_11 ?_
      exact E_ireturn (pc := 15) rfl (by decide) dX11_isShelf_15 (QI_of h)
noncomputable def f_X11_refuse (x1 : Int32) (σ : ST) : Option (Int32 × ST) :=
    if (-x1) < 0 then
    (some (x1, σ))
    else (if (-x1) < (nI 8) then
    ((rdI σ 229 8 (-x1)).bind fun v1 =>
    (wrI σ 229 8 (-x1) (v1 + (nI 1))).bind fun s2 =>
    some (x1, s2))
    else (some (x1, σ)))
theorem e_X11_refuse {G : GP} {x1 : Int32} {σ : ST} {v : Int32} {s : ST}  (h : f_X11_refuse x1 σ = some (v, s)) : E G mX11_refuse (0, 0) 0 [.ref 0, .int x1, D0] [] (mem σ) (QI v s) := by
  unfold f_X11_refuse at h
  refine E_iload_n (pc := 0) rfl dX11_refuse_0 ?_
  refine E_ineg (pc := 1) dX11_refuse_1 ?_
  refine E_istore_n (pc := 2) (L2 := [_, _, _]) rfl rfl dX11_refuse_2 ?_
  refine E_iload_n (pc := 3) rfl dX11_refuse_3 ?_
  refine T_if_lt (pc := 4) 26 dX11_refuse_4 (by decide) h (fun h => ?_) (fun h => ?_)
  · refine E_iload_n (pc := 26) rfl dX11_refuse_26 ?_
    exact E_ireturn (pc := 27) rfl rfl dX11_refuse_27 (QI_of h)
  · refine E_iload_n (pc := 7) rfl dX11_refuse_7 ?_
    refine E_aload_n (pc := 8) rfl dX11_refuse_8 ?_
    refine R_getR (pc := 9) (b := 229) f11_53 dX11_refuse_9 (ent_st SW0) (by decide) rfl rfl ?_
    refine R_alen (pc := 12) (v := nI 8) dX11_refuse_12 (ent_st RF229) (by decide) rfl ?_
    refine T_icmp_ge (pc := 13) 26 dX11_refuse_13 (by decide) h (fun h => ?_) (fun h => ?_)
    · refine E_iload_n (pc := 26) rfl dX11_refuse_26 ?_
      exact E_ireturn (pc := 27) rfl rfl dX11_refuse_27 (QI_of h)
    · refine E_aload_n (pc := 16) rfl dX11_refuse_16 ?_
      refine R_getR (pc := 17) (b := 229) f11_53 dX11_refuse_17 (ent_st SW0) (by decide) rfl rfl ?_
      refine E_iload_n (pc := 20) rfl dX11_refuse_20 ?_
      refine E_dup2 (pc := 21) rfl rfl dX11_refuse_21 ?_
      refine T_iald (pc := 22) dX11_refuse_22 (ent_st RF229) (by decide) h (fun v1 h => ?_)
      refine E_iconst (pc := 23) 1 rfl dX11_refuse_23 ?_
      refine E_iadd (pc := 24) dX11_refuse_24 ?_
      refine T_iast (pc := 25) dX11_refuse_25 (ent_st RF229) (by decide) h (fun s2 h => ?_)
      refine E_iload_n (pc := 26) rfl dX11_refuse_26 ?_
      exact E_ireturn (pc := 27) rfl rfl dX11_refuse_27 (QI_of h)
noncomputable def f_X11_row (x1 : Int32) (x2 : Int32) (x3 : Int32) (σ : ST) : Option (Int32 × ST) :=
    bd2 (f_X11_isShelf x1 σ) fun v2 s1 =>
    if v2 = 0 then
    (bd2 (f_X11_refuse (-1) s1) fun v14 s13 =>
    some (v14, s13))
    else (if x3 < 0 then
    (bd2 (f_X11_refuse (-4) s1) fun v12 s11 =>
    some (v12, s11))
    else (if x2 < 0 then
    (bd2 (f_X11_refuse (-6) s1) fun v4 s3 =>
    some (v4, s3))
    else (if (nI 3) < x2 then
    (bd2 (f_X11_refuse (-6) s1) fun v10 s9 =>
    some (v10, s9))
    else (if (nI 60) < x3 then
    (bd2 (f_X11_refuse (-7) s1) fun v8 s7 =>
    some (v8, s7))
    else ((ixR 8 x1).bind fun j5 =>
    (f_X7_takeRow (231 + 2 * j5) x2 x3 s1).bind fun s6 =>
    some ((nI 1), s6))))))
theorem e_X11_row {G : GP} {x1 : Int32} {x2 : Int32} {x3 : Int32} {σ : ST} {v : Int32} {s : ST}  (h : f_X11_row x1 x2 x3 σ = some (v, s)) : E G mX11_row (2, 46) 0 [.ref 0, .int x1, .int x2, .int x3] [] (mem σ) (QI v s) := by
  unfold f_X11_row at h
  refine E_iload_n (pc := 0) rfl dX11_row_0 ?_
  obtain ⟨v2, s1, hp, h⟩ := bd2_some h
  refine E_callS (pc := 1) (As := [_]) (fc := (0, 0)) s11_76 oX11_isShelf dX11_row_1 rfl rfl (Nat.le_of_ble_eq_true rfl) rfl rfl (by decide) (e_X11_isShelf hp) (fun rv_ M_ hq_ => ?_)
  obtain ⟨rfl, rfl⟩ := hq_
  refine T_if_ne (pc := 4) 13 dX11_row_4 (by decide) h (fun h => ?_) (fun h => ?_)
  · refine E_iload_n (pc := 13) rfl dX11_row_13 ?_
    refine T_if_ge (pc := 14) 24 dX11_row_14 (by decide) h (fun h => ?_) (fun h => ?_)
    · refine E_iload_n (pc := 24) rfl dX11_row_24 ?_
      refine T_if_lt (pc := 25) 33 dX11_row_25 (by decide) h (fun h => ?_) (fun h => ?_)
      · refine E_aload_n (pc := 33) rfl dX11_row_33 ?_
        refine E_bipush (pc := 34) (-6) (by decide) dX11_row_34 ?_
        obtain ⟨v4, s3, hp, h⟩ := bd2_some h
        refine E_callV (pc := 36) (As := [_]) (fc := (0, 0)) s11_80_11 oX11_refuse dX11_row_36 (mem_ob (ent_st SW0)) rfl rfl (Nat.le_of_ble_eq_true rfl) rfl rfl (by decide) (e_X11_refuse hp) (fun rv_ M_ hq_ => ?_)
        obtain ⟨rfl, rfl⟩ := hq_
        exact E_ireturn (pc := 39) rfl rfl dX11_row_39 (QI_of h)
      · refine E_iload_n (pc := 28) rfl dX11_row_28 ?_
        refine E_iconst (pc := 29) 3 rfl dX11_row_29 ?_
        refine T_icmp_le (pc := 30) 40 dX11_row_30 (by decide) h (fun h => ?_) (fun h => ?_)
        · refine E_iload_n (pc := 40) rfl dX11_row_40 ?_
          refine E_bipush (pc := 41) (nI 60) (by decide) dX11_row_41 ?_
          refine T_icmp_le (pc := 43) 53 dX11_row_43 (by decide) h (fun h => ?_) (fun h => ?_)
          · refine E_aload_n (pc := 53) rfl dX11_row_53 ?_
            refine R_getR (pc := 54) (b := 1) f11_11 dX11_row_54 (ent_st SW0) (by decide) rfl rfl ?_
            refine E_iload_n (pc := 57) rfl dX11_row_57 ?_
            refine T_rald (pc := 58) (b := fun i => 231 + 2 * i) dX11_row_58 (ent_st SW1) (by decide) (by decide) h (fun j5 hj5 h => ?_)
            refine E_iload_n (pc := 59) rfl dX11_row_59 ?_
            refine E_iload_n (pc := 60) rfl dX11_row_60 ?_
            obtain ⟨s6, hp, h⟩ := bd_some h
            refine E_callV (pc := 61) (As := [_, _]) (fc := (1, 24)) s11_84_7 oX7_takeRow dX11_row_61 (mem_ob (ent_st (SH_s j5 hj5).1)) rfl rfl (Nat.le_of_ble_eq_true rfl) rfl rfl (by decide) (e_X7_takeRow (SH_s j5 hj5) hp) (fun rv_ M_ hq_ => ?_)
            obtain ⟨rfl, rfl⟩ := hq_
            refine E_iconst (pc := 64) 1 rfl dX11_row_64 ?_
            exact E_ireturn (pc := 65) rfl rfl dX11_row_65 (QI_of h)
          · refine E_aload_n (pc := 46) rfl dX11_row_46 ?_
            refine E_bipush (pc := 47) (-7) (by decide) dX11_row_47 ?_
            obtain ⟨v8, s7, hp, h⟩ := bd2_some h
            refine E_callV (pc := 49) (As := [_]) (fc := (0, 0)) s11_80_11 oX11_refuse dX11_row_49 (mem_ob (ent_st SW0)) rfl rfl (Nat.le_of_ble_eq_true rfl) rfl rfl (by decide) (e_X11_refuse hp) (fun rv_ M_ hq_ => ?_)
            obtain ⟨rfl, rfl⟩ := hq_
            exact E_ireturn (pc := 52) rfl rfl dX11_row_52 (QI_of h)
        · refine E_aload_n (pc := 33) rfl dX11_row_33 ?_
          refine E_bipush (pc := 34) (-6) (by decide) dX11_row_34 ?_
          obtain ⟨v10, s9, hp, h⟩ := bd2_some h
          refine E_callV (pc := 36) (As := [_]) (fc := (0, 0)) s11_80_11 oX11_refuse dX11_row_36 (mem_ob (ent_st SW0)) rfl rfl (Nat.le_of_ble_eq_true rfl) rfl rfl (by decide) (e_X11_refuse hp) (fun rv_ M_ hq_ => ?_)
          obtain ⟨rfl, rfl⟩ := hq_
          exact E_ireturn (pc := 39) rfl rfl dX11_row_39 (QI_of h)
    · refine E_aload_n (pc := 17) rfl dX11_row_17 ?_
      refine E_bipush (pc := 18) (-4) (by decide) dX11_row_18 ?_
      obtain ⟨v12, s11, hp, h⟩ := bd2_some h
      refine E_callV (pc := 20) (As := [_]) (fc := (0, 0)) s11_80_11 oX11_refuse dX11_row_20 (mem_ob (ent_st SW0)) rfl rfl (Nat.le_of_ble_eq_true rfl) rfl rfl (by decide) (e_X11_refuse hp) (fun rv_ M_ hq_ => ?_)
      obtain ⟨rfl, rfl⟩ := hq_
      exact E_ireturn (pc := 23) rfl rfl dX11_row_23 (QI_of h)
  · refine E_aload_n (pc := 7) rfl dX11_row_7 ?_
    refine E_im1 (pc := 8) dX11_row_8 ?_
    obtain ⟨v14, s13, hp, h⟩ := bd2_some h
    refine E_callV (pc := 9) (As := [_]) (fc := (0, 0)) s11_80_11 oX11_refuse dX11_row_9 (mem_ob (ent_st SW0)) rfl rfl (Nat.le_of_ble_eq_true rfl) rfl rfl (by decide) (e_X11_refuse hp) (fun rv_ M_ hq_ => ?_)
    obtain ⟨rfl, rfl⟩ := hq_
    exact E_ireturn (pc := 12) rfl rfl dX11_row_12 (QI_of h)
noncomputable def f_X11_rowTrouble (x1 : Int32) (σ : ST) : Option (Int32 × ST) :=
    bd2 (f_X11_isShelf x1 σ) fun v2 s1 =>
    if v2 = 0 then
    (some ((-1), s1))
    else ((ixR 8 x1).bind fun j3 =>
    bd2 (f_X7_holdsRow (231 + 2 * j3) s1) fun v5 s4 =>
    if v5 = 0 then
    ((ixR 8 x1).bind fun j6 =>
    bd2 (f_X7_holdsPiece (231 + 2 * j6) s4) fun v8 s7 =>
    if v8 = 0 then
    (some ((-3), s7))
    else (some ((-2), s7)))
    else (some ((nI 0), s4)))
theorem e_X11_rowTrouble {G : GP} {x1 : Int32} {σ : ST} {v : Int32} {s : ST}  (h : f_X11_rowTrouble x1 σ = some (v, s)) : E G mX11_rowTrouble (1, 20) 0 [.ref 0, .int x1] [] (mem σ) (QI v s) := by
  unfold f_X11_rowTrouble at h
  refine E_iload_n (pc := 0) rfl dX11_rowTrouble_0 ?_
  obtain ⟨v2, s1, hp, h⟩ := bd2_some h
  refine E_callS (pc := 1) (As := [_]) (fc := (0, 0)) s11_76 oX11_isShelf dX11_rowTrouble_1 rfl rfl (Nat.le_of_ble_eq_true rfl) rfl rfl (by decide) (e_X11_isShelf hp) (fun rv_ M_ hq_ => ?_)
  obtain ⟨rfl, rfl⟩ := hq_
  refine T_if_ne (pc := 4) 9 dX11_rowTrouble_4 (by decide) h (fun h => ?_) (fun h => ?_)
  · refine E_aload_n (pc := 9) rfl dX11_rowTrouble_9 ?_
    refine R_getR (pc := 10) (b := 1) f11_11 dX11_rowTrouble_10 (ent_st SW0) (by decide) rfl rfl ?_
    refine E_iload_n (pc := 13) rfl dX11_rowTrouble_13 ?_
    refine T_rald (pc := 14) (b := fun i => 231 + 2 * i) dX11_rowTrouble_14 (ent_st SW1) (by decide) (by decide) h (fun j3 hj3 h => ?_)
    obtain ⟨v5, s4, hp, h⟩ := bd2_some h
    refine E_callV (pc := 15) (As := []) (fc := (0, 0)) s11_102_7 oX7_holdsRow dX11_rowTrouble_15 (mem_ob (ent_st (SH_s j3 hj3).1)) rfl rfl (Nat.le_of_ble_eq_true rfl) rfl rfl (by decide) (e_X7_holdsRow (SH_s j3 hj3) hp) (fun rv_ M_ hq_ => ?_)
    obtain ⟨rfl, rfl⟩ := hq_
    refine T_if_eq (pc := 18) 23 dX11_rowTrouble_18 (by decide) h (fun h => ?_) (fun h => ?_)
    · refine E_aload_n (pc := 23) rfl dX11_rowTrouble_23 ?_
      refine R_getR (pc := 24) (b := 1) f11_11 dX11_rowTrouble_24 (ent_st SW0) (by decide) rfl rfl ?_
      refine E_iload_n (pc := 27) rfl dX11_rowTrouble_27 ?_
      refine T_rald (pc := 28) (b := fun i => 231 + 2 * i) dX11_rowTrouble_28 (ent_st SW1) (by decide) (by decide) h (fun j6 hj6 h => ?_)
      obtain ⟨v8, s7, hp, h⟩ := bd2_some h
      refine E_callV (pc := 29) (As := []) (fc := (0, 0)) s11_98_7 oX7_holdsPiece dX11_rowTrouble_29 (mem_ob (ent_st (SH_s j6 hj6).1)) rfl rfl (Nat.le_of_ble_eq_true rfl) rfl rfl (by decide) (e_X7_holdsPiece (SH_s j6 hj6) hp) (fun rv_ M_ hq_ => ?_)
      obtain ⟨rfl, rfl⟩ := hq_
      refine T_if_eq (pc := 32) 40 dX11_rowTrouble_32 (by decide) h (fun h => ?_) (fun h => ?_)
      · refine E_bipush (pc := 40) (-3) (by decide) dX11_rowTrouble_40 ?_
        exact E_ireturn (pc := 42) rfl rfl dX11_rowTrouble_42 (QI_of h)
      · refine E_bipush (pc := 35) (-2) (by decide) dX11_rowTrouble_35 ?_
        refine E_goto (pc := 37) 42 (by decide) dX11_rowTrouble_37 ?_
        exact E_ireturn (pc := 42) rfl rfl dX11_rowTrouble_42 (QI_of h)
    · refine E_iconst (pc := 21) 0 rfl dX11_rowTrouble_21 ?_
      exact E_ireturn (pc := 22) rfl rfl dX11_rowTrouble_22 (QI_of h)
  · refine E_im1 (pc := 7) dX11_rowTrouble_7 ?_
    exact E_ireturn (pc := 8) rfl rfl dX11_rowTrouble_8 (QI_of h)
noncomputable def f_X11_set (x1 : Int32) (x2 : Int32) (y3 : Int64) (σ : ST) : Option (Int32 × ST) :=
    bd2 (f_X11_rowTrouble x1 σ) fun v2 s1 =>
    if v2 = 0 then
    ((ixR 8 x1).bind fun j3 =>
    bd2 (f_X7_has (231 + 2 * j3) x2 s1) fun v5 s4 =>
    if v5 = 0 then
    (bd2 (f_X11_refuse (-5) s4) fun v9 s8 =>
    some (v9, s8))
    else ((ixR 8 x1).bind fun j6 =>
    (f_X7_put (231 + 2 * j6) x2 y3 s4).bind fun s7 =>
    some ((nI 1), s7)))
    else (bd2 (f_X11_refuse v2 s1) fun v11 s10 =>
    some (v11, s10))
theorem e_X11_set {G : GP} {x1 : Int32} {x2 : Int32} {y3 : Int64} {σ : ST} {v : Int32} {s : ST}  (h : f_X11_set x1 x2 y3 σ = some (v, s)) : E G mX11_set (2, 45) 0 [.ref 0, .int x1, .int x2, .long y3, D0, D0] [] (mem σ) (QI v s) := by
  unfold f_X11_set at h
  refine E_aload_n (pc := 0) rfl dX11_set_0 ?_
  refine E_iload_n (pc := 1) rfl dX11_set_1 ?_
  obtain ⟨v2, s1, hp, h⟩ := bd2_some h
  refine E_callV (pc := 2) (As := [_]) (fc := (1, 20)) s11_88_11 oX11_rowTrouble dX11_set_2 (mem_ob (ent_st SW0)) rfl rfl (Nat.le_of_ble_eq_true rfl) rfl rfl (by decide) (e_X11_rowTrouble hp) (fun rv_ M_ hq_ => ?_)
  obtain ⟨rfl, rfl⟩ := hq_
  refine E_istore (pc := 5) (L2 := [_, _, _, _, _, _]) rfl rfl dX11_set_5 ?_
  refine E_iload (pc := 7) rfl dX11_set_7 ?_
  refine T_if_eq (pc := 9) 19 dX11_set_9 (by decide) h (fun h => ?_) (fun h => ?_)
  · refine E_aload_n (pc := 19) rfl dX11_set_19 ?_
    refine R_getR (pc := 20) (b := 1) f11_11 dX11_set_20 (ent_st SW0) (by decide) rfl rfl ?_
    refine E_iload_n (pc := 23) rfl dX11_set_23 ?_
    refine T_rald (pc := 24) (b := fun i => 231 + 2 * i) dX11_set_24 (ent_st SW1) (by decide) (by decide) h (fun j3 hj3 h => ?_)
    refine E_iload_n (pc := 25) rfl dX11_set_25 ?_
    obtain ⟨v5, s4, hp, h⟩ := bd2_some h
    refine E_callV (pc := 26) (As := [_]) (fc := (0, 0)) s11_91_7 oX7_has dX11_set_26 (mem_ob (ent_st (SH_s j3 hj3).1)) rfl rfl (Nat.le_of_ble_eq_true rfl) rfl rfl (by decide) (e_X7_has (SH_s j3 hj3) hp) (fun rv_ M_ hq_ => ?_)
    obtain ⟨rfl, rfl⟩ := hq_
    refine T_if_ne (pc := 29) 39 dX11_set_29 (by decide) h (fun h => ?_) (fun h => ?_)
    · refine E_aload_n (pc := 39) rfl dX11_set_39 ?_
      refine R_getR (pc := 40) (b := 1) f11_11 dX11_set_40 (ent_st SW0) (by decide) rfl rfl ?_
      refine E_iload_n (pc := 43) rfl dX11_set_43 ?_
      refine T_rald (pc := 44) (b := fun i => 231 + 2 * i) dX11_set_44 (ent_st SW1) (by decide) (by decide) h (fun j6 hj6 h => ?_)
      refine E_iload_n (pc := 45) rfl dX11_set_45 ?_
      refine E_lload_n (pc := 46) rfl dX11_set_46 ?_
      obtain ⟨s7, hp, h⟩ := bd_some h
      refine E_callV (pc := 47) (As := [_, _]) (fc := (1, 22)) s11_94_7 oX7_put dX11_set_47 (mem_ob (ent_st (SH_s j6 hj6).1)) rfl rfl (Nat.le_of_ble_eq_true rfl) rfl rfl (by decide) (e_X7_put (SH_s j6 hj6) hp) (fun rv_ M_ hq_ => ?_)
      obtain ⟨rfl, rfl⟩ := hq_
      refine E_iconst (pc := 50) 1 rfl dX11_set_50 ?_
      exact E_ireturn (pc := 51) rfl rfl dX11_set_51 (QI_of h)
    · refine E_aload_n (pc := 32) rfl dX11_set_32 ?_
      refine E_bipush (pc := 33) (-5) (by decide) dX11_set_33 ?_
      obtain ⟨v9, s8, hp, h⟩ := bd2_some h
      refine E_callV (pc := 35) (As := [_]) (fc := (0, 0)) s11_80_11 oX11_refuse dX11_set_35 (mem_ob (ent_st SW0)) rfl rfl (Nat.le_of_ble_eq_true rfl) rfl rfl (by decide) (e_X11_refuse hp) (fun rv_ M_ hq_ => ?_)
      obtain ⟨rfl, rfl⟩ := hq_
      exact E_ireturn (pc := 38) rfl rfl dX11_set_38 (QI_of h)
  · refine E_aload_n (pc := 12) rfl dX11_set_12 ?_
    refine E_iload (pc := 13) rfl dX11_set_13 ?_
    obtain ⟨v11, s10, hp, h⟩ := bd2_some h
    refine E_callV (pc := 15) (As := [_]) (fc := (0, 0)) s11_80_11 oX11_refuse dX11_set_15 (mem_ob (ent_st SW0)) rfl rfl (Nat.le_of_ble_eq_true rfl) rfl rfl (by decide) (e_X11_refuse hp) (fun rv_ M_ hq_ => ?_)
    obtain ⟨rfl, rfl⟩ := hq_
    exact E_ireturn (pc := 18) rfl rfl dX11_set_18 (QI_of h)
noncomputable def f_X11_copy_95 (a6 : Nat) (a7 : Nat) (x3 : Int32) (x4 : Int32) (x5 : Int32) (sg : ST) : Option (Int32 × ST) :=
    bd2 (f_X7_holdsRow a6 sg) fun v18 s17 =>
    if v18 = 0 then
    (bd2 (f_X11_refuse (-3) s17) fun v20 s19 =>
    some (v20, s19))
    else (bd2 (f_X7_holdsRow a7 s17) fun v22 s21 =>
    if v22 = 0 then
    (bd2 (f_X11_refuse (-3) s21) fun v35 s34 =>
    some (v35, s34))
    else (if x5 < 0 then
    (bd2 (f_X11_refuse (-4) s21) fun v33 s32 =>
    some (v33, s32))
    else (bd2 (f_X7_reaches a6 x3 x5 s21) fun v24 s23 =>
    if v24 = 0 then
    (bd2 (f_X11_refuse (-5) s23) fun v26 s25 =>
    some (v26, s25))
    else (bd2 (f_X7_reaches a7 x4 x5 s23) fun v28 s27 =>
    if v28 = 0 then
    (bd2 (f_X11_refuse (-5) s27) fun v31 s30 =>
    some (v31, s30))
    else ((cpJ s27 (a6 + 1) 60 (a7 + 1) 60 x3 x4 x5).bind fun s29 =>
    some ((nI 1), s29))))))
theorem e_X11_copy_95 {G : GP} {a6 : Nat} {a7 : Nat} {x3 : Int32} {x4 : Int32} {x5 : Int32} {sg : ST} {v : Int32} {s : ST} (h6 : SH a6) (h7 : SH a7) (h : f_X11_copy_95 a6 a7 x3 x4 x5 sg = some (v, s)) : E G mX11_copy (1, 60) 95 [.ref 0, D0, D0, .int x3, .int x4, .int x5, .ref a6, .ref a7] [] (mem sg) (QI v s) := by
  unfold f_X11_copy_95 at h
  refine E_aload (pc := 95) rfl dX11_copy_95 ?_
  obtain ⟨v18, s17, hp, h⟩ := bd2_some h
  refine E_callV (pc := 97) (As := []) (fc := (0, 0)) s11_102_7 oX7_holdsRow dX11_copy_97 (mem_ob (ent_st h6.1)) rfl rfl (Nat.le_of_ble_eq_true rfl) rfl rfl (by decide) (e_X7_holdsRow h6 hp) (fun rv_ M_ hq_ => ?_)
  obtain ⟨rfl, rfl⟩ := hq_
  refine T_if_eq (pc := 100) 111 dX11_copy_100 (by decide) h (fun h => ?_) (fun h => ?_)
  · refine E_aload_n (pc := 111) rfl dX11_copy_111 ?_
    refine E_bipush (pc := 112) (-3) (by decide) dX11_copy_112 ?_
    obtain ⟨v20, s19, hp, h⟩ := bd2_some h
    refine E_callV (pc := 114) (As := [_]) (fc := (0, 0)) s11_80_11 oX11_refuse dX11_copy_114 (mem_ob (ent_st SW0)) rfl rfl (Nat.le_of_ble_eq_true rfl) rfl rfl (by decide) (e_X11_refuse hp) (fun rv_ M_ hq_ => ?_)
    obtain ⟨rfl, rfl⟩ := hq_
    exact E_ireturn (pc := 117) rfl rfl dX11_copy_117 (QI_of h)
  · refine E_aload (pc := 103) rfl dX11_copy_103 ?_
    obtain ⟨v22, s21, hp, h⟩ := bd2_some h
    refine E_callV (pc := 105) (As := []) (fc := (0, 0)) s11_102_7 oX7_holdsRow dX11_copy_105 (mem_ob (ent_st h7.1)) rfl rfl (Nat.le_of_ble_eq_true rfl) rfl rfl (by decide) (e_X7_holdsRow h7 hp) (fun rv_ M_ hq_ => ?_)
    obtain ⟨rfl, rfl⟩ := hq_
    refine T_if_ne (pc := 108) 118 dX11_copy_108 (by decide) h (fun h => ?_) (fun h => ?_)
    · refine E_iload (pc := 118) rfl dX11_copy_118 ?_
      refine T_if_ge (pc := 120) 130 dX11_copy_120 (by decide) h (fun h => ?_) (fun h => ?_)
      · refine E_aload (pc := 130) rfl dX11_copy_130 ?_
        refine E_iload_n (pc := 132) rfl dX11_copy_132 ?_
        refine E_iload (pc := 133) rfl dX11_copy_133 ?_
        obtain ⟨v24, s23, hp, h⟩ := bd2_some h
        refine E_callV (pc := 135) (As := [_, _]) (fc := (0, 0)) s11_108_7 oX7_reaches dX11_copy_135 (mem_ob (ent_st h6.1)) rfl rfl (Nat.le_of_ble_eq_true rfl) rfl rfl (by decide) (e_X7_reaches h6 hp) (fun rv_ M_ hq_ => ?_)
        obtain ⟨rfl, rfl⟩ := hq_
        refine T_if_eq (pc := 138) 153 dX11_copy_138 (by decide) h (fun h => ?_) (fun h => ?_)
        · refine E_aload_n (pc := 153) rfl dX11_copy_153 ?_
          refine E_bipush (pc := 154) (-5) (by decide) dX11_copy_154 ?_
          obtain ⟨v26, s25, hp, h⟩ := bd2_some h
          refine E_callV (pc := 156) (As := [_]) (fc := (0, 0)) s11_80_11 oX11_refuse dX11_copy_156 (mem_ob (ent_st SW0)) rfl rfl (Nat.le_of_ble_eq_true rfl) rfl rfl (by decide) (e_X11_refuse hp) (fun rv_ M_ hq_ => ?_)
          obtain ⟨rfl, rfl⟩ := hq_
          exact E_ireturn (pc := 159) rfl rfl dX11_copy_159 (QI_of h)
        · refine E_aload (pc := 141) rfl dX11_copy_141 ?_
          refine E_iload (pc := 143) rfl dX11_copy_143 ?_
          refine E_iload (pc := 145) rfl dX11_copy_145 ?_
          obtain ⟨v28, s27, hp, h⟩ := bd2_some h
          refine E_callV (pc := 147) (As := [_, _]) (fc := (0, 0)) s11_108_7 oX7_reaches dX11_copy_147 (mem_ob (ent_st h7.1)) rfl rfl (Nat.le_of_ble_eq_true rfl) rfl rfl (by decide) (e_X7_reaches h7 hp) (fun rv_ M_ hq_ => ?_)
          obtain ⟨rfl, rfl⟩ := hq_
          refine T_if_ne (pc := 150) 160 dX11_copy_150 (by decide) h (fun h => ?_) (fun h => ?_)
          · refine E_aload (pc := 160) rfl dX11_copy_160 ?_
            refine R_getR (pc := 162) (b := a6 + 1) f11_112 dX11_copy_162 (ent_st h6.1) (by decide) rfl rfl ?_
            refine E_iload_n (pc := 165) rfl dX11_copy_165 ?_
            refine E_aload (pc := 166) rfl dX11_copy_166 ?_
            refine R_getR (pc := 168) (b := a7 + 1) f11_112 dX11_copy_168 (ent_st h7.1) (by decide) rfl rfl ?_
            refine E_iload (pc := 171) rfl dX11_copy_171 ?_
            refine E_iload (pc := 173) rfl dX11_copy_173 ?_
            refine T_copyJ (pc := 175) (by decide +kernel) (by decide) (Nat.le_of_ble_eq_true rfl) dX11_copy_175 (ent_st h6.2) (ent_st h7.2) (by decide) h (fun s29 h => ?_)
            refine E_iconst (pc := 178) 1 rfl dX11_copy_178 ?_
            exact E_ireturn (pc := 179) rfl rfl dX11_copy_179 (QI_of h)
          · refine E_aload_n (pc := 153) rfl dX11_copy_153 ?_
            refine E_bipush (pc := 154) (-5) (by decide) dX11_copy_154 ?_
            obtain ⟨v31, s30, hp, h⟩ := bd2_some h
            refine E_callV (pc := 156) (As := [_]) (fc := (0, 0)) s11_80_11 oX11_refuse dX11_copy_156 (mem_ob (ent_st SW0)) rfl rfl (Nat.le_of_ble_eq_true rfl) rfl rfl (by decide) (e_X11_refuse hp) (fun rv_ M_ hq_ => ?_)
            obtain ⟨rfl, rfl⟩ := hq_
            exact E_ireturn (pc := 159) rfl rfl dX11_copy_159 (QI_of h)
      · refine E_aload_n (pc := 123) rfl dX11_copy_123 ?_
        refine E_bipush (pc := 124) (-4) (by decide) dX11_copy_124 ?_
        obtain ⟨v33, s32, hp, h⟩ := bd2_some h
        refine E_callV (pc := 126) (As := [_]) (fc := (0, 0)) s11_80_11 oX11_refuse dX11_copy_126 (mem_ob (ent_st SW0)) rfl rfl (Nat.le_of_ble_eq_true rfl) rfl rfl (by decide) (e_X11_refuse hp) (fun rv_ M_ hq_ => ?_)
        obtain ⟨rfl, rfl⟩ := hq_
        exact E_ireturn (pc := 129) rfl rfl dX11_copy_129 (QI_of h)
    · refine E_aload_n (pc := 111) rfl dX11_copy_111 ?_
      refine E_bipush (pc := 112) (-3) (by decide) dX11_copy_112 ?_
      obtain ⟨v35, s34, hp, h⟩ := bd2_some h
      refine E_callV (pc := 114) (As := [_]) (fc := (0, 0)) s11_80_11 oX11_refuse dX11_copy_114 (mem_ob (ent_st SW0)) rfl rfl (Nat.le_of_ble_eq_true rfl) rfl rfl (by decide) (e_X11_refuse hp) (fun rv_ M_ hq_ => ?_)
      obtain ⟨rfl, rfl⟩ := hq_
      exact E_ireturn (pc := 117) rfl rfl dX11_copy_117 (QI_of h)
noncomputable def f_X11_copy (x1 : Int32) (x2 : Int32) (x3 : Int32) (x4 : Int32) (x5 : Int32) (σ : ST) : Option (Int32 × ST) :=
    bd2 (f_X11_isShelf x1 σ) fun v2 s1 =>
    if v2 = 0 then
    (bd2 (f_X11_refuse (-1) s1) fun v4 s3 =>
    some (v4, s3))
    else (bd2 (f_X11_isShelf x2 s1) fun v6 s5 =>
    if v6 = 0 then
    (bd2 (f_X11_refuse (-1) s5) fun v43 s42 =>
    some (v43, s42))
    else ((ixR 8 x1).bind fun j7 =>
    (ixR 8 x2).bind fun j8 =>
    bd2 (f_X7_holdsPiece (231 + 2 * j7) s5) fun v10 s9 =>
    if v10 = 0 then
    (bd2 (f_X7_holdsPiece (231 + 2 * j8) s9) fun v14 s13 =>
    if v14 = 0 then
    (bd2 (f_X7_holdsRow (231 + 2 * j7) s13) fun v16 s15 =>
    if v16 = 0 then
    (f_X11_copy_95 (231 + 2 * j7) (231 + 2 * j8) x3 x4 x5 s15)
    else (bd2 (f_X7_holdsRow (231 + 2 * j8) s15) fun v37 s36 =>
    if v37 = 0 then
    (f_X11_copy_95 (231 + 2 * j7) (231 + 2 * j8) x3 x4 x5 s36)
    else (if (s36.1 (231 + 2 * j7) 0) = (s36.1 (231 + 2 * j8) 0) then
    (f_X11_copy_95 (231 + 2 * j7) (231 + 2 * j8) x3 x4 x5 s36)
    else (bd2 (f_X11_refuse (-2) s36) fun v39 s38 =>
    some (v39, s38)))))
    else (bd2 (f_X11_refuse (-2) s13) fun v41 s40 =>
    some (v41, s40)))
    else (bd2 (f_X11_refuse (-2) s9) fun v12 s11 =>
    some (v12, s11))))
theorem e_X11_copy {G : GP} {x1 : Int32} {x2 : Int32} {x3 : Int32} {x4 : Int32} {x5 : Int32} {σ : ST} {v : Int32} {s : ST}  (h : f_X11_copy x1 x2 x3 x4 x5 σ = some (v, s)) : E G mX11_copy (1, 60) 0 [.ref 0, .int x1, .int x2, .int x3, .int x4, .int x5, D0, D0] [] (mem σ) (QI v s) := by
  unfold f_X11_copy at h
  refine E_iload_n (pc := 0) rfl dX11_copy_0 ?_
  obtain ⟨v2, s1, hp, h⟩ := bd2_some h
  refine E_callS (pc := 1) (As := [_]) (fc := (0, 0)) s11_76 oX11_isShelf dX11_copy_1 rfl rfl (Nat.le_of_ble_eq_true rfl) rfl rfl (by decide) (e_X11_isShelf hp) (fun rv_ M_ hq_ => ?_)
  obtain ⟨rfl, rfl⟩ := hq_
  refine T_if_eq (pc := 4) 14 dX11_copy_4 (by decide) h (fun h => ?_) (fun h => ?_)
  · refine E_aload_n (pc := 14) rfl dX11_copy_14 ?_
    refine E_im1 (pc := 15) dX11_copy_15 ?_
    obtain ⟨v4, s3, hp, h⟩ := bd2_some h
    refine E_callV (pc := 16) (As := [_]) (fc := (0, 0)) s11_80_11 oX11_refuse dX11_copy_16 (mem_ob (ent_st SW0)) rfl rfl (Nat.le_of_ble_eq_true rfl) rfl rfl (by decide) (e_X11_refuse hp) (fun rv_ M_ hq_ => ?_)
    obtain ⟨rfl, rfl⟩ := hq_
    exact E_ireturn (pc := 19) rfl rfl dX11_copy_19 (QI_of h)
  · refine E_iload_n (pc := 7) rfl dX11_copy_7 ?_
    obtain ⟨v6, s5, hp, h⟩ := bd2_some h
    refine E_callS (pc := 8) (As := [_]) (fc := (0, 0)) s11_76 oX11_isShelf dX11_copy_8 rfl rfl (Nat.le_of_ble_eq_true rfl) rfl rfl (by decide) (e_X11_isShelf hp) (fun rv_ M_ hq_ => ?_)
    obtain ⟨rfl, rfl⟩ := hq_
    refine T_if_ne (pc := 11) 20 dX11_copy_11 (by decide) h (fun h => ?_) (fun h => ?_)
    · refine E_aload_n (pc := 20) rfl dX11_copy_20 ?_
      refine R_getR (pc := 21) (b := 1) f11_11 dX11_copy_21 (ent_st SW0) (by decide) rfl rfl ?_
      refine E_iload_n (pc := 24) rfl dX11_copy_24 ?_
      refine T_rald (pc := 25) (b := fun i => 231 + 2 * i) dX11_copy_25 (ent_st SW1) (by decide) (by decide) h (fun j7 hj7 h => ?_)
      refine E_astore (pc := 26) (L2 := [_, _, _, _, _, _, _, _]) rfl rfl dX11_copy_26 ?_
      refine E_aload_n (pc := 28) rfl dX11_copy_28 ?_
      refine R_getR (pc := 29) (b := 1) f11_11 dX11_copy_29 (ent_st SW0) (by decide) rfl rfl ?_
      refine E_iload_n (pc := 32) rfl dX11_copy_32 ?_
      refine T_rald (pc := 33) (b := fun i => 231 + 2 * i) dX11_copy_33 (ent_st SW1) (by decide) (by decide) h (fun j8 hj8 h => ?_)
      refine E_astore (pc := 34) (L2 := [_, _, _, _, _, _, _, _]) rfl rfl dX11_copy_34 ?_
      refine E_aload (pc := 36) rfl dX11_copy_36 ?_
      obtain ⟨v10, s9, hp, h⟩ := bd2_some h
      refine E_callV (pc := 38) (As := []) (fc := (0, 0)) s11_98_7 oX7_holdsPiece dX11_copy_38 (mem_ob (ent_st (SH_s j7 hj7).1)) rfl rfl (Nat.le_of_ble_eq_true rfl) rfl rfl (by decide) (e_X7_holdsPiece (SH_s j7 hj7) hp) (fun rv_ M_ hq_ => ?_)
      obtain ⟨rfl, rfl⟩ := hq_
      refine T_if_ne (pc := 41) 52 dX11_copy_41 (by decide) h (fun h => ?_) (fun h => ?_)
      · refine E_aload_n (pc := 52) rfl dX11_copy_52 ?_
        refine E_bipush (pc := 53) (-2) (by decide) dX11_copy_53 ?_
        obtain ⟨v12, s11, hp, h⟩ := bd2_some h
        refine E_callV (pc := 55) (As := [_]) (fc := (0, 0)) s11_80_11 oX11_refuse dX11_copy_55 (mem_ob (ent_st SW0)) rfl rfl (Nat.le_of_ble_eq_true rfl) rfl rfl (by decide) (e_X11_refuse hp) (fun rv_ M_ hq_ => ?_)
        obtain ⟨rfl, rfl⟩ := hq_
        exact E_ireturn (pc := 58) rfl rfl dX11_copy_58 (QI_of h)
      · refine E_aload (pc := 44) rfl dX11_copy_44 ?_
        obtain ⟨v14, s13, hp, h⟩ := bd2_some h
        refine E_callV (pc := 46) (As := []) (fc := (0, 0)) s11_98_7 oX7_holdsPiece dX11_copy_46 (mem_ob (ent_st (SH_s j8 hj8).1)) rfl rfl (Nat.le_of_ble_eq_true rfl) rfl rfl (by decide) (e_X7_holdsPiece (SH_s j8 hj8) hp) (fun rv_ M_ hq_ => ?_)
        obtain ⟨rfl, rfl⟩ := hq_
        refine T_if_eq (pc := 49) 59 dX11_copy_49 (by decide) h (fun h => ?_) (fun h => ?_)
        · refine E_aload (pc := 59) rfl dX11_copy_59 ?_
          obtain ⟨v16, s15, hp, h⟩ := bd2_some h
          refine E_callV (pc := 61) (As := []) (fc := (0, 0)) s11_102_7 oX7_holdsRow dX11_copy_61 (mem_ob (ent_st (SH_s j7 hj7).1)) rfl rfl (Nat.le_of_ble_eq_true rfl) rfl rfl (by decide) (e_X7_holdsRow (SH_s j7 hj7) hp) (fun rv_ M_ hq_ => ?_)
          obtain ⟨rfl, rfl⟩ := hq_
          refine T_if_eq (pc := 64) 95 dX11_copy_64 (by decide) h (fun h => ?_) (fun h => ?_)
          · refine E_kp [true, false, false, true, true, true, true, true] (L2 := [_, D0, D0, _, _, _, _, _]) rfl rfl ?_
            refine e_X11_copy_95 (SH_s j7 hj7) (SH_s j8 hj8) h
          · refine E_aload (pc := 67) rfl dX11_copy_67 ?_
            obtain ⟨v37, s36, hp, h⟩ := bd2_some h
            refine E_callV (pc := 69) (As := []) (fc := (0, 0)) s11_102_7 oX7_holdsRow dX11_copy_69 (mem_ob (ent_st (SH_s j8 hj8).1)) rfl rfl (Nat.le_of_ble_eq_true rfl) rfl rfl (by decide) (e_X7_holdsRow (SH_s j8 hj8) hp) (fun rv_ M_ hq_ => ?_)
            obtain ⟨rfl, rfl⟩ := hq_
            refine T_if_eq (pc := 72) 95 dX11_copy_72 (by decide) h (fun h => ?_) (fun h => ?_)
            · refine E_kp [true, false, false, true, true, true, true, true] (L2 := [_, D0, D0, _, _, _, _, _]) rfl rfl ?_
              refine e_X11_copy_95 (SH_s j7 hj7) (SH_s j8 hj8) h
            · refine E_aload (pc := 75) rfl dX11_copy_75 ?_
              refine R_getI (pc := 77) f11_105 dX11_copy_77 (ent_st (SH_s j7 hj7).1) (by decide) rfl ?_
              refine E_aload (pc := 80) rfl dX11_copy_80 ?_
              refine R_getI (pc := 82) f11_105 dX11_copy_82 (ent_st (SH_s j8 hj8).1) (by decide) rfl ?_
              refine T_icmp_eq (pc := 85) 95 dX11_copy_85 (by decide) h (fun h => ?_) (fun h => ?_)
              · refine E_kp [true, false, false, true, true, true, true, true] (L2 := [_, D0, D0, _, _, _, _, _]) rfl rfl ?_
                refine e_X11_copy_95 (SH_s j7 hj7) (SH_s j8 hj8) h
              · refine E_aload_n (pc := 88) rfl dX11_copy_88 ?_
                refine E_bipush (pc := 89) (-2) (by decide) dX11_copy_89 ?_
                obtain ⟨v39, s38, hp, h⟩ := bd2_some h
                refine E_callV (pc := 91) (As := [_]) (fc := (0, 0)) s11_80_11 oX11_refuse dX11_copy_91 (mem_ob (ent_st SW0)) rfl rfl (Nat.le_of_ble_eq_true rfl) rfl rfl (by decide) (e_X11_refuse hp) (fun rv_ M_ hq_ => ?_)
                obtain ⟨rfl, rfl⟩ := hq_
                exact E_ireturn (pc := 94) rfl rfl dX11_copy_94 (QI_of h)
        · refine E_aload_n (pc := 52) rfl dX11_copy_52 ?_
          refine E_bipush (pc := 53) (-2) (by decide) dX11_copy_53 ?_
          obtain ⟨v41, s40, hp, h⟩ := bd2_some h
          refine E_callV (pc := 55) (As := [_]) (fc := (0, 0)) s11_80_11 oX11_refuse dX11_copy_55 (mem_ob (ent_st SW0)) rfl rfl (Nat.le_of_ble_eq_true rfl) rfl rfl (by decide) (e_X11_refuse hp) (fun rv_ M_ hq_ => ?_)
          obtain ⟨rfl, rfl⟩ := hq_
          exact E_ireturn (pc := 58) rfl rfl dX11_copy_58 (QI_of h)
    · refine E_aload_n (pc := 14) rfl dX11_copy_14 ?_
      refine E_im1 (pc := 15) dX11_copy_15 ?_
      obtain ⟨v43, s42, hp, h⟩ := bd2_some h
      refine E_callV (pc := 16) (As := [_]) (fc := (0, 0)) s11_80_11 oX11_refuse dX11_copy_16 (mem_ob (ent_st SW0)) rfl rfl (Nat.le_of_ble_eq_true rfl) rfl rfl (by decide) (e_X11_refuse hp) (fun rv_ M_ hq_ => ?_)
      obtain ⟨rfl, rfl⟩ := hq_
      exact E_ireturn (pc := 19) rfl rfl dX11_copy_19 (QI_of h)
noncomputable def f_X11_element (x1 : Int32) (x2 : Int32) (σ : ST) : Option (Int64 × ST) :=
    bd2 (f_X11_isShelf x1 σ) fun v2 s1 =>
    if v2 = 0 then
    (some ((0), s1))
    else ((ixR 8 x1).bind fun j3 =>
    bd2 (f_X7_cellAt (231 + 2 * j3) x2 s1) fun v5 s4 =>
    some (v5, s4))
theorem e_X11_element {G : GP} {x1 : Int32} {x2 : Int32} {σ : ST} {v : Int64} {s : ST}  (h : f_X11_element x1 x2 σ = some (v, s)) : E G mX11_element (2, 42) 0 [.ref 0, .int x1, .int x2] [] (mem σ) (QJ v s) := by
  unfold f_X11_element at h
  refine E_iload_n (pc := 0) rfl dX11_element_0 ?_
  obtain ⟨v2, s1, hp, h⟩ := bd2_some h
  refine E_callS (pc := 1) (As := [_]) (fc := (0, 0)) s11_76 oX11_isShelf dX11_element_1 rfl rfl (Nat.le_of_ble_eq_true rfl) rfl rfl (by decide) (e_X11_isShelf hp) (fun rv_ M_ hq_ => ?_)
  obtain ⟨rfl, rfl⟩ := hq_
  refine T_if_eq (pc := 4) 20 dX11_element_4 (by decide) h (fun h => ?_) (fun h => ?_)
  · refine E_lconst (pc := 20) 0 rfl dX11_element_20 ?_
    exact E_lreturn (pc := 21) rfl dX11_element_21 (QJ_of h)
  · refine E_aload_n (pc := 7) rfl dX11_element_7 ?_
    refine R_getR (pc := 8) (b := 1) f11_11 dX11_element_8 (ent_st SW0) (by decide) rfl rfl ?_
    refine E_iload_n (pc := 11) rfl dX11_element_11 ?_
    refine T_rald (pc := 12) (b := fun i => 231 + 2 * i) dX11_element_12 (ent_st SW1) (by decide) (by decide) h (fun j3 hj3 h => ?_)
    refine E_iload_n (pc := 13) rfl dX11_element_13 ?_
    obtain ⟨v5, s4, hp, h⟩ := bd2_some h
    refine E_callV (pc := 14) (As := [_]) (fc := (1, 21)) s11_122_7 oX7_cellAt dX11_element_14 (mem_ob (ent_st (SH_s j3 hj3).1)) rfl rfl (Nat.le_of_ble_eq_true rfl) rfl rfl (by decide) (e_X7_cellAt (SH_s j3 hj3) hp) (fun rv_ M_ hq_ => ?_)
    obtain ⟨rfl, rfl⟩ := hq_
    refine E_goto (pc := 17) 21 (by decide) dX11_element_17 ?_
    exact E_lreturn (pc := 21) rfl dX11_element_21 (QJ_of h)
noncomputable def f_X11_show_29 (x1 : Int32) (x2 : Int32) (sg : ST) : Option (Int32 × ST) :=
    (ixR 8 x1).bind fun j5 =>
    (f_X7_takePiece (231 + 2 * j5) x2 sg).bind fun s6 =>
    if x2 = (-1) then
    (some ((nI 0), s6))
    else (some ((nI 1), s6))
theorem e_X11_show_29 {G : GP} {x1 : Int32} {x2 : Int32} {sg : ST} {v : Int32} {s : ST}  (h : f_X11_show_29 x1 x2 sg = some (v, s)) : E G mX11_show (1, 22) 29 [.ref 0, .int x1, .int x2] [] (mem sg) (QI v s) := by
  unfold f_X11_show_29 at h
  refine E_aload_n (pc := 29) rfl dX11_show_29 ?_
  refine R_getR (pc := 30) (b := 1) f11_11 dX11_show_30 (ent_st SW0) (by decide) rfl rfl ?_
  refine E_iload_n (pc := 33) rfl dX11_show_33 ?_
  refine T_rald (pc := 34) (b := fun i => 231 + 2 * i) dX11_show_34 (ent_st SW1) (by decide) (by decide) h (fun j5 hj5 h => ?_)
  refine E_iload_n (pc := 35) rfl dX11_show_35 ?_
  obtain ⟨s6, hp, h⟩ := bd_some h
  refine E_callV (pc := 36) (As := [_]) (fc := (0, 0)) s11_130_7 oX7_takePiece dX11_show_36 (mem_ob (ent_st (SH_s j5 hj5).1)) rfl rfl (Nat.le_of_ble_eq_true rfl) rfl rfl (by decide) (e_X7_takePiece (SH_s j5 hj5) hp) (fun rv_ M_ hq_ => ?_)
  obtain ⟨rfl, rfl⟩ := hq_
  refine E_iload_n (pc := 39) rfl dX11_show_39 ?_
  refine E_im1 (pc := 40) dX11_show_40 ?_
  refine T_icmp_ne (pc := 41) 48 dX11_show_41 (by decide) h (fun h => ?_) (fun h => ?_)
  · refine E_iconst (pc := 48) 1 rfl dX11_show_48 ?_
    exact E_ireturn (pc := 49) rfl rfl dX11_show_49 (QI_of h)
  · refine E_iconst (pc := 44) 0 rfl dX11_show_44 ?_
    refine E_goto (pc := 45) 49 (by decide) dX11_show_45 ?_
    exact E_ireturn (pc := 49) rfl rfl dX11_show_49 (QI_of h)
noncomputable def f_X11_show (x1 : Int32) (x2 : Int32) (σ : ST) : Option (Int32 × ST) :=
    bd2 (f_X11_isShelf x1 σ) fun v2 s1 =>
    if v2 = 0 then
    (bd2 (f_X11_refuse (-1) s1) fun v4 s3 =>
    some (v4, s3))
    else (if x2 = (-1) then
    (f_X11_show_29 x1 x2 s1)
    else (bd2 (f_X10_pieceAt x2 s1) fun v8 s7 =>
    nl v8 (bd2 (f_X11_refuse (-1) s7) fun v11 s10 =>
    some (v11, s10)) fun q9 =>
    f_X11_show_29 x1 x2 s7))
theorem e_X11_show {G : GP} {x1 : Int32} {x2 : Int32} {σ : ST} {v : Int32} {s : ST}  (h : f_X11_show x1 x2 σ = some (v, s)) : E G mX11_show (1, 22) 0 [.ref 0, .int x1, .int x2] [] (mem σ) (QI v s) := by
  unfold f_X11_show at h
  refine E_iload_n (pc := 0) rfl dX11_show_0 ?_
  obtain ⟨v2, s1, hp, h⟩ := bd2_some h
  refine E_callS (pc := 1) (As := [_]) (fc := (0, 0)) s11_76 oX11_isShelf dX11_show_1 rfl rfl (Nat.le_of_ble_eq_true rfl) rfl rfl (by decide) (e_X11_isShelf hp) (fun rv_ M_ hq_ => ?_)
  obtain ⟨rfl, rfl⟩ := hq_
  refine T_if_eq (pc := 4) 23 dX11_show_4 (by decide) h (fun h => ?_) (fun h => ?_)
  · refine E_aload_n (pc := 23) rfl dX11_show_23 ?_
    refine E_im1 (pc := 24) dX11_show_24 ?_
    obtain ⟨v4, s3, hp, h⟩ := bd2_some h
    refine E_callV (pc := 25) (As := [_]) (fc := (0, 0)) s11_80_11 oX11_refuse dX11_show_25 (mem_ob (ent_st SW0)) rfl rfl (Nat.le_of_ble_eq_true rfl) rfl rfl (by decide) (e_X11_refuse hp) (fun rv_ M_ hq_ => ?_)
    obtain ⟨rfl, rfl⟩ := hq_
    exact E_ireturn (pc := 28) rfl rfl dX11_show_28 (QI_of h)
  · refine E_iload_n (pc := 7) rfl dX11_show_7 ?_
    refine E_im1 (pc := 8) dX11_show_8 ?_
    refine T_icmp_eq (pc := 9) 29 dX11_show_9 (by decide) h (fun h => ?_) (fun h => ?_)
    · refine e_X11_show_29  h
    · refine E_aload_n (pc := 12) rfl dX11_show_12 ?_
      refine R_getR (pc := 13) (b := 2) f11_18 dX11_show_13 (ent_st SW0) (by decide) rfl rfl ?_
      refine E_iload_n (pc := 16) rfl dX11_show_16 ?_
      obtain ⟨v8, s7, hp, h⟩ := bd2_some h
      refine E_callV (pc := 17) (As := [_]) (fc := (0, 0)) s11_126_10 oX10_pieceAt dX11_show_17 (mem_ob (ent_st WO2.1)) rfl rfl (Nat.le_of_ble_eq_true rfl) rfl rfl (by decide) (e_X10_pieceAt hp) (fun rv_ M_ hq_ => ?_)
      obtain ⟨rfl, rfl⟩ := hq_
      cases v8 with
      | none =>
        replace h := nl_none h
        refine E_ifnonnullN (pc := 20) dX11_show_20 ?_
        refine E_aload_n (pc := 23) rfl dX11_show_23 ?_
        refine E_im1 (pc := 24) dX11_show_24 ?_
        obtain ⟨v11, s10, hp, h⟩ := bd2_some h
        refine E_callV (pc := 25) (As := [_]) (fc := (0, 0)) s11_80_11 oX11_refuse dX11_show_25 (mem_ob (ent_st SW0)) rfl rfl (Nat.le_of_ble_eq_true rfl) rfl rfl (by decide) (e_X11_refuse hp) (fun rv_ M_ hq_ => ?_)
        obtain ⟨rfl, rfl⟩ := hq_
        exact E_ireturn (pc := 28) rfl rfl dX11_show_28 (QI_of h)
      | some q9 =>
        replace h := nl_some h
        refine E_ifnonnull (pc := 20) 29 (by decide) dX11_show_20 ?_
        refine e_X11_show_29  h
noncomputable def f_X11_holds (x1 : Int32) (σ : ST) : Option (Int32 × ST) :=
    bd2 (f_X11_isShelf x1 σ) fun v2 s1 =>
    if v2 = 0 then
    (some ((-1), s1))
    else ((ixR 8 x1).bind fun j3 =>
    some ((s1.1 (231 + 2 * j3) 0), s1))
theorem e_X11_holds {G : GP} {x1 : Int32} {σ : ST} {v : Int32} {s : ST}  (h : f_X11_holds x1 σ = some (v, s)) : E G mX11_holds (1, 20) 0 [.ref 0, .int x1] [] (mem σ) (QI v s) := by
  unfold f_X11_holds at h
  refine E_iload_n (pc := 0) rfl dX11_holds_0 ?_
  obtain ⟨v2, s1, hp, h⟩ := bd2_some h
  refine E_callS (pc := 1) (As := [_]) (fc := (0, 0)) s11_76 oX11_isShelf dX11_holds_1 rfl rfl (Nat.le_of_ble_eq_true rfl) rfl rfl (by decide) (e_X11_isShelf hp) (fun rv_ M_ hq_ => ?_)
  obtain ⟨rfl, rfl⟩ := hq_
  refine T_if_eq (pc := 4) 19 dX11_holds_4 (by decide) h (fun h => ?_) (fun h => ?_)
  · refine E_im1 (pc := 19) dX11_holds_19 ?_
    exact E_ireturn (pc := 20) rfl rfl dX11_holds_20 (QI_of h)
  · refine E_aload_n (pc := 7) rfl dX11_holds_7 ?_
    refine R_getR (pc := 8) (b := 1) f11_11 dX11_holds_8 (ent_st SW0) (by decide) rfl rfl ?_
    refine E_iload_n (pc := 11) rfl dX11_holds_11 ?_
    refine T_rald (pc := 12) (b := fun i => 231 + 2 * i) dX11_holds_12 (ent_st SW1) (by decide) (by decide) h (fun j3 hj3 h => ?_)
    refine R_getI (pc := 13) f11_105 dX11_holds_13 (ent_st (SH_s j3 hj3).1) (by decide) rfl ?_
    refine E_goto (pc := 16) 20 (by decide) dX11_holds_16 ?_
    exact E_ireturn (pc := 20) rfl rfl dX11_holds_20 (QI_of h)
noncomputable def f_X11_isKind (x0 : Int32) (σ : ST) : Option (Int32 × ST) :=
    if x0 < 0 then
    (some ((nI 0), σ))
    else (if x0 < (nI 4) then
    (some ((nI 1), σ))
    else (some ((nI 0), σ)))
theorem e_X11_isKind {G : GP} {x0 : Int32} {σ : ST} {v : Int32} {s : ST}  (h : f_X11_isKind x0 σ = some (v, s)) : E G mX11_isKind (0, 0) 0 [.int x0] [] (mem σ) (QI v s) := by
  unfold f_X11_isKind at h
  refine E_iload_n (pc := 0) rfl dX11_isKind_0 ?_
  refine T_if_lt (pc := 1) 13 dX11_isKind_1 (by decide) h (fun h => ?_) (fun h => ?_)
  · refine E_iconst (pc := 13) 0 rfl dX11_isKind_13 ?_
    exact E_ireturn (pc := 14) rfl (by decide) dX11_isKind_14 (QI_of h)
  · refine E_iload_n (pc := 4) rfl dX11_isKind_4 ?_
    refine E_iconst (pc := 5) 4 rfl dX11_isKind_5 ?_
    refine T_icmp_ge (pc := 6) 13 dX11_isKind_6 (by decide) h (fun h => ?_) (fun h => ?_)
    · refine E_iconst (pc := 13) 0 rfl dX11_isKind_13 ?_
      exact E_ireturn (pc := 14) rfl (by decide) dX11_isKind_14 (QI_of h)
    · refine E_iconst (pc := 9) 1 rfl dX11_isKind_9 ?_
      refine E_goto (pc := 10) 14 (by decide) dX11_isKind_10 ?_
      exact E_ireturn (pc := 14) rfl (by decide) dX11_isKind_14 (QI_of h)
noncomputable def f_X11_isOf (p0 : Nat) (x1 : Int32) (σ : ST) : Option (Int32 × ST) :=
    if x1 = nI 1 then
    ((chkP [6, 4, 8, 9] σ p0).bind fun c1 =>
    zr (ioR [8, 4] c1) σ)
    else if x1 = nI 2 then
    ((chkP [6, 4, 8, 9] σ p0).bind fun c2 =>
    zr (ioR [9] c2) σ)
    else if x1 = nI 3 then
    ((chkP [6, 4, 8, 9] σ p0).bind fun c3 =>
    zr (ioR [4] c3) σ)
    else (some ((nI 1), σ))
theorem e_X11_isOf {G : GP} {p0 : Nat} {x1 : Int32} {σ : ST} {v : Int32} {s : ST}  (h : f_X11_isOf p0 x1 σ = some (v, s)) : E G mX11_isOf (0, 0) 0 [.ref p0, .int x1] [] (mem σ) (QI v s) := by
  unfold f_X11_isOf at h
  refine E_iload_n (pc := 0) rfl dX11_isOf_0 ?_
  refine T_tbl (pc := 1) (m := 1) 28 (by omega) (by decide) (by decide) dX11_isOf_1 rfl (by decide) h (fun h => ?_) (fun u1_1 h => ?_)
  · refine E_aload_n (pc := 28) rfl dX11_isOf_28 ?_
    refine T_inst (pc := 29) [8, 4] l11_314 (by decide +kernel) dX11_isOf_29 h (fun c1 h => ?_)
    exact T_zret (pc := 32) rfl dX11_isOf_32 h
  refine T_tbl (pc := 1) (m := 2) 33 (by omega) (by decide) (by decide) dX11_isOf_1 rfl (by decide) h (fun h => ?_) (fun u1_2 h => ?_)
  · refine E_aload_n (pc := 33) rfl dX11_isOf_33 ?_
    refine T_inst (pc := 34) [9] l11_316 (by decide +kernel) dX11_isOf_34 h (fun c2 h => ?_)
    exact T_zret (pc := 37) rfl dX11_isOf_37 h
  refine T_tbl (pc := 1) (m := 3) 38 (by omega) (by decide) (by decide) dX11_isOf_1 rfl (by decide) h (fun h => ?_) (fun u1_3 h => ?_)
  · refine E_aload_n (pc := 38) rfl dX11_isOf_38 ?_
    refine T_inst (pc := 39) [4] l11_318 (by decide +kernel) dX11_isOf_39 h (fun c3 h => ?_)
    exact T_zret (pc := 42) rfl dX11_isOf_42 h
  refine E_tblOut (pc := 1) 43 (by omega) (by decide) dX11_isOf_1 ?_
  refine E_iconst (pc := 43) 1 rfl dX11_isOf_43 ?_
  exact E_ireturn (pc := 44) rfl (by decide) dX11_isOf_44 (QI_of h)
noncomputable def f_X11_says (x1 : Int32) (x2 : Int32) (σ : ST) : Option (Int32 × ST) :=
    bd2 (f_X11_isShelf x1 σ) fun v2 s1 =>
    if v2 = 0 then
    (bd2 (f_X11_refuse (-1) s1) fun v4 s3 =>
    some (v4, s3))
    else (bd2 (f_X11_isKind x2 s1) fun v6 s5 =>
    if v6 = 0 then
    (bd2 (f_X11_refuse (-1) s5) fun v26 s25 =>
    some (v26, s25))
    else ((ixR 8 x1).bind fun j7 =>
    bd2 (f_X7_holdsRow (231 + 2 * j7) s5) fun v9 s8 =>
    if v9 = 0 then
    ((ixR 8 x1).bind fun j10 =>
    bd2 (f_X10_pieceAt (s8.1 (231 + 2 * j10) 0) s8) fun v12 s11 =>
    nl v12 (bd2 (f_X11_refuse (-3) s11) fun v15 s14 =>
    some (v15, s14)) fun q13 =>
    bd2 (f_X11_isOf q13 x2 s11) fun v17 s16 =>
    if v17 = 0 then
    (bd2 (f_X11_refuse (-2) s16) fun v22 s21 =>
    some (v22, s21))
    else (if x2 = 0 then
    ((rdP [6, 4, 8, 9] s16 q13 6).bind fun v20 =>
    some (v20, s16))
    else (if x2 = (nI 2) then
    ((rdP [6, 4, 8, 9] s16 q13 5).bind fun v19 =>
    some (v19, s16))
    else ((rdP [6, 4, 8, 9] s16 q13 4).bind fun v18 =>
    some (v18, s16)))))
    else (bd2 (f_X11_refuse (-2) s8) fun v24 s23 =>
    some (v24, s23))))
theorem e_X11_says {G : GP} {x1 : Int32} {x2 : Int32} {σ : ST} {v : Int32} {s : ST}  (h : f_X11_says x1 x2 σ = some (v, s)) : E G mX11_says (1, 22) 0 [.ref 0, .int x1, .int x2, D0] [] (mem σ) (QI v s) := by
  unfold f_X11_says at h
  refine E_iload_n (pc := 0) rfl dX11_says_0 ?_
  obtain ⟨v2, s1, hp, h⟩ := bd2_some h
  refine E_callS (pc := 1) (As := [_]) (fc := (0, 0)) s11_76 oX11_isShelf dX11_says_1 rfl rfl (Nat.le_of_ble_eq_true rfl) rfl rfl (by decide) (e_X11_isShelf hp) (fun rv_ M_ hq_ => ?_)
  obtain ⟨rfl, rfl⟩ := hq_
  refine T_if_eq (pc := 4) 14 dX11_says_4 (by decide) h (fun h => ?_) (fun h => ?_)
  · refine E_aload_n (pc := 14) rfl dX11_says_14 ?_
    refine E_im1 (pc := 15) dX11_says_15 ?_
    obtain ⟨v4, s3, hp, h⟩ := bd2_some h
    refine E_callV (pc := 16) (As := [_]) (fc := (0, 0)) s11_80_11 oX11_refuse dX11_says_16 (mem_ob (ent_st SW0)) rfl rfl (Nat.le_of_ble_eq_true rfl) rfl rfl (by decide) (e_X11_refuse hp) (fun rv_ M_ hq_ => ?_)
    obtain ⟨rfl, rfl⟩ := hq_
    exact E_ireturn (pc := 19) rfl rfl dX11_says_19 (QI_of h)
  · refine E_iload_n (pc := 7) rfl dX11_says_7 ?_
    obtain ⟨v6, s5, hp, h⟩ := bd2_some h
    refine E_callS (pc := 8) (As := [_]) (fc := (0, 0)) s11_134 oX11_isKind dX11_says_8 rfl rfl (Nat.le_of_ble_eq_true rfl) rfl rfl (by decide) (e_X11_isKind hp) (fun rv_ M_ hq_ => ?_)
    obtain ⟨rfl, rfl⟩ := hq_
    refine T_if_ne (pc := 11) 20 dX11_says_11 (by decide) h (fun h => ?_) (fun h => ?_)
    · refine E_aload_n (pc := 20) rfl dX11_says_20 ?_
      refine R_getR (pc := 21) (b := 1) f11_11 dX11_says_21 (ent_st SW0) (by decide) rfl rfl ?_
      refine E_iload_n (pc := 24) rfl dX11_says_24 ?_
      refine T_rald (pc := 25) (b := fun i => 231 + 2 * i) dX11_says_25 (ent_st SW1) (by decide) (by decide) h (fun j7 hj7 h => ?_)
      obtain ⟨v9, s8, hp, h⟩ := bd2_some h
      refine E_callV (pc := 26) (As := []) (fc := (0, 0)) s11_102_7 oX7_holdsRow dX11_says_26 (mem_ob (ent_st (SH_s j7 hj7).1)) rfl rfl (Nat.le_of_ble_eq_true rfl) rfl rfl (by decide) (e_X7_holdsRow (SH_s j7 hj7) hp) (fun rv_ M_ hq_ => ?_)
      obtain ⟨rfl, rfl⟩ := hq_
      refine T_if_eq (pc := 29) 39 dX11_says_29 (by decide) h (fun h => ?_) (fun h => ?_)
      · refine E_aload_n (pc := 39) rfl dX11_says_39 ?_
        refine R_getR (pc := 40) (b := 2) f11_18 dX11_says_40 (ent_st SW0) (by decide) rfl rfl ?_
        refine E_aload_n (pc := 43) rfl dX11_says_43 ?_
        refine R_getR (pc := 44) (b := 1) f11_11 dX11_says_44 (ent_st SW0) (by decide) rfl rfl ?_
        refine E_iload_n (pc := 47) rfl dX11_says_47 ?_
        refine T_rald (pc := 48) (b := fun i => 231 + 2 * i) dX11_says_48 (ent_st SW1) (by decide) (by decide) h (fun j10 hj10 h => ?_)
        refine R_getI (pc := 49) f11_105 dX11_says_49 (ent_st (SH_s j10 hj10).1) (by decide) rfl ?_
        obtain ⟨v12, s11, hp, h⟩ := bd2_some h
        refine E_callV (pc := 52) (As := [_]) (fc := (0, 0)) s11_126_10 oX10_pieceAt dX11_says_52 (mem_ob (ent_st WO2.1)) rfl rfl (Nat.le_of_ble_eq_true rfl) rfl rfl (by decide) (e_X10_pieceAt hp) (fun rv_ M_ hq_ => ?_)
        obtain ⟨rfl, rfl⟩ := hq_
        refine T_astore_nQ (pc := 55) (L2 := [_, _, _, _]) rfl rfl dX11_says_55 ?_
        refine T_aload_nQ (pc := 56) rfl dX11_says_56 ?_
        cases v12 with
        | none =>
          replace h := nl_none h
          refine E_ifnonnullN (pc := 57) dX11_says_57 ?_
          refine E_aload_n (pc := 60) rfl dX11_says_60 ?_
          refine E_bipush (pc := 61) (-3) (by decide) dX11_says_61 ?_
          obtain ⟨v15, s14, hp, h⟩ := bd2_some h
          refine E_callV (pc := 63) (As := [_]) (fc := (0, 0)) s11_80_11 oX11_refuse dX11_says_63 (mem_ob (ent_st SW0)) rfl rfl (Nat.le_of_ble_eq_true rfl) rfl rfl (by decide) (e_X11_refuse hp) (fun rv_ M_ hq_ => ?_)
          obtain ⟨rfl, rfl⟩ := hq_
          exact E_ireturn (pc := 66) rfl rfl dX11_says_66 (QI_of h)
        | some q13 =>
          replace h := nl_some h
          refine E_ifnonnull (pc := 57) 67 (by decide) dX11_says_57 ?_
          refine E_aload_n (pc := 67) rfl dX11_says_67 ?_
          refine E_iload_n (pc := 68) rfl dX11_says_68 ?_
          obtain ⟨v17, s16, hp, h⟩ := bd2_some h
          refine E_callS (pc := 69) (As := [_, _]) (fc := (0, 0)) s11_137 oX11_isOf dX11_says_69 rfl rfl (Nat.le_of_ble_eq_true rfl) rfl rfl (by decide) (e_X11_isOf hp) (fun rv_ M_ hq_ => ?_)
          obtain ⟨rfl, rfl⟩ := hq_
          refine T_if_ne (pc := 72) 82 dX11_says_72 (by decide) h (fun h => ?_) (fun h => ?_)
          · refine E_iload_n (pc := 82) rfl dX11_says_82 ?_
            refine T_if_ne (pc := 83) 91 dX11_says_83 (by decide) h (fun h => ?_) (fun h => ?_)
            · refine E_iload_n (pc := 91) rfl dX11_says_91 ?_
              refine E_iconst (pc := 92) 2 rfl dX11_says_92 ?_
              refine T_icmp_ne (pc := 93) 103 dX11_says_93 (by decide) h (fun h => ?_) (fun h => ?_)
              · refine E_aload_n (pc := 103) rfl dX11_says_103 ?_
                refine T_getP (pc := 104) f11_147 dX11_says_104 (by decide) h (fun v18 h => ?_)
                exact E_ireturn (pc := 107) rfl rfl dX11_says_107 (QI_of h)
              · refine E_aload_n (pc := 96) rfl dX11_says_96 ?_
                refine T_getP (pc := 97) f11_144 dX11_says_97 (by decide) h (fun v19 h => ?_)
                refine E_goto (pc := 100) 107 (by decide) dX11_says_100 ?_
                exact E_ireturn (pc := 107) rfl rfl dX11_says_107 (QI_of h)
            · refine E_aload_n (pc := 86) rfl dX11_says_86 ?_
              refine T_getP (pc := 87) f11_141 dX11_says_87 (by decide) h (fun v20 h => ?_)
              exact E_ireturn (pc := 90) rfl rfl dX11_says_90 (QI_of h)
          · refine E_aload_n (pc := 75) rfl dX11_says_75 ?_
            refine E_bipush (pc := 76) (-2) (by decide) dX11_says_76 ?_
            obtain ⟨v22, s21, hp, h⟩ := bd2_some h
            refine E_callV (pc := 78) (As := [_]) (fc := (0, 0)) s11_80_11 oX11_refuse dX11_says_78 (mem_ob (ent_st SW0)) rfl rfl (Nat.le_of_ble_eq_true rfl) rfl rfl (by decide) (e_X11_refuse hp) (fun rv_ M_ hq_ => ?_)
            obtain ⟨rfl, rfl⟩ := hq_
            exact E_ireturn (pc := 81) rfl rfl dX11_says_81 (QI_of h)
      · refine E_aload_n (pc := 32) rfl dX11_says_32 ?_
        refine E_bipush (pc := 33) (-2) (by decide) dX11_says_33 ?_
        obtain ⟨v24, s23, hp, h⟩ := bd2_some h
        refine E_callV (pc := 35) (As := [_]) (fc := (0, 0)) s11_80_11 oX11_refuse dX11_says_35 (mem_ob (ent_st SW0)) rfl rfl (Nat.le_of_ble_eq_true rfl) rfl rfl (by decide) (e_X11_refuse hp) (fun rv_ M_ hq_ => ?_)
        obtain ⟨rfl, rfl⟩ := hq_
        exact E_ireturn (pc := 38) rfl rfl dX11_says_38 (QI_of h)
    · refine E_aload_n (pc := 14) rfl dX11_says_14 ?_
      refine E_im1 (pc := 15) dX11_says_15 ?_
      obtain ⟨v26, s25, hp, h⟩ := bd2_some h
      refine E_callV (pc := 16) (As := [_]) (fc := (0, 0)) s11_80_11 oX11_refuse dX11_says_16 (mem_ob (ent_st SW0)) rfl rfl (Nat.le_of_ble_eq_true rfl) rfl rfl (by decide) (e_X11_refuse hp) (fun rv_ M_ hq_ => ?_)
      obtain ⟨rfl, rfl⟩ := hq_
      exact E_ireturn (pc := 19) rfl rfl dX11_says_19 (QI_of h)
noncomputable def f_X11_readingTrouble (x1 : Int32) (x2 : Int32) (σ : ST) : Option (Int32 × ST) :=
    (ixR 8 x1).bind fun j1 =>
    bd2 (f_X5_read (231 + 2 * j1) x2 σ) fun v3 s2 =>
    (pfI s2 0 13 v3).bind fun s4 =>
    if (s4.1 0 13) = (-1) then
    (some ((nI 0), s4))
    else (some ((-6), s4))
theorem e_X11_readingTrouble {G : GP} {x1 : Int32} {x2 : Int32} {σ : ST} {v : Int32} {s : ST}  (h : f_X11_readingTrouble x1 x2 σ = some (v, s)) : E G mX11_readingTrouble (6, 134) 0 [.ref 0, .int x1, .int x2] [] (mem σ) (QI v s) := by
  unfold f_X11_readingTrouble at h
  refine E_aload_n (pc := 0) rfl dX11_readingTrouble_0 ?_
  refine E_aload_n (pc := 1) rfl dX11_readingTrouble_1 ?_
  refine R_getR (pc := 2) (b := 188) f11_30 dX11_readingTrouble_2 (ent_st SW0) (by decide) rfl rfl ?_
  refine E_aload_n (pc := 5) rfl dX11_readingTrouble_5 ?_
  refine R_getR (pc := 6) (b := 1) f11_11 dX11_readingTrouble_6 (ent_st SW0) (by decide) rfl rfl ?_
  refine E_iload_n (pc := 9) rfl dX11_readingTrouble_9 ?_
  refine T_rald (pc := 10) (b := fun i => 231 + 2 * i) dX11_readingTrouble_10 (ent_st SW1) (by decide) (by decide) h (fun j1 hj1 h => ?_)
  refine E_iload_n (pc := 11) rfl dX11_readingTrouble_11 ?_
  obtain ⟨v3, s2, hp, h⟩ := bd2_some h
  refine E_callV (pc := 12) (As := [_, _]) (fc := (5, 110)) s11_320_5 oX5_read dX11_readingTrouble_12 (mem_ob (ent_st RD188)) rfl rfl (Nat.le_of_ble_eq_true rfl) rfl rfl (by decide) (e_X5_read (SH_s j1 hj1) hp) (fun rv_ M_ hq_ => ?_)
  obtain ⟨rfl, rfl⟩ := hq_
  refine T_putI (pc := 15) f11_71 dX11_readingTrouble_15 (ent_st SW0) (by decide) rfl (by decide +kernel) h (fun s4 h => ?_)
  refine E_aload_n (pc := 18) rfl dX11_readingTrouble_18 ?_
  refine R_getI (pc := 19) f11_71 dX11_readingTrouble_19 (ent_st SW0) (by decide) rfl ?_
  refine E_im1 (pc := 22) dX11_readingTrouble_22 ?_
  refine T_icmp_ne (pc := 23) 30 dX11_readingTrouble_23 (by decide) h (fun h => ?_) (fun h => ?_)
  · refine E_bipush (pc := 30) (-6) (by decide) dX11_readingTrouble_30 ?_
    exact E_ireturn (pc := 32) rfl rfl dX11_readingTrouble_32 (QI_of h)
  · refine E_iconst (pc := 26) 0 rfl dX11_readingTrouble_26 ?_
    refine E_goto (pc := 27) 32 (by decide) dX11_readingTrouble_27 ?_
    exact E_ireturn (pc := 32) rfl rfl dX11_readingTrouble_32 (QI_of h)
noncomputable def f_X11_thing_50 (x1 : Int32) (sg : ST) : Option (Int32 × ST) :=
    bd2 (f_X10_hasRoomFor x1 sg) fun v6 s5 =>
    if v6 = 0 then
    (bd2 (f_X11_refuse (-7) s5) fun v12 s11 =>
    some (v12, s11))
    else ((pfZ s5 0 11 (nI 1)).bind fun s7 =>
    (pfZ s7 0 12 (nI 1)).bind fun s8 =>
    bd2 (f_X10_addThing x1 190 s8) fun v10 s9 =>
    some (v10, s9))
theorem e_X11_thing_50 {G : GP} {x1 : Int32} {sg : ST} {v : Int32} {s : ST}  (h : f_X11_thing_50 x1 sg = some (v, s)) : E G mX11_thing (7, 156) 50 [.ref 0, .int x1, D0, D0] [] (mem sg) (QI v s) := by
  unfold f_X11_thing_50 at h
  refine E_aload_n (pc := 50) rfl dX11_thing_50 ?_
  refine R_getR (pc := 51) (b := 2) f11_18 dX11_thing_51 (ent_st SW0) (by decide) rfl rfl ?_
  refine E_iload_n (pc := 54) rfl dX11_thing_54 ?_
  obtain ⟨v6, s5, hp, h⟩ := bd2_some h
  refine E_callV (pc := 55) (As := [_]) (fc := (1, 23)) s11_154_10 oX10_hasRoomFor dX11_thing_55 (mem_ob (ent_st WO2.1)) rfl rfl (Nat.le_of_ble_eq_true rfl) rfl rfl (by decide) (e_X10_hasRoomFor hp) (fun rv_ M_ hq_ => ?_)
  obtain ⟨rfl, rfl⟩ := hq_
  refine T_if_ne (pc := 58) 68 dX11_thing_58 (by decide) h (fun h => ?_) (fun h => ?_)
  · refine E_aload_n (pc := 68) rfl dX11_thing_68 ?_
    refine E_iconst (pc := 69) 1 rfl dX11_thing_69 ?_
    refine T_putZ (pc := 70) f11_65 dX11_thing_70 (ent_st SW0) (by decide) rfl (by decide +kernel) h (fun s7 h => ?_)
    refine E_aload_n (pc := 73) rfl dX11_thing_73 ?_
    refine E_iconst (pc := 74) 1 rfl dX11_thing_74 ?_
    refine T_putZ (pc := 75) f11_68 dX11_thing_75 (ent_st SW0) (by decide) rfl (by decide +kernel) h (fun s8 h => ?_)
    refine E_aload_n (pc := 78) rfl dX11_thing_78 ?_
    refine R_getR (pc := 79) (b := 2) f11_18 dX11_thing_79 (ent_st SW0) (by decide) rfl rfl ?_
    refine E_iload_n (pc := 82) rfl dX11_thing_82 ?_
    refine E_aload_n (pc := 83) rfl dX11_thing_83 ?_
    refine R_getR (pc := 84) (b := 188) f11_30 dX11_thing_84 (ent_st SW0) (by decide) rfl rfl ?_
    refine R_getR (pc := 87) (b := 189) f11_157 dX11_thing_87 (ent_st RD188) (by decide) rfl rfl ?_
    refine R_getR (pc := 90) (b := 190) f11_161 dX11_thing_90 (ent_st LA189.1) (by decide) rfl rfl ?_
    obtain ⟨v10, s9, hp, h⟩ := bd2_some h
    refine E_callV (pc := 93) (As := [_, _]) (fc := (2, 81)) s11_167_10 oX10_addThing dX11_thing_93 (mem_ob (ent_st WO2.1)) rfl rfl (Nat.le_of_ble_eq_true rfl) rfl rfl (by decide) (e_X10_addThing LA189.2 hp) (fun rv_ M_ hq_ => ?_)
    obtain ⟨rfl, rfl⟩ := hq_
    exact E_ireturn (pc := 96) rfl rfl dX11_thing_96 (QI_of h)
  · refine E_aload_n (pc := 61) rfl dX11_thing_61 ?_
    refine E_bipush (pc := 62) (-7) (by decide) dX11_thing_62 ?_
    obtain ⟨v12, s11, hp, h⟩ := bd2_some h
    refine E_callV (pc := 64) (As := [_]) (fc := (0, 0)) s11_80_11 oX11_refuse dX11_thing_64 (mem_ob (ent_st SW0)) rfl rfl (Nat.le_of_ble_eq_true rfl) rfl rfl (by decide) (e_X11_refuse hp) (fun rv_ M_ hq_ => ?_)
    obtain ⟨rfl, rfl⟩ := hq_
    exact E_ireturn (pc := 67) rfl rfl dX11_thing_67 (QI_of h)
noncomputable def f_X11_thing_40 (x1 : Int32) (x3 : Int32) (sg : ST) : Option (Int32 × ST) :=
    if x3 = 0 then
    (f_X11_thing_50 x1 sg)
    else (bd2 (f_X11_refuse x3 sg) fun v14 s13 =>
    some (v14, s13))
theorem e_X11_thing_40 {G : GP} {x1 : Int32} {x3 : Int32} {sg : ST} {v : Int32} {s : ST}  (h : f_X11_thing_40 x1 x3 sg = some (v, s)) : E G mX11_thing (7, 156) 40 [.ref 0, .int x1, D0, .int x3] [] (mem sg) (QI v s) := by
  unfold f_X11_thing_40 at h
  refine E_iload_n (pc := 40) rfl dX11_thing_40 ?_
  refine T_if_eq (pc := 41) 50 dX11_thing_41 (by decide) h (fun h => ?_) (fun h => ?_)
  · refine E_kp [true, true, false, false] (L2 := [_, _, D0, D0]) rfl rfl ?_
    refine e_X11_thing_50  h
  · refine E_aload_n (pc := 44) rfl dX11_thing_44 ?_
    refine E_iload_n (pc := 45) rfl dX11_thing_45 ?_
    obtain ⟨v14, s13, hp, h⟩ := bd2_some h
    refine E_callV (pc := 46) (As := [_]) (fc := (0, 0)) s11_80_11 oX11_refuse dX11_thing_46 (mem_ob (ent_st SW0)) rfl rfl (Nat.le_of_ble_eq_true rfl) rfl rfl (by decide) (e_X11_refuse hp) (fun rv_ M_ hq_ => ?_)
    obtain ⟨rfl, rfl⟩ := hq_
    exact E_ireturn (pc := 49) rfl rfl dX11_thing_49 (QI_of h)
noncomputable def f_X11_thing_23 (x1 : Int32) (x2 : Int32) (sg : ST) : Option (Int32 × ST) :=
    bd2 (f_X11_rowTrouble x2 sg) fun v4 s3 =>
    if v4 = 0 then
    (bd2 (f_X11_readingTrouble x2 (nI 0) s3) fun v16 s15 =>
    f_X11_thing_40 x1 v16 s15)
    else (f_X11_thing_40 x1 v4 s3)
theorem e_X11_thing_23 {G : GP} {x1 : Int32} {x2 : Int32} {sg : ST} {v : Int32} {s : ST}  (h : f_X11_thing_23 x1 x2 sg = some (v, s)) : E G mX11_thing (7, 156) 23 [.ref 0, .int x1, .int x2, D0] [] (mem sg) (QI v s) := by
  unfold f_X11_thing_23 at h
  refine E_aload_n (pc := 23) rfl dX11_thing_23 ?_
  refine E_iload_n (pc := 24) rfl dX11_thing_24 ?_
  obtain ⟨v4, s3, hp, h⟩ := bd2_some h
  refine E_callV (pc := 25) (As := [_]) (fc := (1, 20)) s11_88_11 oX11_rowTrouble dX11_thing_25 (mem_ob (ent_st SW0)) rfl rfl (Nat.le_of_ble_eq_true rfl) rfl rfl (by decide) (e_X11_rowTrouble hp) (fun rv_ M_ hq_ => ?_)
  obtain ⟨rfl, rfl⟩ := hq_
  refine E_istore_n (pc := 28) (L2 := [_, _, _, _]) rfl rfl dX11_thing_28 ?_
  refine E_iload_n (pc := 29) rfl dX11_thing_29 ?_
  refine T_if_ne (pc := 30) 40 dX11_thing_30 (by decide) h (fun h => ?_) (fun h => ?_)
  · refine E_kp [true, true, false, true] (L2 := [_, _, D0, _]) rfl rfl ?_
    refine e_X11_thing_40  h
  · refine E_aload_n (pc := 33) rfl dX11_thing_33 ?_
    refine E_iload_n (pc := 34) rfl dX11_thing_34 ?_
    refine E_iconst (pc := 35) 0 rfl dX11_thing_35 ?_
    obtain ⟨v16, s15, hp, h⟩ := bd2_some h
    refine E_callV (pc := 36) (As := [_, _]) (fc := (6, 134)) s11_150_11 oX11_readingTrouble dX11_thing_36 (mem_ob (ent_st SW0)) rfl rfl (Nat.le_of_ble_eq_true rfl) rfl rfl (by decide) (e_X11_readingTrouble hp) (fun rv_ M_ hq_ => ?_)
    obtain ⟨rfl, rfl⟩ := hq_
    refine E_istore_n (pc := 39) (L2 := [_, _, _, _]) rfl rfl dX11_thing_39 ?_
    refine E_kp [true, true, false, true] (L2 := [_, _, D0, _]) rfl rfl ?_
    refine e_X11_thing_40  h
noncomputable def f_X11_thing (x1 : Int32) (x2 : Int32) (σ : ST) : Option (Int32 × ST) :=
    bd2 (f_X11_isKind x1 σ) fun v2 s1 =>
    if v2 = 0 then
    (bd2 (f_X11_refuse (-1) s1) fun v18 s17 =>
    some (v18, s17))
    else (if x1 = (nI 2) then
    (f_X11_thing_23 x1 x2 s1)
    else (if x1 = (nI 3) then
    (f_X11_thing_23 x1 x2 s1)
    else (f_X11_thing_50 x1 s1)))
theorem e_X11_thing {G : GP} {x1 : Int32} {x2 : Int32} {σ : ST} {v : Int32} {s : ST}  (h : f_X11_thing x1 x2 σ = some (v, s)) : E G mX11_thing (7, 156) 0 [.ref 0, .int x1, .int x2, D0] [] (mem σ) (QI v s) := by
  unfold f_X11_thing at h
  refine E_iload_n (pc := 0) rfl dX11_thing_0 ?_
  obtain ⟨v2, s1, hp, h⟩ := bd2_some h
  refine E_callS (pc := 1) (As := [_]) (fc := (0, 0)) s11_134 oX11_isKind dX11_thing_1 rfl rfl (Nat.le_of_ble_eq_true rfl) rfl rfl (by decide) (e_X11_isKind hp) (fun rv_ M_ hq_ => ?_)
  obtain ⟨rfl, rfl⟩ := hq_
  refine T_if_ne (pc := 4) 13 dX11_thing_4 (by decide) h (fun h => ?_) (fun h => ?_)
  · refine E_iload_n (pc := 13) rfl dX11_thing_13 ?_
    refine E_iconst (pc := 14) 2 rfl dX11_thing_14 ?_
    refine T_icmp_eq (pc := 15) 23 dX11_thing_15 (by decide) h (fun h => ?_) (fun h => ?_)
    · refine e_X11_thing_23  h
    · refine E_iload_n (pc := 18) rfl dX11_thing_18 ?_
      refine E_iconst (pc := 19) 3 rfl dX11_thing_19 ?_
      refine T_icmp_ne (pc := 20) 50 dX11_thing_20 (by decide) h (fun h => ?_) (fun h => ?_)
      · refine E_kp [true, true, false, false] (L2 := [_, _, D0, D0]) rfl rfl ?_
        refine e_X11_thing_50  h
      · refine e_X11_thing_23  h
  · refine E_aload_n (pc := 7) rfl dX11_thing_7 ?_
    refine E_im1 (pc := 8) dX11_thing_8 ?_
    obtain ⟨v18, s17, hp, h⟩ := bd2_some h
    refine E_callV (pc := 9) (As := [_]) (fc := (0, 0)) s11_80_11 oX11_refuse dX11_thing_9 (mem_ob (ent_st SW0)) rfl rfl (Nat.le_of_ble_eq_true rfl) rfl rfl (by decide) (e_X11_refuse hp) (fun rv_ M_ hq_ => ?_)
    obtain ⟨rfl, rfl⟩ := hq_
    exact E_ireturn (pc := 12) rfl rfl dX11_thing_12 (QI_of h)
noncomputable def f_X11_isNumber (x0 : Int32) (σ : ST) : Option (Int32 × ST) :=
    if x0 < 0 then
    (some ((nI 0), σ))
    else (if (nI 99) < x0 then
    (some ((nI 0), σ))
    else (some ((nI 1), σ)))
theorem e_X11_isNumber {G : GP} {x0 : Int32} {σ : ST} {v : Int32} {s : ST}  (h : f_X11_isNumber x0 σ = some (v, s)) : E G mX11_isNumber (0, 0) 0 [.int x0] [] (mem σ) (QI v s) := by
  unfold f_X11_isNumber at h
  refine E_iload_n (pc := 0) rfl dX11_isNumber_0 ?_
  refine T_if_lt (pc := 1) 14 dX11_isNumber_1 (by decide) h (fun h => ?_) (fun h => ?_)
  · refine E_iconst (pc := 14) 0 rfl dX11_isNumber_14 ?_
    exact E_ireturn (pc := 15) rfl (by decide) dX11_isNumber_15 (QI_of h)
  · refine E_iload_n (pc := 4) rfl dX11_isNumber_4 ?_
    refine E_bipush (pc := 5) (nI 99) (by decide) dX11_isNumber_5 ?_
    refine T_icmp_gt (pc := 7) 14 dX11_isNumber_7 (by decide) h (fun h => ?_) (fun h => ?_)
    · refine E_iconst (pc := 14) 0 rfl dX11_isNumber_14 ?_
      exact E_ireturn (pc := 15) rfl (by decide) dX11_isNumber_15 (QI_of h)
    · refine E_iconst (pc := 10) 1 rfl dX11_isNumber_10 ?_
      refine E_goto (pc := 11) 15 (by decide) dX11_isNumber_11 ?_
      exact E_ireturn (pc := 15) rfl (by decide) dX11_isNumber_15 (QI_of h)
noncomputable def f_X11_happening_32 (x2 : Int32) (x3 : Int32) (x4 : Int32) (sg : ST) : Option (Int32 × ST) :=
    if x4 = 0 then
    (if (sg.1 2 1) < (nI 6) then
    ((pfZ sg 0 11 (nI 1)).bind fun s3 =>
    (pfZ s3 0 12 (nI 1)).bind fun s4 =>
    bd2 (f_X10_addHappening 189 x2 x3 s4) fun v6 s5 =>
    some (v6, s5))
    else (bd2 (f_X11_refuse (-7) sg) fun v8 s7 =>
    some (v8, s7)))
    else (bd2 (f_X11_refuse x4 sg) fun v10 s9 =>
    some (v10, s9))
theorem e_X11_happening_32 {G : GP} {x2 : Int32} {x3 : Int32} {x4 : Int32} {sg : ST} {v : Int32} {s : ST}  (h : f_X11_happening_32 x2 x3 x4 sg = some (v, s)) : E G mX11_happening (7, 156) 32 [.ref 0, D0, .int x2, .int x3, .int x4] [] (mem sg) (QI v s) := by
  unfold f_X11_happening_32 at h
  refine E_iload (pc := 32) rfl dX11_happening_32 ?_
  refine T_if_eq (pc := 34) 44 dX11_happening_34 (by decide) h (fun h => ?_) (fun h => ?_)
  · refine E_aload_n (pc := 44) rfl dX11_happening_44 ?_
    refine R_getR (pc := 45) (b := 2) f11_18 dX11_happening_45 (ent_st SW0) (by decide) rfl rfl ?_
    refine R_getI (pc := 48) f11_174 dX11_happening_48 (ent_st WO2.1) (by decide) rfl ?_
    refine E_bipush (pc := 51) (nI 6) (by decide) dX11_happening_51 ?_
    refine T_icmp_lt (pc := 53) 63 dX11_happening_53 (by decide) h (fun h => ?_) (fun h => ?_)
    · refine E_aload_n (pc := 63) rfl dX11_happening_63 ?_
      refine E_iconst (pc := 64) 1 rfl dX11_happening_64 ?_
      refine T_putZ (pc := 65) f11_65 dX11_happening_65 (ent_st SW0) (by decide) rfl (by decide +kernel) h (fun s3 h => ?_)
      refine E_aload_n (pc := 68) rfl dX11_happening_68 ?_
      refine E_iconst (pc := 69) 1 rfl dX11_happening_69 ?_
      refine T_putZ (pc := 70) f11_68 dX11_happening_70 (ent_st SW0) (by decide) rfl (by decide +kernel) h (fun s4 h => ?_)
      refine E_aload_n (pc := 73) rfl dX11_happening_73 ?_
      refine R_getR (pc := 74) (b := 2) f11_18 dX11_happening_74 (ent_st SW0) (by decide) rfl rfl ?_
      refine E_aload_n (pc := 77) rfl dX11_happening_77 ?_
      refine R_getR (pc := 78) (b := 188) f11_30 dX11_happening_78 (ent_st SW0) (by decide) rfl rfl ?_
      refine R_getR (pc := 81) (b := 189) f11_157 dX11_happening_81 (ent_st RD188) (by decide) rfl rfl ?_
      refine E_iload_n (pc := 84) rfl dX11_happening_84 ?_
      refine E_iload_n (pc := 85) rfl dX11_happening_85 ?_
      obtain ⟨v6, s5, hp, h⟩ := bd2_some h
      refine E_callV (pc := 86) (As := [_, _, _]) (fc := (3, 102)) s11_177_10 oX10_addHappening dX11_happening_86 (mem_ob (ent_st WO2.1)) rfl rfl (Nat.le_of_ble_eq_true rfl) rfl rfl (by decide) (e_X10_addHappening LA189 hp) (fun rv_ M_ hq_ => ?_)
      obtain ⟨rfl, rfl⟩ := hq_
      exact E_ireturn (pc := 89) rfl rfl dX11_happening_89 (QI_of h)
    · refine E_aload_n (pc := 56) rfl dX11_happening_56 ?_
      refine E_bipush (pc := 57) (-7) (by decide) dX11_happening_57 ?_
      obtain ⟨v8, s7, hp, h⟩ := bd2_some h
      refine E_callV (pc := 59) (As := [_]) (fc := (0, 0)) s11_80_11 oX11_refuse dX11_happening_59 (mem_ob (ent_st SW0)) rfl rfl (Nat.le_of_ble_eq_true rfl) rfl rfl (by decide) (e_X11_refuse hp) (fun rv_ M_ hq_ => ?_)
      obtain ⟨rfl, rfl⟩ := hq_
      exact E_ireturn (pc := 62) rfl rfl dX11_happening_62 (QI_of h)
  · refine E_aload_n (pc := 37) rfl dX11_happening_37 ?_
    refine E_iload (pc := 38) rfl dX11_happening_38 ?_
    obtain ⟨v10, s9, hp, h⟩ := bd2_some h
    refine E_callV (pc := 40) (As := [_]) (fc := (0, 0)) s11_80_11 oX11_refuse dX11_happening_40 (mem_ob (ent_st SW0)) rfl rfl (Nat.le_of_ble_eq_true rfl) rfl rfl (by decide) (e_X11_refuse hp) (fun rv_ M_ hq_ => ?_)
    obtain ⟨rfl, rfl⟩ := hq_
    exact E_ireturn (pc := 43) rfl rfl dX11_happening_43 (QI_of h)
noncomputable def f_X11_happening_30 (x2 : Int32) (x3 : Int32) (z0 : Int32) (sg : ST) : Option (Int32 × ST) :=
    f_X11_happening_32 x2 x3 z0 sg
theorem e_X11_happening_30 {G : GP} {x2 : Int32} {x3 : Int32} {z0 : Int32} {sg : ST} {v : Int32} {s : ST}  (h : f_X11_happening_30 x2 x3 z0 sg = some (v, s)) : E G mX11_happening (7, 156) 30 [.ref 0, D0, .int x2, .int x3, D0] [.int z0] (mem sg) (QI v s) := by
  unfold f_X11_happening_30 at h
  refine E_istore (pc := 30) (L2 := [_, _, _, _, _]) rfl rfl dX11_happening_30 ?_
  refine e_X11_happening_32  h
noncomputable def f_X11_happening (x1 : Int32) (x2 : Int32) (x3 : Int32) (σ : ST) : Option (Int32 × ST) :=
    bd2 (f_X11_rowTrouble x1 σ) fun v2 s1 =>
    if v2 = 0 then
    (bd2 (f_X11_isNumber x2 s1) fun v12 s11 =>
    if v12 = 0 then
    (f_X11_happening_30 x2 x3 (-6) s11)
    else (bd2 (f_X11_readingTrouble x1 (nI 1) s11) fun v14 s13 =>
    f_X11_happening_30 x2 x3 v14 s13))
    else (f_X11_happening_32 x2 x3 v2 s1)
theorem e_X11_happening {G : GP} {x1 : Int32} {x2 : Int32} {x3 : Int32} {σ : ST} {v : Int32} {s : ST}  (h : f_X11_happening x1 x2 x3 σ = some (v, s)) : E G mX11_happening (7, 156) 0 [.ref 0, .int x1, .int x2, .int x3, D0] [] (mem σ) (QI v s) := by
  unfold f_X11_happening at h
  refine E_aload_n (pc := 0) rfl dX11_happening_0 ?_
  refine E_iload_n (pc := 1) rfl dX11_happening_1 ?_
  obtain ⟨v2, s1, hp, h⟩ := bd2_some h
  refine E_callV (pc := 2) (As := [_]) (fc := (1, 20)) s11_88_11 oX11_rowTrouble dX11_happening_2 (mem_ob (ent_st SW0)) rfl rfl (Nat.le_of_ble_eq_true rfl) rfl rfl (by decide) (e_X11_rowTrouble hp) (fun rv_ M_ hq_ => ?_)
  obtain ⟨rfl, rfl⟩ := hq_
  refine E_istore (pc := 5) (L2 := [_, _, _, _, _]) rfl rfl dX11_happening_5 ?_
  refine E_iload (pc := 7) rfl dX11_happening_7 ?_
  refine T_if_ne (pc := 9) 32 dX11_happening_9 (by decide) h (fun h => ?_) (fun h => ?_)
  · refine E_kp [true, false, true, true, true] (L2 := [_, D0, _, _, _]) rfl rfl ?_
    refine e_X11_happening_32  h
  · refine E_iload_n (pc := 12) rfl dX11_happening_12 ?_
    obtain ⟨v12, s11, hp, h⟩ := bd2_some h
    refine E_callS (pc := 13) (As := [_]) (fc := (0, 0)) s11_171 oX11_isNumber dX11_happening_13 rfl rfl (Nat.le_of_ble_eq_true rfl) rfl rfl (by decide) (e_X11_isNumber hp) (fun rv_ M_ hq_ => ?_)
    obtain ⟨rfl, rfl⟩ := hq_
    refine T_if_eq (pc := 16) 28 dX11_happening_16 (by decide) h (fun h => ?_) (fun h => ?_)
    · refine E_bipush (pc := 28) (-6) (by decide) dX11_happening_28 ?_
      refine E_kp [true, false, true, true, false] (L2 := [_, D0, _, _, D0]) rfl rfl ?_
      refine e_X11_happening_30  h
    · refine E_aload_n (pc := 19) rfl dX11_happening_19 ?_
      refine E_iload_n (pc := 20) rfl dX11_happening_20 ?_
      refine E_iconst (pc := 21) 1 rfl dX11_happening_21 ?_
      obtain ⟨v14, s13, hp, h⟩ := bd2_some h
      refine E_callV (pc := 22) (As := [_, _]) (fc := (6, 134)) s11_150_11 oX11_readingTrouble dX11_happening_22 (mem_ob (ent_st SW0)) rfl rfl (Nat.le_of_ble_eq_true rfl) rfl rfl (by decide) (e_X11_readingTrouble hp) (fun rv_ M_ hq_ => ?_)
      obtain ⟨rfl, rfl⟩ := hq_
      refine E_goto (pc := 25) 30 (by decide) dX11_happening_25 ?_
      refine E_kp [true, false, true, true, false] (L2 := [_, D0, _, _, D0]) rfl rfl ?_
      refine e_X11_happening_30  h
noncomputable def f_X11_fault (σ : ST) : Option (Int32 × ST) :=
    some ((σ.1 0 13), σ)
theorem e_X11_fault {G : GP} {σ : ST} {v : Int32} {s : ST}  (h : f_X11_fault σ = some (v, s)) : E G mX11_fault (0, 0) 0 [.ref 0] [] (mem σ) (QI v s) := by
  unfold f_X11_fault at h
  refine E_aload_n (pc := 0) rfl dX11_fault_0 ?_
  refine R_getI (pc := 1) f11_71 dX11_fault_1 (ent_st SW0) (by decide) rfl ?_
  exact E_ireturn (pc := 4) rfl rfl dX11_fault_4 (QI_of h)
noncomputable def f_X11_isHappening (x1 : Int32) (σ : ST) : Option (Int32 × ST) :=
    if x1 < 0 then
    (some ((nI 0), σ))
    else (if x1 < (σ.1 2 1) then
    (some ((nI 1), σ))
    else (some ((nI 0), σ)))
theorem e_X11_isHappening {G : GP} {x1 : Int32} {σ : ST} {v : Int32} {s : ST}  (h : f_X11_isHappening x1 σ = some (v, s)) : E G mX11_isHappening (0, 0) 0 [.ref 0, .int x1] [] (mem σ) (QI v s) := by
  unfold f_X11_isHappening at h
  refine E_iload_n (pc := 0) rfl dX11_isHappening_0 ?_
  refine T_if_lt (pc := 1) 19 dX11_isHappening_1 (by decide) h (fun h => ?_) (fun h => ?_)
  · refine E_iconst (pc := 19) 0 rfl dX11_isHappening_19 ?_
    exact E_ireturn (pc := 20) rfl (by decide) dX11_isHappening_20 (QI_of h)
  · refine E_iload_n (pc := 4) rfl dX11_isHappening_4 ?_
    refine E_aload_n (pc := 5) rfl dX11_isHappening_5 ?_
    refine R_getR (pc := 6) (b := 2) f11_18 dX11_isHappening_6 (ent_st SW0) (by decide) rfl rfl ?_
    refine R_getI (pc := 9) f11_174 dX11_isHappening_9 (ent_st WO2.1) (by decide) rfl ?_
    refine T_icmp_ge (pc := 12) 19 dX11_isHappening_12 (by decide) h (fun h => ?_) (fun h => ?_)
    · refine E_iconst (pc := 19) 0 rfl dX11_isHappening_19 ?_
      exact E_ireturn (pc := 20) rfl (by decide) dX11_isHappening_20 (QI_of h)
    · refine E_iconst (pc := 15) 1 rfl dX11_isHappening_15 ?_
      refine E_goto (pc := 16) 20 (by decide) dX11_isHappening_16 ?_
      exact E_ireturn (pc := 20) rfl (by decide) dX11_isHappening_20 (QI_of h)
noncomputable def f_X11_price (x1 : Int32) (x2 : Int32) (σ : ST) : Option (Int32 × ST) :=
    bd2 (f_X11_isHappening x1 σ) fun v2 s1 =>
    if v2 = 0 then
    (bd2 (f_X11_refuse (-1) s1) fun v12 s11 =>
    some (v12, s11))
    else (bd2 (f_X11_isNumber x2 s1) fun v4 s3 =>
    if v4 = 0 then
    (bd2 (f_X11_refuse (-6) s3) fun v10 s9 =>
    some (v10, s9))
    else ((ixR 6 x1).bind fun j5 =>
    (ixR 6 x1).bind fun j6 =>
    (pfI s3 (2 + 57 + 6 * j6) 4 x2).bind fun s7 =>
    (pfZ s7 0 12 (nI 1)).bind fun s8 =>
    some ((s3.1 (2 + 57 + 6 * j5) 4), s8)))
theorem e_X11_price {G : GP} {x1 : Int32} {x2 : Int32} {σ : ST} {v : Int32} {s : ST}  (h : f_X11_price x1 x2 σ = some (v, s)) : E G mX11_price (1, 22) 0 [.ref 0, .int x1, .int x2, D0] [] (mem σ) (QI v s) := by
  unfold f_X11_price at h
  refine E_aload_n (pc := 0) rfl dX11_price_0 ?_
  refine E_iload_n (pc := 1) rfl dX11_price_1 ?_
  obtain ⟨v2, s1, hp, h⟩ := bd2_some h
  refine E_callV (pc := 2) (As := [_]) (fc := (0, 0)) s11_181_11 oX11_isHappening dX11_price_2 (mem_ob (ent_st SW0)) rfl rfl (Nat.le_of_ble_eq_true rfl) rfl rfl (by decide) (e_X11_isHappening hp) (fun rv_ M_ hq_ => ?_)
  obtain ⟨rfl, rfl⟩ := hq_
  refine T_if_ne (pc := 5) 14 dX11_price_5 (by decide) h (fun h => ?_) (fun h => ?_)
  · refine E_iload_n (pc := 14) rfl dX11_price_14 ?_
    obtain ⟨v4, s3, hp, h⟩ := bd2_some h
    refine E_callS (pc := 15) (As := [_]) (fc := (0, 0)) s11_171 oX11_isNumber dX11_price_15 rfl rfl (Nat.le_of_ble_eq_true rfl) rfl rfl (by decide) (e_X11_isNumber hp) (fun rv_ M_ hq_ => ?_)
    obtain ⟨rfl, rfl⟩ := hq_
    refine T_if_ne (pc := 18) 28 dX11_price_18 (by decide) h (fun h => ?_) (fun h => ?_)
    · refine E_aload_n (pc := 28) rfl dX11_price_28 ?_
      refine R_getR (pc := 29) (b := 2) f11_18 dX11_price_29 (ent_st SW0) (by decide) rfl rfl ?_
      refine R_getR (pc := 32) (b := 6) f11_184 dX11_price_32 (ent_st WO2.1) (by decide) rfl rfl ?_
      refine E_iload_n (pc := 35) rfl dX11_price_35 ?_
      refine T_rald (pc := 36) (b := fun i => 2 + 57 + 6 * i) dX11_price_36 (ent_st WO2.2.2.2.2.1) (by decide) (by decide) h (fun j5 hj5 h => ?_)
      refine R_getI (pc := 37) f11_188 dX11_price_37 (ent_st (LA_w 2 (Or.inl rfl) j5 hj5).1) (by decide) rfl ?_
      refine E_istore_n (pc := 40) (L2 := [_, _, _, _]) rfl rfl dX11_price_40 ?_
      refine E_aload_n (pc := 41) rfl dX11_price_41 ?_
      refine R_getR (pc := 42) (b := 2) f11_18 dX11_price_42 (ent_st SW0) (by decide) rfl rfl ?_
      refine R_getR (pc := 45) (b := 6) f11_184 dX11_price_45 (ent_st WO2.1) (by decide) rfl rfl ?_
      refine E_iload_n (pc := 48) rfl dX11_price_48 ?_
      refine T_rald (pc := 49) (b := fun i => 2 + 57 + 6 * i) dX11_price_49 (ent_st WO2.2.2.2.2.1) (by decide) (by decide) h (fun j6 hj6 h => ?_)
      refine E_iload_n (pc := 50) rfl dX11_price_50 ?_
      refine T_putI (pc := 51) f11_188 dX11_price_51 (ent_st (LA_w 2 (Or.inl rfl) j6 hj6).1) (by decide) rfl (by decide +kernel) h (fun s7 h => ?_)
      refine E_aload_n (pc := 54) rfl dX11_price_54 ?_
      refine E_iconst (pc := 55) 1 rfl dX11_price_55 ?_
      refine T_putZ (pc := 56) f11_68 dX11_price_56 (ent_st SW0) (by decide) rfl (by decide +kernel) h (fun s8 h => ?_)
      refine E_iload_n (pc := 59) rfl dX11_price_59 ?_
      exact E_ireturn (pc := 60) rfl rfl dX11_price_60 (QI_of h)
    · refine E_aload_n (pc := 21) rfl dX11_price_21 ?_
      refine E_bipush (pc := 22) (-6) (by decide) dX11_price_22 ?_
      obtain ⟨v10, s9, hp, h⟩ := bd2_some h
      refine E_callV (pc := 24) (As := [_]) (fc := (0, 0)) s11_80_11 oX11_refuse dX11_price_24 (mem_ob (ent_st SW0)) rfl rfl (Nat.le_of_ble_eq_true rfl) rfl rfl (by decide) (e_X11_refuse hp) (fun rv_ M_ hq_ => ?_)
      obtain ⟨rfl, rfl⟩ := hq_
      exact E_ireturn (pc := 27) rfl rfl dX11_price_27 (QI_of h)
  · refine E_aload_n (pc := 8) rfl dX11_price_8 ?_
    refine E_im1 (pc := 9) dX11_price_9 ?_
    obtain ⟨v12, s11, hp, h⟩ := bd2_some h
    refine E_callV (pc := 10) (As := [_]) (fc := (0, 0)) s11_80_11 oX11_refuse dX11_price_10 (mem_ob (ent_st SW0)) rfl rfl (Nat.le_of_ble_eq_true rfl) rfl rfl (by decide) (e_X11_refuse hp) (fun rv_ M_ hq_ => ?_)
    obtain ⟨rfl, rfl⟩ := hq_
    exact E_ireturn (pc := 13) rfl rfl dX11_price_13 (QI_of h)
noncomputable def f_X11_isMouth (x0 : Int32) (σ : ST) : Option (Int32 × ST) :=
    if x0 < 0 then
    (some ((nI 0), σ))
    else (if x0 < (nI 6) then
    (some ((nI 1), σ))
    else (some ((nI 0), σ)))
theorem e_X11_isMouth {G : GP} {x0 : Int32} {σ : ST} {v : Int32} {s : ST}  (h : f_X11_isMouth x0 σ = some (v, s)) : E G mX11_isMouth (0, 0) 0 [.int x0] [] (mem σ) (QI v s) := by
  unfold f_X11_isMouth at h
  refine E_iload_n (pc := 0) rfl dX11_isMouth_0 ?_
  refine T_if_lt (pc := 1) 14 dX11_isMouth_1 (by decide) h (fun h => ?_) (fun h => ?_)
  · refine E_iconst (pc := 14) 0 rfl dX11_isMouth_14 ?_
    exact E_ireturn (pc := 15) rfl (by decide) dX11_isMouth_15 (QI_of h)
  · refine E_iload_n (pc := 4) rfl dX11_isMouth_4 ?_
    refine E_bipush (pc := 5) (nI 6) (by decide) dX11_isMouth_5 ?_
    refine T_icmp_ge (pc := 7) 14 dX11_isMouth_7 (by decide) h (fun h => ?_) (fun h => ?_)
    · refine E_iconst (pc := 14) 0 rfl dX11_isMouth_14 ?_
      exact E_ireturn (pc := 15) rfl (by decide) dX11_isMouth_15 (QI_of h)
    · refine E_iconst (pc := 10) 1 rfl dX11_isMouth_10 ?_
      refine E_goto (pc := 11) 15 (by decide) dX11_isMouth_11 ?_
      exact E_ireturn (pc := 15) rfl (by decide) dX11_isMouth_15 (QI_of h)
noncomputable def f_X11_weigh (x1 : Int32) (x2 : Int32) (σ : ST) : Option (Int32 × ST) :=
    bd2 (f_X11_isMouth x1 σ) fun v2 s1 =>
    if v2 = 0 then
    (bd2 (f_X11_refuse (-1) s1) fun v10 s9 =>
    some (v10, s9))
    else (bd2 (f_X11_isNumber x2 s1) fun v4 s3 =>
    if v4 = 0 then
    (bd2 (f_X11_refuse (-6) s3) fun v8 s7 =>
    some (v8, s7))
    else ((rdI s3 8 6 x1).bind fun v5 =>
    (wrI s3 8 6 x1 x2).bind fun s6 =>
    some (v5, s6)))
theorem e_X11_weigh {G : GP} {x1 : Int32} {x2 : Int32} {σ : ST} {v : Int32} {s : ST}  (h : f_X11_weigh x1 x2 σ = some (v, s)) : E G mX11_weigh (1, 22) 0 [.ref 0, .int x1, .int x2, D0] [] (mem σ) (QI v s) := by
  unfold f_X11_weigh at h
  refine E_iload_n (pc := 0) rfl dX11_weigh_0 ?_
  obtain ⟨v2, s1, hp, h⟩ := bd2_some h
  refine E_callS (pc := 1) (As := [_]) (fc := (0, 0)) s11_191 oX11_isMouth dX11_weigh_1 rfl rfl (Nat.le_of_ble_eq_true rfl) rfl rfl (by decide) (e_X11_isMouth hp) (fun rv_ M_ hq_ => ?_)
  obtain ⟨rfl, rfl⟩ := hq_
  refine T_if_ne (pc := 4) 13 dX11_weigh_4 (by decide) h (fun h => ?_) (fun h => ?_)
  · refine E_iload_n (pc := 13) rfl dX11_weigh_13 ?_
    obtain ⟨v4, s3, hp, h⟩ := bd2_some h
    refine E_callS (pc := 14) (As := [_]) (fc := (0, 0)) s11_171 oX11_isNumber dX11_weigh_14 rfl rfl (Nat.le_of_ble_eq_true rfl) rfl rfl (by decide) (e_X11_isNumber hp) (fun rv_ M_ hq_ => ?_)
    obtain ⟨rfl, rfl⟩ := hq_
    refine T_if_ne (pc := 17) 27 dX11_weigh_17 (by decide) h (fun h => ?_) (fun h => ?_)
    · refine E_aload_n (pc := 27) rfl dX11_weigh_27 ?_
      refine R_getR (pc := 28) (b := 2) f11_18 dX11_weigh_28 (ent_st SW0) (by decide) rfl rfl ?_
      refine R_getR (pc := 31) (b := 8) f11_194 dX11_weigh_31 (ent_st WO2.1) (by decide) rfl rfl ?_
      refine E_iload_n (pc := 34) rfl dX11_weigh_34 ?_
      refine T_iald (pc := 35) dX11_weigh_35 (ent_st WO2.2.2.2.2.2.2) (by decide) h (fun v5 h => ?_)
      refine E_istore_n (pc := 36) (L2 := [_, _, _, _]) rfl rfl dX11_weigh_36 ?_
      refine E_aload_n (pc := 37) rfl dX11_weigh_37 ?_
      refine R_getR (pc := 38) (b := 2) f11_18 dX11_weigh_38 (ent_st SW0) (by decide) rfl rfl ?_
      refine R_getR (pc := 41) (b := 8) f11_194 dX11_weigh_41 (ent_st WO2.1) (by decide) rfl rfl ?_
      refine E_iload_n (pc := 44) rfl dX11_weigh_44 ?_
      refine E_iload_n (pc := 45) rfl dX11_weigh_45 ?_
      refine T_iast (pc := 46) dX11_weigh_46 (ent_st WO2.2.2.2.2.2.2) (by decide) h (fun s6 h => ?_)
      refine E_iload_n (pc := 47) rfl dX11_weigh_47 ?_
      exact E_ireturn (pc := 48) rfl rfl dX11_weigh_48 (QI_of h)
    · refine E_aload_n (pc := 20) rfl dX11_weigh_20 ?_
      refine E_bipush (pc := 21) (-6) (by decide) dX11_weigh_21 ?_
      obtain ⟨v8, s7, hp, h⟩ := bd2_some h
      refine E_callV (pc := 23) (As := [_]) (fc := (0, 0)) s11_80_11 oX11_refuse dX11_weigh_23 (mem_ob (ent_st SW0)) rfl rfl (Nat.le_of_ble_eq_true rfl) rfl rfl (by decide) (e_X11_refuse hp) (fun rv_ M_ hq_ => ?_)
      obtain ⟨rfl, rfl⟩ := hq_
      exact E_ireturn (pc := 26) rfl rfl dX11_weigh_26 (QI_of h)
  · refine E_aload_n (pc := 7) rfl dX11_weigh_7 ?_
    refine E_im1 (pc := 8) dX11_weigh_8 ?_
    obtain ⟨v10, s9, hp, h⟩ := bd2_some h
    refine E_callV (pc := 9) (As := [_]) (fc := (0, 0)) s11_80_11 oX11_refuse dX11_weigh_9 (mem_ob (ent_st SW0)) rfl rfl (Nat.le_of_ble_eq_true rfl) rfl rfl (by decide) (e_X11_refuse hp) (fun rv_ M_ hq_ => ?_)
    obtain ⟨rfl, rfl⟩ := hq_
    exact E_ireturn (pc := 12) rfl rfl dX11_weigh_12 (QI_of h)
noncomputable def f_X11_isHour (x0 : Int32) (σ : ST) : Option (Int32 × ST) :=
    if x0 < 0 then
    (some ((nI 0), σ))
    else (if x0 < (nI 12) then
    (some ((nI 1), σ))
    else (some ((nI 0), σ)))
theorem e_X11_isHour {G : GP} {x0 : Int32} {σ : ST} {v : Int32} {s : ST}  (h : f_X11_isHour x0 σ = some (v, s)) : E G mX11_isHour (0, 0) 0 [.int x0] [] (mem σ) (QI v s) := by
  unfold f_X11_isHour at h
  refine E_iload_n (pc := 0) rfl dX11_isHour_0 ?_
  refine T_if_lt (pc := 1) 14 dX11_isHour_1 (by decide) h (fun h => ?_) (fun h => ?_)
  · refine E_iconst (pc := 14) 0 rfl dX11_isHour_14 ?_
    exact E_ireturn (pc := 15) rfl (by decide) dX11_isHour_15 (QI_of h)
  · refine E_iload_n (pc := 4) rfl dX11_isHour_4 ?_
    refine E_bipush (pc := 5) (nI 12) (by decide) dX11_isHour_5 ?_
    refine T_icmp_ge (pc := 7) 14 dX11_isHour_7 (by decide) h (fun h => ?_) (fun h => ?_)
    · refine E_iconst (pc := 14) 0 rfl dX11_isHour_14 ?_
      exact E_ireturn (pc := 15) rfl (by decide) dX11_isHour_15 (QI_of h)
    · refine E_iconst (pc := 10) 1 rfl dX11_isHour_10 ?_
      refine E_goto (pc := 11) 15 (by decide) dX11_isHour_11 ?_
      exact E_ireturn (pc := 15) rfl (by decide) dX11_isHour_15 (QI_of h)
noncomputable def f_X11_tell (x1 : Int32) (x2 : Int32) (x3 : Int32) (x4 : Int32) (x5 : Int32) (x6 : Int32) (σ : ST) : Option (Int32 × ST) :=
    bd2 (f_X10_hasRoomForPiece x1 σ) fun v2 s1 =>
    if v2 = 0 then
    (bd2 (f_X11_refuse (-7) s1) fun v7 s6 =>
    some (v7, s6))
    else ((pfZ s1 0 12 (nI 1)).bind fun s3 =>
    bd2 (f_X10_addPiece x1 x2 x3 x4 x5 x6 s3) fun v5 s4 =>
    some (v5, s4))
theorem e_X11_tell {G : GP} {x1 : Int32} {x2 : Int32} {x3 : Int32} {x4 : Int32} {x5 : Int32} {x6 : Int32} {σ : ST} {v : Int32} {s : ST}  (h : f_X11_tell x1 x2 x3 x4 x5 x6 σ = some (v, s)) : E G mX11_tell (5, 125) 0 [.ref 0, .int x1, .int x2, .int x3, .int x4, .int x5, .int x6] [] (mem σ) (QI v s) := by
  unfold f_X11_tell at h
  refine E_aload_n (pc := 0) rfl dX11_tell_0 ?_
  refine R_getR (pc := 1) (b := 2) f11_18 dX11_tell_1 (ent_st SW0) (by decide) rfl rfl ?_
  refine E_iload_n (pc := 4) rfl dX11_tell_4 ?_
  obtain ⟨v2, s1, hp, h⟩ := bd2_some h
  refine E_callV (pc := 5) (As := [_]) (fc := (0, 0)) s11_324_10 oX10_hasRoomForPiece dX11_tell_5 (mem_ob (ent_st WO2.1)) rfl rfl (Nat.le_of_ble_eq_true rfl) rfl rfl (by decide) (e_X10_hasRoomForPiece hp) (fun rv_ M_ hq_ => ?_)
  obtain ⟨rfl, rfl⟩ := hq_
  refine T_if_ne (pc := 8) 18 dX11_tell_8 (by decide) h (fun h => ?_) (fun h => ?_)
  · refine E_aload_n (pc := 18) rfl dX11_tell_18 ?_
    refine E_iconst (pc := 19) 1 rfl dX11_tell_19 ?_
    refine T_putZ (pc := 20) f11_68 dX11_tell_20 (ent_st SW0) (by decide) rfl (by decide +kernel) h (fun s3 h => ?_)
    refine E_aload_n (pc := 23) rfl dX11_tell_23 ?_
    refine R_getR (pc := 24) (b := 2) f11_18 dX11_tell_24 (ent_st SW0) (by decide) rfl rfl ?_
    refine E_iload_n (pc := 27) rfl dX11_tell_27 ?_
    refine E_iload_n (pc := 28) rfl dX11_tell_28 ?_
    refine E_iload_n (pc := 29) rfl dX11_tell_29 ?_
    refine E_iload (pc := 30) rfl dX11_tell_30 ?_
    refine E_iload (pc := 32) rfl dX11_tell_32 ?_
    refine E_iload (pc := 34) rfl dX11_tell_34 ?_
    obtain ⟨v5, s4, hp, h⟩ := bd2_some h
    refine E_callV (pc := 36) (As := [_, _, _, _, _, _]) (fc := (4, 98)) s11_327_10 oX10_addPiece dX11_tell_36 (mem_ob (ent_st WO2.1)) rfl rfl (Nat.le_of_ble_eq_true rfl) rfl rfl (by decide) (e_X10_addPiece hp) (fun rv_ M_ hq_ => ?_)
    obtain ⟨rfl, rfl⟩ := hq_
    exact E_ireturn (pc := 39) rfl rfl dX11_tell_39 (QI_of h)
  · refine E_aload_n (pc := 11) rfl dX11_tell_11 ?_
    refine E_bipush (pc := 12) (-7) (by decide) dX11_tell_12 ?_
    obtain ⟨v7, s6, hp, h⟩ := bd2_some h
    refine E_callV (pc := 14) (As := [_]) (fc := (0, 0)) s11_80_11 oX11_refuse dX11_tell_14 (mem_ob (ent_st SW0)) rfl rfl (Nat.le_of_ble_eq_true rfl) rfl rfl (by decide) (e_X11_refuse hp) (fun rv_ M_ hq_ => ?_)
    obtain ⟨rfl, rfl⟩ := hq_
    exact E_ireturn (pc := 17) rfl rfl dX11_tell_17 (QI_of h)
noncomputable def f_X11_seen (x1 : Int32) (x2 : Int32) (x3 : Int32) (σ : ST) : Option (Int32 × ST) :=
    bd2 (f_X11_isHappening x1 σ) fun v2 s1 =>
    if v2 = 0 then
    (bd2 (f_X11_refuse (-1) s1) fun v4 s3 =>
    some (v4, s3))
    else (bd2 (f_X11_isMouth x3 s1) fun v6 s5 =>
    if v6 = 0 then
    (bd2 (f_X11_refuse (-1) s5) fun v14 s13 =>
    some (v14, s13))
    else (bd2 (f_X11_isHour x2 s5) fun v8 s7 =>
    if v8 = 0 then
    (bd2 (f_X11_refuse (-6) s7) fun v12 s11 =>
    some (v12, s11))
    else (bd2 (f_X11_tell (nI 0) x1 x2 x2 (nI 0) x3 s7) fun v10 s9 =>
    some (v10, s9))))
theorem e_X11_seen {G : GP} {x1 : Int32} {x2 : Int32} {x3 : Int32} {σ : ST} {v : Int32} {s : ST}  (h : f_X11_seen x1 x2 x3 σ = some (v, s)) : E G mX11_seen (6, 151) 0 [.ref 0, .int x1, .int x2, .int x3] [] (mem σ) (QI v s) := by
  unfold f_X11_seen at h
  refine E_aload_n (pc := 0) rfl dX11_seen_0 ?_
  refine E_iload_n (pc := 1) rfl dX11_seen_1 ?_
  obtain ⟨v2, s1, hp, h⟩ := bd2_some h
  refine E_callV (pc := 2) (As := [_]) (fc := (0, 0)) s11_181_11 oX11_isHappening dX11_seen_2 (mem_ob (ent_st SW0)) rfl rfl (Nat.le_of_ble_eq_true rfl) rfl rfl (by decide) (e_X11_isHappening hp) (fun rv_ M_ hq_ => ?_)
  obtain ⟨rfl, rfl⟩ := hq_
  refine T_if_eq (pc := 5) 15 dX11_seen_5 (by decide) h (fun h => ?_) (fun h => ?_)
  · refine E_aload_n (pc := 15) rfl dX11_seen_15 ?_
    refine E_im1 (pc := 16) dX11_seen_16 ?_
    obtain ⟨v4, s3, hp, h⟩ := bd2_some h
    refine E_callV (pc := 17) (As := [_]) (fc := (0, 0)) s11_80_11 oX11_refuse dX11_seen_17 (mem_ob (ent_st SW0)) rfl rfl (Nat.le_of_ble_eq_true rfl) rfl rfl (by decide) (e_X11_refuse hp) (fun rv_ M_ hq_ => ?_)
    obtain ⟨rfl, rfl⟩ := hq_
    exact E_ireturn (pc := 20) rfl rfl dX11_seen_20 (QI_of h)
  · refine E_iload_n (pc := 8) rfl dX11_seen_8 ?_
    obtain ⟨v6, s5, hp, h⟩ := bd2_some h
    refine E_callS (pc := 9) (As := [_]) (fc := (0, 0)) s11_191 oX11_isMouth dX11_seen_9 rfl rfl (Nat.le_of_ble_eq_true rfl) rfl rfl (by decide) (e_X11_isMouth hp) (fun rv_ M_ hq_ => ?_)
    obtain ⟨rfl, rfl⟩ := hq_
    refine T_if_ne (pc := 12) 21 dX11_seen_12 (by decide) h (fun h => ?_) (fun h => ?_)
    · refine E_iload_n (pc := 21) rfl dX11_seen_21 ?_
      obtain ⟨v8, s7, hp, h⟩ := bd2_some h
      refine E_callS (pc := 22) (As := [_]) (fc := (0, 0)) s11_197 oX11_isHour dX11_seen_22 rfl rfl (Nat.le_of_ble_eq_true rfl) rfl rfl (by decide) (e_X11_isHour hp) (fun rv_ M_ hq_ => ?_)
      obtain ⟨rfl, rfl⟩ := hq_
      refine T_if_ne (pc := 25) 35 dX11_seen_25 (by decide) h (fun h => ?_) (fun h => ?_)
      · refine E_aload_n (pc := 35) rfl dX11_seen_35 ?_
        refine E_iconst (pc := 36) 0 rfl dX11_seen_36 ?_
        refine E_iload_n (pc := 37) rfl dX11_seen_37 ?_
        refine E_iload_n (pc := 38) rfl dX11_seen_38 ?_
        refine E_iload_n (pc := 39) rfl dX11_seen_39 ?_
        refine E_iconst (pc := 40) 0 rfl dX11_seen_40 ?_
        refine E_iload_n (pc := 41) rfl dX11_seen_41 ?_
        obtain ⟨v10, s9, hp, h⟩ := bd2_some h
        refine E_callV (pc := 42) (As := [_, _, _, _, _, _]) (fc := (5, 125)) s11_200_11 oX11_tell dX11_seen_42 (mem_ob (ent_st SW0)) rfl rfl (Nat.le_of_ble_eq_true rfl) rfl rfl (by decide) (e_X11_tell hp) (fun rv_ M_ hq_ => ?_)
        obtain ⟨rfl, rfl⟩ := hq_
        exact E_ireturn (pc := 45) rfl rfl dX11_seen_45 (QI_of h)
      · refine E_aload_n (pc := 28) rfl dX11_seen_28 ?_
        refine E_bipush (pc := 29) (-6) (by decide) dX11_seen_29 ?_
        obtain ⟨v12, s11, hp, h⟩ := bd2_some h
        refine E_callV (pc := 31) (As := [_]) (fc := (0, 0)) s11_80_11 oX11_refuse dX11_seen_31 (mem_ob (ent_st SW0)) rfl rfl (Nat.le_of_ble_eq_true rfl) rfl rfl (by decide) (e_X11_refuse hp) (fun rv_ M_ hq_ => ?_)
        obtain ⟨rfl, rfl⟩ := hq_
        exact E_ireturn (pc := 34) rfl rfl dX11_seen_34 (QI_of h)
    · refine E_aload_n (pc := 15) rfl dX11_seen_15 ?_
      refine E_im1 (pc := 16) dX11_seen_16 ?_
      obtain ⟨v14, s13, hp, h⟩ := bd2_some h
      refine E_callV (pc := 17) (As := [_]) (fc := (0, 0)) s11_80_11 oX11_refuse dX11_seen_17 (mem_ob (ent_st SW0)) rfl rfl (Nat.le_of_ble_eq_true rfl) rfl rfl (by decide) (e_X11_refuse hp) (fun rv_ M_ hq_ => ?_)
      obtain ⟨rfl, rfl⟩ := hq_
      exact E_ireturn (pc := 20) rfl rfl dX11_seen_20 (QI_of h)
noncomputable def f_X11_areHours (x0 : Int32) (x1 : Int32) (σ : ST) : Option (Int32 × ST) :=
    bd2 (f_X11_isHour x0 σ) fun v2 s1 =>
    if v2 = 0 then
    (some ((nI 0), s1))
    else (bd2 (f_X11_isHour x1 s1) fun v4 s3 =>
    if v4 = 0 then
    (some ((nI 0), s3))
    else (if x1 < x0 then
    (some ((nI 0), s3))
    else (some ((nI 1), s3))))
theorem e_X11_areHours {G : GP} {x0 : Int32} {x1 : Int32} {σ : ST} {v : Int32} {s : ST}  (h : f_X11_areHours x0 x1 σ = some (v, s)) : E G mX11_areHours (1, 20) 0 [.int x0, .int x1] [] (mem σ) (QI v s) := by
  unfold f_X11_areHours at h
  refine E_iload_n (pc := 0) rfl dX11_areHours_0 ?_
  obtain ⟨v2, s1, hp, h⟩ := bd2_some h
  refine E_callS (pc := 1) (As := [_]) (fc := (0, 0)) s11_197 oX11_isHour dX11_areHours_1 rfl rfl (Nat.le_of_ble_eq_true rfl) rfl rfl (by decide) (e_X11_isHour hp) (fun rv_ M_ hq_ => ?_)
  obtain ⟨rfl, rfl⟩ := hq_
  refine T_if_eq (pc := 4) 23 dX11_areHours_4 (by decide) h (fun h => ?_) (fun h => ?_)
  · refine E_iconst (pc := 23) 0 rfl dX11_areHours_23 ?_
    exact E_ireturn (pc := 24) rfl (by decide) dX11_areHours_24 (QI_of h)
  · refine E_iload_n (pc := 7) rfl dX11_areHours_7 ?_
    obtain ⟨v4, s3, hp, h⟩ := bd2_some h
    refine E_callS (pc := 8) (As := [_]) (fc := (0, 0)) s11_197 oX11_isHour dX11_areHours_8 rfl rfl (Nat.le_of_ble_eq_true rfl) rfl rfl (by decide) (e_X11_isHour hp) (fun rv_ M_ hq_ => ?_)
    obtain ⟨rfl, rfl⟩ := hq_
    refine T_if_eq (pc := 11) 23 dX11_areHours_11 (by decide) h (fun h => ?_) (fun h => ?_)
    · refine E_iconst (pc := 23) 0 rfl dX11_areHours_23 ?_
      exact E_ireturn (pc := 24) rfl (by decide) dX11_areHours_24 (QI_of h)
    · refine E_iload_n (pc := 14) rfl dX11_areHours_14 ?_
      refine E_iload_n (pc := 15) rfl dX11_areHours_15 ?_
      refine T_icmp_gt (pc := 16) 23 dX11_areHours_16 (by decide) h (fun h => ?_) (fun h => ?_)
      · refine E_iconst (pc := 23) 0 rfl dX11_areHours_23 ?_
        exact E_ireturn (pc := 24) rfl (by decide) dX11_areHours_24 (QI_of h)
      · refine E_iconst (pc := 19) 1 rfl dX11_areHours_19 ?_
        refine E_goto (pc := 20) 24 (by decide) dX11_areHours_20 ?_
        exact E_ireturn (pc := 24) rfl (by decide) dX11_areHours_24 (QI_of h)
noncomputable def f_X11_span (x1 : Int32) (x2 : Int32) (x3 : Int32) (x4 : Int32) (x5 : Int32) (σ : ST) : Option (Int32 × ST) :=
    bd2 (f_X11_isHappening x1 σ) fun v2 s1 =>
    if v2 = 0 then
    (bd2 (f_X11_refuse (-1) s1) fun v4 s3 =>
    some (v4, s3))
    else (bd2 (f_X11_isMouth x5 s1) fun v6 s5 =>
    if v6 = 0 then
    (bd2 (f_X11_refuse (-1) s5) fun v16 s15 =>
    some (v16, s15))
    else (bd2 (f_X11_areHours x2 x3 s5) fun v8 s7 =>
    if v8 = 0 then
    (bd2 (f_X11_refuse (-6) s7) fun v14 s13 =>
    some (v14, s13))
    else (if x4 = 0 then
    (bd2 (f_X11_tell (nI 1) x1 x2 x3 (nI 0) x5 s7) fun v10 s9 =>
    some (v10, s9))
    else (bd2 (f_X11_tell (nI 3) x1 x2 x3 (nI 0) x5 s7) fun v12 s11 =>
    some (v12, s11)))))
theorem e_X11_span {G : GP} {x1 : Int32} {x2 : Int32} {x3 : Int32} {x4 : Int32} {x5 : Int32} {σ : ST} {v : Int32} {s : ST}  (h : f_X11_span x1 x2 x3 x4 x5 σ = some (v, s)) : E G mX11_span (6, 151) 0 [.ref 0, .int x1, .int x2, .int x3, .int x4, .int x5] [] (mem σ) (QI v s) := by
  unfold f_X11_span at h
  refine E_aload_n (pc := 0) rfl dX11_span_0 ?_
  refine E_iload_n (pc := 1) rfl dX11_span_1 ?_
  obtain ⟨v2, s1, hp, h⟩ := bd2_some h
  refine E_callV (pc := 2) (As := [_]) (fc := (0, 0)) s11_181_11 oX11_isHappening dX11_span_2 (mem_ob (ent_st SW0)) rfl rfl (Nat.le_of_ble_eq_true rfl) rfl rfl (by decide) (e_X11_isHappening hp) (fun rv_ M_ hq_ => ?_)
  obtain ⟨rfl, rfl⟩ := hq_
  refine T_if_eq (pc := 5) 16 dX11_span_5 (by decide) h (fun h => ?_) (fun h => ?_)
  · refine E_aload_n (pc := 16) rfl dX11_span_16 ?_
    refine E_im1 (pc := 17) dX11_span_17 ?_
    obtain ⟨v4, s3, hp, h⟩ := bd2_some h
    refine E_callV (pc := 18) (As := [_]) (fc := (0, 0)) s11_80_11 oX11_refuse dX11_span_18 (mem_ob (ent_st SW0)) rfl rfl (Nat.le_of_ble_eq_true rfl) rfl rfl (by decide) (e_X11_refuse hp) (fun rv_ M_ hq_ => ?_)
    obtain ⟨rfl, rfl⟩ := hq_
    exact E_ireturn (pc := 21) rfl rfl dX11_span_21 (QI_of h)
  · refine E_iload (pc := 8) rfl dX11_span_8 ?_
    obtain ⟨v6, s5, hp, h⟩ := bd2_some h
    refine E_callS (pc := 10) (As := [_]) (fc := (0, 0)) s11_191 oX11_isMouth dX11_span_10 rfl rfl (Nat.le_of_ble_eq_true rfl) rfl rfl (by decide) (e_X11_isMouth hp) (fun rv_ M_ hq_ => ?_)
    obtain ⟨rfl, rfl⟩ := hq_
    refine T_if_ne (pc := 13) 22 dX11_span_13 (by decide) h (fun h => ?_) (fun h => ?_)
    · refine E_iload_n (pc := 22) rfl dX11_span_22 ?_
      refine E_iload_n (pc := 23) rfl dX11_span_23 ?_
      obtain ⟨v8, s7, hp, h⟩ := bd2_some h
      refine E_callS (pc := 24) (As := [_, _]) (fc := (1, 20)) s11_204 oX11_areHours dX11_span_24 rfl rfl (Nat.le_of_ble_eq_true rfl) rfl rfl (by decide) (e_X11_areHours hp) (fun rv_ M_ hq_ => ?_)
      obtain ⟨rfl, rfl⟩ := hq_
      refine T_if_ne (pc := 27) 37 dX11_span_27 (by decide) h (fun h => ?_) (fun h => ?_)
      · refine E_aload_n (pc := 37) rfl dX11_span_37 ?_
        refine E_iload (pc := 38) rfl dX11_span_38 ?_
        refine T_if_eq (pc := 40) 47 dX11_span_40 (by decide) h (fun h => ?_) (fun h => ?_)
        · refine E_iconst (pc := 47) 1 rfl dX11_span_47 ?_
          refine E_iload_n (pc := 48) rfl dX11_span_48 ?_
          refine E_iload_n (pc := 49) rfl dX11_span_49 ?_
          refine E_iload_n (pc := 50) rfl dX11_span_50 ?_
          refine E_iconst (pc := 51) 0 rfl dX11_span_51 ?_
          refine E_iload (pc := 52) rfl dX11_span_52 ?_
          obtain ⟨v10, s9, hp, h⟩ := bd2_some h
          refine E_callV (pc := 54) (As := [_, _, _, _, _, _]) (fc := (5, 125)) s11_200_11 oX11_tell dX11_span_54 (mem_ob (ent_st SW0)) rfl rfl (Nat.le_of_ble_eq_true rfl) rfl rfl (by decide) (e_X11_tell hp) (fun rv_ M_ hq_ => ?_)
          obtain ⟨rfl, rfl⟩ := hq_
          exact E_ireturn (pc := 57) rfl rfl dX11_span_57 (QI_of h)
        · refine E_iconst (pc := 43) 3 rfl dX11_span_43 ?_
          refine E_goto (pc := 44) 48 (by decide) dX11_span_44 ?_
          refine E_iload_n (pc := 48) rfl dX11_span_48 ?_
          refine E_iload_n (pc := 49) rfl dX11_span_49 ?_
          refine E_iload_n (pc := 50) rfl dX11_span_50 ?_
          refine E_iconst (pc := 51) 0 rfl dX11_span_51 ?_
          refine E_iload (pc := 52) rfl dX11_span_52 ?_
          obtain ⟨v12, s11, hp, h⟩ := bd2_some h
          refine E_callV (pc := 54) (As := [_, _, _, _, _, _]) (fc := (5, 125)) s11_200_11 oX11_tell dX11_span_54 (mem_ob (ent_st SW0)) rfl rfl (Nat.le_of_ble_eq_true rfl) rfl rfl (by decide) (e_X11_tell hp) (fun rv_ M_ hq_ => ?_)
          obtain ⟨rfl, rfl⟩ := hq_
          exact E_ireturn (pc := 57) rfl rfl dX11_span_57 (QI_of h)
      · refine E_aload_n (pc := 30) rfl dX11_span_30 ?_
        refine E_bipush (pc := 31) (-6) (by decide) dX11_span_31 ?_
        obtain ⟨v14, s13, hp, h⟩ := bd2_some h
        refine E_callV (pc := 33) (As := [_]) (fc := (0, 0)) s11_80_11 oX11_refuse dX11_span_33 (mem_ob (ent_st SW0)) rfl rfl (Nat.le_of_ble_eq_true rfl) rfl rfl (by decide) (e_X11_refuse hp) (fun rv_ M_ hq_ => ?_)
        obtain ⟨rfl, rfl⟩ := hq_
        exact E_ireturn (pc := 36) rfl rfl dX11_span_36 (QI_of h)
    · refine E_aload_n (pc := 16) rfl dX11_span_16 ?_
      refine E_im1 (pc := 17) dX11_span_17 ?_
      obtain ⟨v16, s15, hp, h⟩ := bd2_some h
      refine E_callV (pc := 18) (As := [_]) (fc := (0, 0)) s11_80_11 oX11_refuse dX11_span_18 (mem_ob (ent_st SW0)) rfl rfl (Nat.le_of_ble_eq_true rfl) rfl rfl (by decide) (e_X11_refuse hp) (fun rv_ M_ hq_ => ?_)
      obtain ⟨rfl, rfl⟩ := hq_
      exact E_ireturn (pc := 21) rfl rfl dX11_span_21 (QI_of h)
noncomputable def f_X11_isThing (x1 : Int32) (σ : ST) : Option (Int32 × ST) :=
    if x1 < 0 then
    (some ((nI 0), σ))
    else (if x1 < (σ.1 2 0) then
    (some ((nI 1), σ))
    else (some ((nI 0), σ)))
theorem e_X11_isThing {G : GP} {x1 : Int32} {σ : ST} {v : Int32} {s : ST}  (h : f_X11_isThing x1 σ = some (v, s)) : E G mX11_isThing (0, 0) 0 [.ref 0, .int x1] [] (mem σ) (QI v s) := by
  unfold f_X11_isThing at h
  refine E_iload_n (pc := 0) rfl dX11_isThing_0 ?_
  refine T_if_lt (pc := 1) 19 dX11_isThing_1 (by decide) h (fun h => ?_) (fun h => ?_)
  · refine E_iconst (pc := 19) 0 rfl dX11_isThing_19 ?_
    exact E_ireturn (pc := 20) rfl (by decide) dX11_isThing_20 (QI_of h)
  · refine E_iload_n (pc := 4) rfl dX11_isThing_4 ?_
    refine E_aload_n (pc := 5) rfl dX11_isThing_5 ?_
    refine R_getR (pc := 6) (b := 2) f11_18 dX11_isThing_6 (ent_st SW0) (by decide) rfl rfl ?_
    refine R_getI (pc := 9) f11_303 dX11_isThing_9 (ent_st WO2.1) (by decide) rfl ?_
    refine T_icmp_ge (pc := 12) 19 dX11_isThing_12 (by decide) h (fun h => ?_) (fun h => ?_)
    · refine E_iconst (pc := 19) 0 rfl dX11_isThing_19 ?_
      exact E_ireturn (pc := 20) rfl (by decide) dX11_isThing_20 (QI_of h)
    · refine E_iconst (pc := 15) 1 rfl dX11_isThing_15 ?_
      refine E_goto (pc := 16) 20 (by decide) dX11_isThing_16 ?_
      exact E_ireturn (pc := 20) rfl (by decide) dX11_isThing_20 (QI_of h)
noncomputable def f_X11_isRunning (x1 : Int32) (σ : ST) : Option (Int32 × ST) :=
    bd2 (f_X11_isThing x1 σ) fun v2 s1 =>
    if v2 = 0 then
    (some ((nI 0), s1))
    else ((rdI s1 3 10 x1).bind fun v3 =>
    if v3 = (nI 3) then
    (some ((nI 1), s1))
    else (some ((nI 0), s1)))
theorem e_X11_isRunning {G : GP} {x1 : Int32} {σ : ST} {v : Int32} {s : ST}  (h : f_X11_isRunning x1 σ = some (v, s)) : E G mX11_isRunning (1, 21) 0 [.ref 0, .int x1] [] (mem σ) (QI v s) := by
  unfold f_X11_isRunning at h
  refine E_aload_n (pc := 0) rfl dX11_isRunning_0 ?_
  refine E_iload_n (pc := 1) rfl dX11_isRunning_1 ?_
  obtain ⟨v2, s1, hp, h⟩ := bd2_some h
  refine E_callV (pc := 2) (As := [_]) (fc := (0, 0)) s11_207_11 oX11_isThing dX11_isRunning_2 (mem_ob (ent_st SW0)) rfl rfl (Nat.le_of_ble_eq_true rfl) rfl rfl (by decide) (e_X11_isThing hp) (fun rv_ M_ hq_ => ?_)
  obtain ⟨rfl, rfl⟩ := hq_
  refine T_if_eq (pc := 5) 25 dX11_isRunning_5 (by decide) h (fun h => ?_) (fun h => ?_)
  · refine E_iconst (pc := 25) 0 rfl dX11_isRunning_25 ?_
    exact E_ireturn (pc := 26) rfl (by decide) dX11_isRunning_26 (QI_of h)
  · refine E_aload_n (pc := 8) rfl dX11_isRunning_8 ?_
    refine R_getR (pc := 9) (b := 2) f11_18 dX11_isRunning_9 (ent_st SW0) (by decide) rfl rfl ?_
    refine R_getR (pc := 12) (b := 3) f11_311 dX11_isRunning_12 (ent_st WO2.1) (by decide) rfl rfl ?_
    refine E_iload_n (pc := 15) rfl dX11_isRunning_15 ?_
    refine T_iald (pc := 16) dX11_isRunning_16 (ent_st WO2.2.1) (by decide) h (fun v3 h => ?_)
    refine E_iconst (pc := 17) 3 rfl dX11_isRunning_17 ?_
    refine T_icmp_ne (pc := 18) 25 dX11_isRunning_18 (by decide) h (fun h => ?_) (fun h => ?_)
    · refine E_iconst (pc := 25) 0 rfl dX11_isRunning_25 ?_
      exact E_ireturn (pc := 26) rfl (by decide) dX11_isRunning_26 (QI_of h)
    · refine E_iconst (pc := 21) 1 rfl dX11_isRunning_21 ?_
      refine E_goto (pc := 22) 26 (by decide) dX11_isRunning_22 ?_
      exact E_ireturn (pc := 26) rfl (by decide) dX11_isRunning_26 (QI_of h)
noncomputable def f_X11_canHave_19 (z0 : Int32) (z1 : Int32) (sg : ST) : Option (Int32 × ST) :=
    if z1 < z0 then
    (some ((nI 0), sg))
    else (some ((nI 1), sg))
theorem e_X11_canHave_19 {G : GP} {z0 : Int32} {z1 : Int32} {sg : ST} {v : Int32} {s : ST}  (h : f_X11_canHave_19 z0 z1 sg = some (v, s)) : E G mX11_canHave (2, 42) 19 [D0, D0, D0] [.int z1, .int z0] (mem sg) (QI v s) := by
  unfold f_X11_canHave_19 at h
  refine T_icmp_gt (pc := 19) 26 dX11_canHave_19 (by decide) h (fun h => ?_) (fun h => ?_)
  · refine E_iconst (pc := 26) 0 rfl dX11_canHave_26 ?_
    exact E_ireturn (pc := 27) rfl (by decide) dX11_canHave_27 (QI_of h)
  · refine E_iconst (pc := 22) 1 rfl dX11_canHave_22 ?_
    refine E_goto (pc := 23) 27 (by decide) dX11_canHave_23 ?_
    exact E_ireturn (pc := 27) rfl (by decide) dX11_canHave_27 (QI_of h)
noncomputable def f_X11_canHave (x1 : Int32) (x2 : Int32) (σ : ST) : Option (Int32 × ST) :=
    if x2 < 0 then
    (some ((nI 0), σ))
    else (bd2 (f_X11_isRunning x1 σ) fun v2 s1 =>
    if v2 = 0 then
    (f_X11_canHave_19 x2 (nI 1) s1)
    else (f_X11_canHave_19 x2 (nI 7) s1))
theorem e_X11_canHave {G : GP} {x1 : Int32} {x2 : Int32} {σ : ST} {v : Int32} {s : ST}  (h : f_X11_canHave x1 x2 σ = some (v, s)) : E G mX11_canHave (2, 42) 0 [.ref 0, .int x1, .int x2] [] (mem σ) (QI v s) := by
  unfold f_X11_canHave at h
  refine E_iload_n (pc := 0) rfl dX11_canHave_0 ?_
  refine T_if_lt (pc := 1) 26 dX11_canHave_1 (by decide) h (fun h => ?_) (fun h => ?_)
  · refine E_iconst (pc := 26) 0 rfl dX11_canHave_26 ?_
    exact E_ireturn (pc := 27) rfl (by decide) dX11_canHave_27 (QI_of h)
  · refine E_iload_n (pc := 4) rfl dX11_canHave_4 ?_
    refine E_aload_n (pc := 5) rfl dX11_canHave_5 ?_
    refine E_iload_n (pc := 6) rfl dX11_canHave_6 ?_
    obtain ⟨v2, s1, hp, h⟩ := bd2_some h
    refine E_callV (pc := 7) (As := [_]) (fc := (1, 21)) s11_247_11 oX11_isRunning dX11_canHave_7 (mem_ob (ent_st SW0)) rfl rfl (Nat.le_of_ble_eq_true rfl) rfl rfl (by decide) (e_X11_isRunning hp) (fun rv_ M_ hq_ => ?_)
    obtain ⟨rfl, rfl⟩ := hq_
    refine T_if_eq (pc := 10) 18 dX11_canHave_10 (by decide) h (fun h => ?_) (fun h => ?_)
    · refine E_iconst (pc := 18) 1 rfl dX11_canHave_18 ?_
      refine E_kp [false, false, false] (L2 := [D0, D0, D0]) rfl rfl ?_
      refine e_X11_canHave_19  h
    · refine E_bipush (pc := 13) (nI 7) (by decide) dX11_canHave_13 ?_
      refine E_goto (pc := 15) 19 (by decide) dX11_canHave_15 ?_
      refine E_kp [false, false, false] (L2 := [D0, D0, D0]) rfl rfl ?_
      refine e_X11_canHave_19  h
noncomputable def f_X11_was (x1 : Int32) (x2 : Int32) (x3 : Int32) (x4 : Int32) (x5 : Int32) (σ : ST) : Option (Int32 × ST) :=
    bd2 (f_X11_isThing x1 σ) fun v2 s1 =>
    if v2 = 0 then
    (bd2 (f_X11_refuse (-1) s1) fun v4 s3 =>
    some (v4, s3))
    else (bd2 (f_X11_isMouth x5 s1) fun v6 s5 =>
    if v6 = 0 then
    (bd2 (f_X11_refuse (-1) s5) fun v18 s17 =>
    some (v18, s17))
    else (bd2 (f_X11_areHours x3 x4 s5) fun v8 s7 =>
    if v8 = 0 then
    (bd2 (f_X11_refuse (-6) s7) fun v10 s9 =>
    some (v10, s9))
    else (bd2 (f_X11_canHave x1 x2 s7) fun v12 s11 =>
    if v12 = 0 then
    (bd2 (f_X11_refuse (-6) s11) fun v16 s15 =>
    some (v16, s15))
    else (bd2 (f_X11_tell (nI 2) x1 x3 x4 x2 x5 s11) fun v14 s13 =>
    some (v14, s13)))))
theorem e_X11_was {G : GP} {x1 : Int32} {x2 : Int32} {x3 : Int32} {x4 : Int32} {x5 : Int32} {σ : ST} {v : Int32} {s : ST}  (h : f_X11_was x1 x2 x3 x4 x5 σ = some (v, s)) : E G mX11_was (6, 151) 0 [.ref 0, .int x1, .int x2, .int x3, .int x4, .int x5] [] (mem σ) (QI v s) := by
  unfold f_X11_was at h
  refine E_aload_n (pc := 0) rfl dX11_was_0 ?_
  refine E_iload_n (pc := 1) rfl dX11_was_1 ?_
  obtain ⟨v2, s1, hp, h⟩ := bd2_some h
  refine E_callV (pc := 2) (As := [_]) (fc := (0, 0)) s11_207_11 oX11_isThing dX11_was_2 (mem_ob (ent_st SW0)) rfl rfl (Nat.le_of_ble_eq_true rfl) rfl rfl (by decide) (e_X11_isThing hp) (fun rv_ M_ hq_ => ?_)
  obtain ⟨rfl, rfl⟩ := hq_
  refine T_if_eq (pc := 5) 16 dX11_was_5 (by decide) h (fun h => ?_) (fun h => ?_)
  · refine E_aload_n (pc := 16) rfl dX11_was_16 ?_
    refine E_im1 (pc := 17) dX11_was_17 ?_
    obtain ⟨v4, s3, hp, h⟩ := bd2_some h
    refine E_callV (pc := 18) (As := [_]) (fc := (0, 0)) s11_80_11 oX11_refuse dX11_was_18 (mem_ob (ent_st SW0)) rfl rfl (Nat.le_of_ble_eq_true rfl) rfl rfl (by decide) (e_X11_refuse hp) (fun rv_ M_ hq_ => ?_)
    obtain ⟨rfl, rfl⟩ := hq_
    exact E_ireturn (pc := 21) rfl rfl dX11_was_21 (QI_of h)
  · refine E_iload (pc := 8) rfl dX11_was_8 ?_
    obtain ⟨v6, s5, hp, h⟩ := bd2_some h
    refine E_callS (pc := 10) (As := [_]) (fc := (0, 0)) s11_191 oX11_isMouth dX11_was_10 rfl rfl (Nat.le_of_ble_eq_true rfl) rfl rfl (by decide) (e_X11_isMouth hp) (fun rv_ M_ hq_ => ?_)
    obtain ⟨rfl, rfl⟩ := hq_
    refine T_if_ne (pc := 13) 22 dX11_was_13 (by decide) h (fun h => ?_) (fun h => ?_)
    · refine E_iload_n (pc := 22) rfl dX11_was_22 ?_
      refine E_iload (pc := 23) rfl dX11_was_23 ?_
      obtain ⟨v8, s7, hp, h⟩ := bd2_some h
      refine E_callS (pc := 25) (As := [_, _]) (fc := (1, 20)) s11_204 oX11_areHours dX11_was_25 rfl rfl (Nat.le_of_ble_eq_true rfl) rfl rfl (by decide) (e_X11_areHours hp) (fun rv_ M_ hq_ => ?_)
      obtain ⟨rfl, rfl⟩ := hq_
      refine T_if_eq (pc := 28) 40 dX11_was_28 (by decide) h (fun h => ?_) (fun h => ?_)
      · refine E_aload_n (pc := 40) rfl dX11_was_40 ?_
        refine E_bipush (pc := 41) (-6) (by decide) dX11_was_41 ?_
        obtain ⟨v10, s9, hp, h⟩ := bd2_some h
        refine E_callV (pc := 43) (As := [_]) (fc := (0, 0)) s11_80_11 oX11_refuse dX11_was_43 (mem_ob (ent_st SW0)) rfl rfl (Nat.le_of_ble_eq_true rfl) rfl rfl (by decide) (e_X11_refuse hp) (fun rv_ M_ hq_ => ?_)
        obtain ⟨rfl, rfl⟩ := hq_
        exact E_ireturn (pc := 46) rfl rfl dX11_was_46 (QI_of h)
      · refine E_aload_n (pc := 31) rfl dX11_was_31 ?_
        refine E_iload_n (pc := 32) rfl dX11_was_32 ?_
        refine E_iload_n (pc := 33) rfl dX11_was_33 ?_
        obtain ⟨v12, s11, hp, h⟩ := bd2_some h
        refine E_callV (pc := 34) (As := [_, _]) (fc := (2, 42)) s11_210_11 oX11_canHave dX11_was_34 (mem_ob (ent_st SW0)) rfl rfl (Nat.le_of_ble_eq_true rfl) rfl rfl (by decide) (e_X11_canHave hp) (fun rv_ M_ hq_ => ?_)
        obtain ⟨rfl, rfl⟩ := hq_
        refine T_if_ne (pc := 37) 47 dX11_was_37 (by decide) h (fun h => ?_) (fun h => ?_)
        · refine E_aload_n (pc := 47) rfl dX11_was_47 ?_
          refine E_iconst (pc := 48) 2 rfl dX11_was_48 ?_
          refine E_iload_n (pc := 49) rfl dX11_was_49 ?_
          refine E_iload_n (pc := 50) rfl dX11_was_50 ?_
          refine E_iload (pc := 51) rfl dX11_was_51 ?_
          refine E_iload_n (pc := 53) rfl dX11_was_53 ?_
          refine E_iload (pc := 54) rfl dX11_was_54 ?_
          obtain ⟨v14, s13, hp, h⟩ := bd2_some h
          refine E_callV (pc := 56) (As := [_, _, _, _, _, _]) (fc := (5, 125)) s11_200_11 oX11_tell dX11_was_56 (mem_ob (ent_st SW0)) rfl rfl (Nat.le_of_ble_eq_true rfl) rfl rfl (by decide) (e_X11_tell hp) (fun rv_ M_ hq_ => ?_)
          obtain ⟨rfl, rfl⟩ := hq_
          exact E_ireturn (pc := 59) rfl rfl dX11_was_59 (QI_of h)
        · refine E_aload_n (pc := 40) rfl dX11_was_40 ?_
          refine E_bipush (pc := 41) (-6) (by decide) dX11_was_41 ?_
          obtain ⟨v16, s15, hp, h⟩ := bd2_some h
          refine E_callV (pc := 43) (As := [_]) (fc := (0, 0)) s11_80_11 oX11_refuse dX11_was_43 (mem_ob (ent_st SW0)) rfl rfl (Nat.le_of_ble_eq_true rfl) rfl rfl (by decide) (e_X11_refuse hp) (fun rv_ M_ hq_ => ?_)
          obtain ⟨rfl, rfl⟩ := hq_
          exact E_ireturn (pc := 46) rfl rfl dX11_was_46 (QI_of h)
    · refine E_aload_n (pc := 16) rfl dX11_was_16 ?_
      refine E_im1 (pc := 17) dX11_was_17 ?_
      obtain ⟨v18, s17, hp, h⟩ := bd2_some h
      refine E_callV (pc := 18) (As := [_]) (fc := (0, 0)) s11_80_11 oX11_refuse dX11_was_18 (mem_ob (ent_st SW0)) rfl rfl (Nat.le_of_ble_eq_true rfl) rfl rfl (by decide) (e_X11_refuse hp) (fun rv_ M_ hq_ => ?_)
      obtain ⟨rfl, rfl⟩ := hq_
      exact E_ireturn (pc := 21) rfl rfl dX11_was_21 (QI_of h)
noncomputable def f_X11_tellFrom_115 (x3 : Int32) (x4 : Int32) (x5 : Int32) (x6 : Int32) (x7 : Int32) (x8 : Int32) (z0 : Int32) (sg : ST) : Option (Int32 × ST) :=
    if z0 = 0 then
    (some ((nI 0), sg))
    else (bd2 (f_X10_hasRoomForPiece x4 sg) fun v18 s17 =>
    if v18 = 0 then
    (some ((nI 0), s17))
    else (if x4 = (nI 2) then
    (bd2 (f_X11_tell x4 x5 x6 x7 x8 x3 s17) fun v22 s21 =>
    some ((nI 1), s21))
    else (bd2 (f_X11_tell x4 x5 x6 x7 (nI 0) x3 s17) fun v20 s19 =>
    some ((nI 1), s19))))
theorem e_X11_tellFrom_115 {G : GP} {x3 : Int32} {x4 : Int32} {x5 : Int32} {x6 : Int32} {x7 : Int32} {x8 : Int32} {z0 : Int32} {sg : ST} {v : Int32} {s : ST}  (h : f_X11_tellFrom_115 x3 x4 x5 x6 x7 x8 z0 sg = some (v, s)) : E G mX11_tellFrom (6, 151) 115 [.ref 0, D0, D0, .int x3, .int x4, .int x5, .int x6, .int x7, .int x8, D0] [.int z0] (mem sg) (QI v s) := by
  unfold f_X11_tellFrom_115 at h
  refine E_istore (pc := 115) (L2 := [_, _, _, _, _, _, _, _, _, _]) rfl rfl dX11_tellFrom_115 ?_
  refine E_iload (pc := 117) rfl dX11_tellFrom_117 ?_
  refine T_if_eq (pc := 119) 134 dX11_tellFrom_119 (by decide) h (fun h => ?_) (fun h => ?_)
  · refine E_iconst (pc := 134) 0 rfl dX11_tellFrom_134 ?_
    exact E_ireturn (pc := 135) rfl (by decide) dX11_tellFrom_135 (QI_of h)
  · refine E_aload_n (pc := 122) rfl dX11_tellFrom_122 ?_
    refine R_getR (pc := 123) (b := 2) f11_18 dX11_tellFrom_123 (ent_st SW0) (by decide) rfl rfl ?_
    refine E_iload (pc := 126) rfl dX11_tellFrom_126 ?_
    obtain ⟨v18, s17, hp, h⟩ := bd2_some h
    refine E_callV (pc := 128) (As := [_]) (fc := (0, 0)) s11_324_10 oX10_hasRoomForPiece dX11_tellFrom_128 (mem_ob (ent_st WO2.1)) rfl rfl (Nat.le_of_ble_eq_true rfl) rfl rfl (by decide) (e_X10_hasRoomForPiece hp) (fun rv_ M_ hq_ => ?_)
    obtain ⟨rfl, rfl⟩ := hq_
    refine T_if_ne (pc := 131) 136 dX11_tellFrom_131 (by decide) h (fun h => ?_) (fun h => ?_)
    · refine E_aload_n (pc := 136) rfl dX11_tellFrom_136 ?_
      refine E_iload (pc := 137) rfl dX11_tellFrom_137 ?_
      refine E_iload (pc := 139) rfl dX11_tellFrom_139 ?_
      refine E_iload (pc := 141) rfl dX11_tellFrom_141 ?_
      refine E_iload (pc := 143) rfl dX11_tellFrom_143 ?_
      refine E_iload (pc := 145) rfl dX11_tellFrom_145 ?_
      refine E_iconst (pc := 147) 2 rfl dX11_tellFrom_147 ?_
      refine T_icmp_ne (pc := 148) 156 dX11_tellFrom_148 (by decide) h (fun h => ?_) (fun h => ?_)
      · refine E_iconst (pc := 156) 0 rfl dX11_tellFrom_156 ?_
        refine E_iload_n (pc := 157) rfl dX11_tellFrom_157 ?_
        obtain ⟨v20, s19, hp, h⟩ := bd2_some h
        refine E_callV (pc := 158) (As := [_, _, _, _, _, _]) (fc := (5, 125)) s11_200_11 oX11_tell dX11_tellFrom_158 (mem_ob (ent_st SW0)) rfl rfl (Nat.le_of_ble_eq_true rfl) rfl rfl (by decide) (e_X11_tell hp) (fun rv_ M_ hq_ => ?_)
        obtain ⟨rfl, rfl⟩ := hq_
        refine E_pop (pc := 161) rfl dX11_tellFrom_161 ?_
        refine E_iconst (pc := 162) 1 rfl dX11_tellFrom_162 ?_
        exact E_ireturn (pc := 163) rfl (by decide) dX11_tellFrom_163 (QI_of h)
      · refine E_iload (pc := 151) rfl dX11_tellFrom_151 ?_
        refine E_goto (pc := 153) 157 (by decide) dX11_tellFrom_153 ?_
        refine E_iload_n (pc := 157) rfl dX11_tellFrom_157 ?_
        obtain ⟨v22, s21, hp, h⟩ := bd2_some h
        refine E_callV (pc := 158) (As := [_, _, _, _, _, _]) (fc := (5, 125)) s11_200_11 oX11_tell dX11_tellFrom_158 (mem_ob (ent_st SW0)) rfl rfl (Nat.le_of_ble_eq_true rfl) rfl rfl (by decide) (e_X11_tell hp) (fun rv_ M_ hq_ => ?_)
        obtain ⟨rfl, rfl⟩ := hq_
        refine E_pop (pc := 161) rfl dX11_tellFrom_161 ?_
        refine E_iconst (pc := 162) 1 rfl dX11_tellFrom_162 ?_
        exact E_ireturn (pc := 163) rfl (by decide) dX11_tellFrom_163 (QI_of h)
    · refine E_iconst (pc := 134) 0 rfl dX11_tellFrom_134 ?_
      exact E_ireturn (pc := 135) rfl (by decide) dX11_tellFrom_135 (QI_of h)
noncomputable def f_X11_tellFrom_105 (x3 : Int32) (x4 : Int32) (x5 : Int32) (x6 : Int32) (x7 : Int32) (x8 : Int32) (sg : ST) : Option (Int32 × ST) :=
    f_X11_tellFrom_115 x3 x4 x5 x6 x7 x8 (nI 0) sg
theorem e_X11_tellFrom_105 {G : GP} {x3 : Int32} {x4 : Int32} {x5 : Int32} {x6 : Int32} {x7 : Int32} {x8 : Int32} {sg : ST} {v : Int32} {s : ST}  (h : f_X11_tellFrom_105 x3 x4 x5 x6 x7 x8 sg = some (v, s)) : E G mX11_tellFrom (6, 151) 105 [.ref 0, D0, D0, .int x3, .int x4, .int x5, .int x6, .int x7, .int x8, D0] [] (mem sg) (QI v s) := by
  unfold f_X11_tellFrom_105 at h
  refine E_iconst (pc := 105) 0 rfl dX11_tellFrom_105 ?_
  refine E_goto (pc := 106) 115 (by decide) dX11_tellFrom_106 ?_
  refine e_X11_tellFrom_115  h
noncomputable def f_X11_tellFrom_75 (x3 : Int32) (x4 : Int32) (x5 : Int32) (x6 : Int32) (x7 : Int32) (x8 : Int32) (sg : ST) : Option (Int32 × ST) :=
    if x4 = (nI 2) then
    (bd2 (f_X11_isThing x5 sg) fun v24 s23 =>
    if v24 = 0 then
    (f_X11_tellFrom_105 x3 x4 x5 x6 x7 x8 s23)
    else (bd2 (f_X11_canHave x5 x8 s23) fun v26 s25 =>
    if v26 = 0 then
    (f_X11_tellFrom_105 x3 x4 x5 x6 x7 x8 s25)
    else (f_X11_tellFrom_115 x3 x4 x5 x6 x7 x8 (nI 1) s25)))
    else (bd2 (f_X11_isHappening x5 sg) fun v16 s15 =>
    f_X11_tellFrom_115 x3 x4 x5 x6 x7 x8 v16 s15)
theorem e_X11_tellFrom_75 {G : GP} {x3 : Int32} {x4 : Int32} {x5 : Int32} {x6 : Int32} {x7 : Int32} {x8 : Int32} {sg : ST} {v : Int32} {s : ST}  (h : f_X11_tellFrom_75 x3 x4 x5 x6 x7 x8 sg = some (v, s)) : E G mX11_tellFrom (6, 151) 75 [.ref 0, D0, D0, .int x3, .int x4, .int x5, .int x6, .int x7, .int x8, D0] [] (mem sg) (QI v s) := by
  unfold f_X11_tellFrom_75 at h
  refine E_iload (pc := 75) rfl dX11_tellFrom_75 ?_
  refine E_iconst (pc := 77) 2 rfl dX11_tellFrom_77 ?_
  refine T_icmp_ne (pc := 78) 109 dX11_tellFrom_78 (by decide) h (fun h => ?_) (fun h => ?_)
  · refine E_aload_n (pc := 109) rfl dX11_tellFrom_109 ?_
    refine E_iload (pc := 110) rfl dX11_tellFrom_110 ?_
    obtain ⟨v16, s15, hp, h⟩ := bd2_some h
    refine E_callV (pc := 112) (As := [_]) (fc := (0, 0)) s11_181_11 oX11_isHappening dX11_tellFrom_112 (mem_ob (ent_st SW0)) rfl rfl (Nat.le_of_ble_eq_true rfl) rfl rfl (by decide) (e_X11_isHappening hp) (fun rv_ M_ hq_ => ?_)
    obtain ⟨rfl, rfl⟩ := hq_
    refine e_X11_tellFrom_115  h
  · refine E_aload_n (pc := 81) rfl dX11_tellFrom_81 ?_
    refine E_iload (pc := 82) rfl dX11_tellFrom_82 ?_
    obtain ⟨v24, s23, hp, h⟩ := bd2_some h
    refine E_callV (pc := 84) (As := [_]) (fc := (0, 0)) s11_207_11 oX11_isThing dX11_tellFrom_84 (mem_ob (ent_st SW0)) rfl rfl (Nat.le_of_ble_eq_true rfl) rfl rfl (by decide) (e_X11_isThing hp) (fun rv_ M_ hq_ => ?_)
    obtain ⟨rfl, rfl⟩ := hq_
    refine T_if_eq (pc := 87) 105 dX11_tellFrom_87 (by decide) h (fun h => ?_) (fun h => ?_)
    · refine e_X11_tellFrom_105  h
    · refine E_aload_n (pc := 90) rfl dX11_tellFrom_90 ?_
      refine E_iload (pc := 91) rfl dX11_tellFrom_91 ?_
      refine E_iload (pc := 93) rfl dX11_tellFrom_93 ?_
      obtain ⟨v26, s25, hp, h⟩ := bd2_some h
      refine E_callV (pc := 95) (As := [_, _]) (fc := (2, 42)) s11_210_11 oX11_canHave dX11_tellFrom_95 (mem_ob (ent_st SW0)) rfl rfl (Nat.le_of_ble_eq_true rfl) rfl rfl (by decide) (e_X11_canHave hp) (fun rv_ M_ hq_ => ?_)
      obtain ⟨rfl, rfl⟩ := hq_
      refine T_if_eq (pc := 98) 105 dX11_tellFrom_98 (by decide) h (fun h => ?_) (fun h => ?_)
      · refine e_X11_tellFrom_105  h
      · refine E_iconst (pc := 101) 1 rfl dX11_tellFrom_101 ?_
        refine E_goto (pc := 102) 115 (by decide) dX11_tellFrom_102 ?_
        refine e_X11_tellFrom_115  h
noncomputable def f_X11_tellFrom (a1 : Nat) (x2 : Int32) (x3 : Int32) (σ : ST) : Option (Int32 × ST) :=
    bd2 (f_X7_intAt a1 x2 σ) fun v2 s1 =>
    bd2 (f_X7_intAt a1 (x2 + (nI 1)) s1) fun v4 s3 =>
    bd2 (f_X7_intAt a1 (x2 + (nI 2)) s3) fun v6 s5 =>
    bd2 (f_X7_intAt a1 (x2 + (nI 3)) s5) fun v8 s7 =>
    bd2 (f_X7_intAt a1 (x2 + (nI 4)) s7) fun v10 s9 =>
    bd2 (f_X11_isKind v2 s9) fun v12 s11 =>
    if v12 = 0 then
    (some ((nI 0), s11))
    else (bd2 (f_X11_areHours v6 v8 s11) fun v14 s13 =>
    if v14 = 0 then
    (some ((nI 0), s13))
    else (if v2 = 0 then
    (if v6 = v8 then
    (f_X11_tellFrom_75 x3 v2 v4 v6 v8 v10 s13)
    else (some ((nI 0), s13)))
    else (f_X11_tellFrom_75 x3 v2 v4 v6 v8 v10 s13)))
theorem e_X11_tellFrom {G : GP} {a1 : Nat} {x2 : Int32} {x3 : Int32} {σ : ST} {v : Int32} {s : ST} (h1 : SH a1) (h : f_X11_tellFrom a1 x2 x3 σ = some (v, s)) : E G mX11_tellFrom (6, 151) 0 [.ref 0, .ref a1, .int x2, .int x3, D0, D0, D0, D0, D0, D0] [] (mem σ) (QI v s) := by
  unfold f_X11_tellFrom at h
  refine E_aload_n (pc := 0) rfl dX11_tellFrom_0 ?_
  refine E_iload_n (pc := 1) rfl dX11_tellFrom_1 ?_
  obtain ⟨v2, s1, hp, h⟩ := bd2_some h
  refine E_callV (pc := 2) (As := [_]) (fc := (2, 42)) s11_330_7 oX7_intAt dX11_tellFrom_2 (mem_ob (ent_st h1.1)) rfl rfl (Nat.le_of_ble_eq_true rfl) rfl rfl (by decide) (e_X7_intAt h1 hp) (fun rv_ M_ hq_ => ?_)
  obtain ⟨rfl, rfl⟩ := hq_
  refine E_istore (pc := 5) (L2 := [_, _, _, _, _, _, _, _, _, _]) rfl rfl dX11_tellFrom_5 ?_
  refine E_aload_n (pc := 7) rfl dX11_tellFrom_7 ?_
  refine E_iload_n (pc := 8) rfl dX11_tellFrom_8 ?_
  refine E_iconst (pc := 9) 1 rfl dX11_tellFrom_9 ?_
  refine E_iadd (pc := 10) dX11_tellFrom_10 ?_
  obtain ⟨v4, s3, hp, h⟩ := bd2_some h
  refine E_callV (pc := 11) (As := [_]) (fc := (2, 42)) s11_330_7 oX7_intAt dX11_tellFrom_11 (mem_ob (ent_st h1.1)) rfl rfl (Nat.le_of_ble_eq_true rfl) rfl rfl (by decide) (e_X7_intAt h1 hp) (fun rv_ M_ hq_ => ?_)
  obtain ⟨rfl, rfl⟩ := hq_
  refine E_istore (pc := 14) (L2 := [_, _, _, _, _, _, _, _, _, _]) rfl rfl dX11_tellFrom_14 ?_
  refine E_aload_n (pc := 16) rfl dX11_tellFrom_16 ?_
  refine E_iload_n (pc := 17) rfl dX11_tellFrom_17 ?_
  refine E_iconst (pc := 18) 2 rfl dX11_tellFrom_18 ?_
  refine E_iadd (pc := 19) dX11_tellFrom_19 ?_
  obtain ⟨v6, s5, hp, h⟩ := bd2_some h
  refine E_callV (pc := 20) (As := [_]) (fc := (2, 42)) s11_330_7 oX7_intAt dX11_tellFrom_20 (mem_ob (ent_st h1.1)) rfl rfl (Nat.le_of_ble_eq_true rfl) rfl rfl (by decide) (e_X7_intAt h1 hp) (fun rv_ M_ hq_ => ?_)
  obtain ⟨rfl, rfl⟩ := hq_
  refine E_istore (pc := 23) (L2 := [_, _, _, _, _, _, _, _, _, _]) rfl rfl dX11_tellFrom_23 ?_
  refine E_aload_n (pc := 25) rfl dX11_tellFrom_25 ?_
  refine E_iload_n (pc := 26) rfl dX11_tellFrom_26 ?_
  refine E_iconst (pc := 27) 3 rfl dX11_tellFrom_27 ?_
  refine E_iadd (pc := 28) dX11_tellFrom_28 ?_
  obtain ⟨v8, s7, hp, h⟩ := bd2_some h
  refine E_callV (pc := 29) (As := [_]) (fc := (2, 42)) s11_330_7 oX7_intAt dX11_tellFrom_29 (mem_ob (ent_st h1.1)) rfl rfl (Nat.le_of_ble_eq_true rfl) rfl rfl (by decide) (e_X7_intAt h1 hp) (fun rv_ M_ hq_ => ?_)
  obtain ⟨rfl, rfl⟩ := hq_
  refine E_istore (pc := 32) (L2 := [_, _, _, _, _, _, _, _, _, _]) rfl rfl dX11_tellFrom_32 ?_
  refine E_aload_n (pc := 34) rfl dX11_tellFrom_34 ?_
  refine E_iload_n (pc := 35) rfl dX11_tellFrom_35 ?_
  refine E_iconst (pc := 36) 4 rfl dX11_tellFrom_36 ?_
  refine E_iadd (pc := 37) dX11_tellFrom_37 ?_
  obtain ⟨v10, s9, hp, h⟩ := bd2_some h
  refine E_callV (pc := 38) (As := [_]) (fc := (2, 42)) s11_330_7 oX7_intAt dX11_tellFrom_38 (mem_ob (ent_st h1.1)) rfl rfl (Nat.le_of_ble_eq_true rfl) rfl rfl (by decide) (e_X7_intAt h1 hp) (fun rv_ M_ hq_ => ?_)
  obtain ⟨rfl, rfl⟩ := hq_
  refine E_istore (pc := 41) (L2 := [_, _, _, _, _, _, _, _, _, _]) rfl rfl dX11_tellFrom_41 ?_
  refine E_iload (pc := 43) rfl dX11_tellFrom_43 ?_
  obtain ⟨v12, s11, hp, h⟩ := bd2_some h
  refine E_callS (pc := 45) (As := [_]) (fc := (0, 0)) s11_134 oX11_isKind dX11_tellFrom_45 rfl rfl (Nat.le_of_ble_eq_true rfl) rfl rfl (by decide) (e_X11_isKind hp) (fun rv_ M_ hq_ => ?_)
  obtain ⟨rfl, rfl⟩ := hq_
  refine T_if_eq (pc := 48) 73 dX11_tellFrom_48 (by decide) h (fun h => ?_) (fun h => ?_)
  · refine E_iconst (pc := 73) 0 rfl dX11_tellFrom_73 ?_
    exact E_ireturn (pc := 74) rfl (by decide) dX11_tellFrom_74 (QI_of h)
  · refine E_iload (pc := 51) rfl dX11_tellFrom_51 ?_
    refine E_iload (pc := 53) rfl dX11_tellFrom_53 ?_
    obtain ⟨v14, s13, hp, h⟩ := bd2_some h
    refine E_callS (pc := 55) (As := [_, _]) (fc := (1, 20)) s11_204 oX11_areHours dX11_tellFrom_55 rfl rfl (Nat.le_of_ble_eq_true rfl) rfl rfl (by decide) (e_X11_areHours hp) (fun rv_ M_ hq_ => ?_)
    obtain ⟨rfl, rfl⟩ := hq_
    refine T_if_eq (pc := 58) 73 dX11_tellFrom_58 (by decide) h (fun h => ?_) (fun h => ?_)
    · refine E_iconst (pc := 73) 0 rfl dX11_tellFrom_73 ?_
      exact E_ireturn (pc := 74) rfl (by decide) dX11_tellFrom_74 (QI_of h)
    · refine E_iload (pc := 61) rfl dX11_tellFrom_61 ?_
      refine T_if_ne (pc := 63) 75 dX11_tellFrom_63 (by decide) h (fun h => ?_) (fun h => ?_)
      · refine E_kp [true, false, false, true, true, true, true, true, true, false] (L2 := [_, D0, D0, _, _, _, _, _, _, D0]) rfl rfl ?_
        refine e_X11_tellFrom_75  h
      · refine E_iload (pc := 66) rfl dX11_tellFrom_66 ?_
        refine E_iload (pc := 68) rfl dX11_tellFrom_68 ?_
        refine T_icmp_eq (pc := 70) 75 dX11_tellFrom_70 (by decide) h (fun h => ?_) (fun h => ?_)
        · refine E_kp [true, false, false, true, true, true, true, true, true, false] (L2 := [_, D0, D0, _, _, _, _, _, _, D0]) rfl rfl ?_
          refine e_X11_tellFrom_75  h
        · refine E_iconst (pc := 73) 0 rfl dX11_tellFrom_73 ?_
          exact E_ireturn (pc := 74) rfl (by decide) dX11_tellFrom_74 (QI_of h)
noncomputable def f_X11_sheet_82 : Nat → Int32 → Int32 → Int32 → Int32 → Int32 → Int32 → ST → Option (Int32 × ST)
  | 0, _, _, _, _, _, _, _ => none
  | n + 1, x1, x2, x3, x4, x6, x7, sg =>
    if x7 < (x2 + x3) then
    ((ixR 8 x1).bind fun j6 =>
    bd2 (f_X11_tellFrom (231 + 2 * j6) x7 x4 sg) fun v8 s7 =>
    if v8 = 0 then
    (some (x6, s7))
    else ((f_X11_sheet_82 n) x1 x2 x3 x4 (x6 + nI 1) (x7 + nI 5) s7))
    else (some (x6, sg))
theorem e_X11_sheet_82 {G : GP} {v : Int32} {s : ST}  : ∀ (n : Nat) {x1 : Int32} {x2 : Int32} {x3 : Int32} {x4 : Int32} {x6 : Int32} {x7 : Int32} {sg : ST}, f_X11_sheet_82 n x1 x2 x3 x4 x6 x7 sg = some (v, s) → E G mX11_sheet (7, 180) 82 [.ref 0, .int x1, .int x2, .int x3, .int x4, D0, .int x6, .int x7] [] (mem sg) (QI v s) := by
  intro n
  induction n with
  | zero => intro _ _ _ _ _ _ _ h; rw [f_X11_sheet_82] at h; cases h
  | succ n ih =>
    intro x1 x2 x3 x4 x6 x7 sg h
    rw [f_X11_sheet_82] at h
    refine E_iload (pc := 82) rfl dX11_sheet_82 ?_
    refine E_iload_n (pc := 84) rfl dX11_sheet_84 ?_
    refine E_iload_n (pc := 85) rfl dX11_sheet_85 ?_
    refine E_iadd (pc := 86) dX11_sheet_86 ?_
    refine T_icmp_ge (pc := 87) 119 dX11_sheet_87 (by decide) h (fun h => ?_) (fun h => ?_)
    · refine E_iload (pc := 119) rfl dX11_sheet_119 ?_
      exact E_ireturn (pc := 121) rfl rfl dX11_sheet_121 (QI_of h)
    · refine E_aload_n (pc := 90) rfl dX11_sheet_90 ?_
      refine E_aload_n (pc := 91) rfl dX11_sheet_91 ?_
      refine R_getR (pc := 92) (b := 1) f11_11 dX11_sheet_92 (ent_st SW0) (by decide) rfl rfl ?_
      refine E_iload_n (pc := 95) rfl dX11_sheet_95 ?_
      refine T_rald (pc := 96) (b := fun i => 231 + 2 * i) dX11_sheet_96 (ent_st SW1) (by decide) (by decide) h (fun j6 hj6 h => ?_)
      refine E_iload (pc := 97) rfl dX11_sheet_97 ?_
      refine E_iload (pc := 99) rfl dX11_sheet_99 ?_
      obtain ⟨v8, s7, hp, h⟩ := bd2_some h
      refine E_callV (pc := 101) (As := [_, _, _]) (fc := (6, 151)) s11_213_11 oX11_tellFrom dX11_sheet_101 (mem_ob (ent_st SW0)) rfl rfl (Nat.le_of_ble_eq_true rfl) rfl rfl (by decide) (e_X11_tellFrom (SH_s j6 hj6) hp) (fun rv_ M_ hq_ => ?_)
      obtain ⟨rfl, rfl⟩ := hq_
      refine T_if_ne (pc := 104) 110 dX11_sheet_104 (by decide) h (fun h => ?_) (fun h => ?_)
      · refine T_iinc (pc := 110) (m := 1) (L2 := [_, _, _, _, _, _, _, _]) rfl rfl rfl rfl dX11_sheet_110 ?_
        refine T_iinc (pc := 113) (m := 5) (L2 := [_, _, _, _, _, _, _, _]) rfl rfl rfl rfl dX11_sheet_113 ?_
        refine E_goto (pc := 116) 82 (by decide) dX11_sheet_116 ?_
        exact ih h
      · refine E_goto (pc := 107) 119 (by decide) dX11_sheet_107 ?_
        refine E_iload (pc := 119) rfl dX11_sheet_119 ?_
        exact E_ireturn (pc := 121) rfl rfl dX11_sheet_121 (QI_of h)
noncomputable def f_X11_sheet_17 (x1 : Int32) (x2 : Int32) (x3 : Int32) (x4 : Int32) (z0 : Int32) (sg : ST) : Option (Int32 × ST) :=
    if z0 = 0 then
    (if x3 < 0 then
    (bd2 (f_X11_refuse (-4) sg) fun v14 s13 =>
    some (v14, s13))
    else ((ixR 8 x1).bind fun j3 =>
    bd2 (f_X7_reaches (231 + 2 * j3) x2 x3 sg) fun v5 s4 =>
    if v5 = 0 then
    (bd2 (f_X11_refuse (-5) s4) fun v12 s11 =>
    some (v12, s11))
    else (if (x3 - x3 / (nI 5) * (nI 5)) = 0 then
    (f_X11_sheet_82 FU x1 x2 x3 x4 (nI 0) x2 s4)
    else (bd2 (f_X11_refuse (-6) s4) fun v10 s9 =>
    some (v10, s9)))))
    else (bd2 (f_X11_refuse z0 sg) fun v16 s15 =>
    some (v16, s15))
theorem e_X11_sheet_17 {G : GP} {x1 : Int32} {x2 : Int32} {x3 : Int32} {x4 : Int32} {z0 : Int32} {sg : ST} {v : Int32} {s : ST}  (h : f_X11_sheet_17 x1 x2 x3 x4 z0 sg = some (v, s)) : E G mX11_sheet (7, 180) 17 [.ref 0, .int x1, .int x2, .int x3, .int x4, D0, D0, D0] [.int z0] (mem sg) (QI v s) := by
  unfold f_X11_sheet_17 at h
  refine E_istore (pc := 17) (L2 := [_, _, _, _, _, _, _, _]) rfl rfl dX11_sheet_17 ?_
  refine E_iload (pc := 19) rfl dX11_sheet_19 ?_
  refine T_if_eq (pc := 21) 31 dX11_sheet_21 (by decide) h (fun h => ?_) (fun h => ?_)
  · refine E_iload_n (pc := 31) rfl dX11_sheet_31 ?_
    refine T_if_ge (pc := 32) 42 dX11_sheet_32 (by decide) h (fun h => ?_) (fun h => ?_)
    · refine E_aload_n (pc := 42) rfl dX11_sheet_42 ?_
      refine R_getR (pc := 43) (b := 1) f11_11 dX11_sheet_43 (ent_st SW0) (by decide) rfl rfl ?_
      refine E_iload_n (pc := 46) rfl dX11_sheet_46 ?_
      refine T_rald (pc := 47) (b := fun i => 231 + 2 * i) dX11_sheet_47 (ent_st SW1) (by decide) (by decide) h (fun j3 hj3 h => ?_)
      refine E_iload_n (pc := 48) rfl dX11_sheet_48 ?_
      refine E_iload_n (pc := 49) rfl dX11_sheet_49 ?_
      obtain ⟨v5, s4, hp, h⟩ := bd2_some h
      refine E_callV (pc := 50) (As := [_, _]) (fc := (0, 0)) s11_108_7 oX7_reaches dX11_sheet_50 (mem_ob (ent_st (SH_s j3 hj3).1)) rfl rfl (Nat.le_of_ble_eq_true rfl) rfl rfl (by decide) (e_X7_reaches (SH_s j3 hj3) hp) (fun rv_ M_ hq_ => ?_)
      obtain ⟨rfl, rfl⟩ := hq_
      refine T_if_ne (pc := 53) 63 dX11_sheet_53 (by decide) h (fun h => ?_) (fun h => ?_)
      · refine E_iload_n (pc := 63) rfl dX11_sheet_63 ?_
        refine E_iconst (pc := 64) 5 rfl dX11_sheet_64 ?_
        refine E_irem (pc := 65) (by decide) dX11_sheet_65 ?_
        refine T_if_eq (pc := 66) 76 dX11_sheet_66 (by decide) h (fun h => ?_) (fun h => ?_)
        · refine E_iconst (pc := 76) 0 rfl dX11_sheet_76 ?_
          refine E_istore (pc := 77) (L2 := [_, _, _, _, _, _, _, _]) rfl rfl dX11_sheet_77 ?_
          refine E_iload_n (pc := 79) rfl dX11_sheet_79 ?_
          refine E_istore (pc := 80) (L2 := [_, _, _, _, _, _, _, _]) rfl rfl dX11_sheet_80 ?_
          refine E_kp [true, true, true, true, true, false, true, true] (L2 := [_, _, _, _, _, D0, _, _]) rfl rfl ?_
          refine e_X11_sheet_82  FU h
        · refine E_aload_n (pc := 69) rfl dX11_sheet_69 ?_
          refine E_bipush (pc := 70) (-6) (by decide) dX11_sheet_70 ?_
          obtain ⟨v10, s9, hp, h⟩ := bd2_some h
          refine E_callV (pc := 72) (As := [_]) (fc := (0, 0)) s11_80_11 oX11_refuse dX11_sheet_72 (mem_ob (ent_st SW0)) rfl rfl (Nat.le_of_ble_eq_true rfl) rfl rfl (by decide) (e_X11_refuse hp) (fun rv_ M_ hq_ => ?_)
          obtain ⟨rfl, rfl⟩ := hq_
          exact E_ireturn (pc := 75) rfl rfl dX11_sheet_75 (QI_of h)
      · refine E_aload_n (pc := 56) rfl dX11_sheet_56 ?_
        refine E_bipush (pc := 57) (-5) (by decide) dX11_sheet_57 ?_
        obtain ⟨v12, s11, hp, h⟩ := bd2_some h
        refine E_callV (pc := 59) (As := [_]) (fc := (0, 0)) s11_80_11 oX11_refuse dX11_sheet_59 (mem_ob (ent_st SW0)) rfl rfl (Nat.le_of_ble_eq_true rfl) rfl rfl (by decide) (e_X11_refuse hp) (fun rv_ M_ hq_ => ?_)
        obtain ⟨rfl, rfl⟩ := hq_
        exact E_ireturn (pc := 62) rfl rfl dX11_sheet_62 (QI_of h)
    · refine E_aload_n (pc := 35) rfl dX11_sheet_35 ?_
      refine E_bipush (pc := 36) (-4) (by decide) dX11_sheet_36 ?_
      obtain ⟨v14, s13, hp, h⟩ := bd2_some h
      refine E_callV (pc := 38) (As := [_]) (fc := (0, 0)) s11_80_11 oX11_refuse dX11_sheet_38 (mem_ob (ent_st SW0)) rfl rfl (Nat.le_of_ble_eq_true rfl) rfl rfl (by decide) (e_X11_refuse hp) (fun rv_ M_ hq_ => ?_)
      obtain ⟨rfl, rfl⟩ := hq_
      exact E_ireturn (pc := 41) rfl rfl dX11_sheet_41 (QI_of h)
  · refine E_aload_n (pc := 24) rfl dX11_sheet_24 ?_
    refine E_iload (pc := 25) rfl dX11_sheet_25 ?_
    obtain ⟨v16, s15, hp, h⟩ := bd2_some h
    refine E_callV (pc := 27) (As := [_]) (fc := (0, 0)) s11_80_11 oX11_refuse dX11_sheet_27 (mem_ob (ent_st SW0)) rfl rfl (Nat.le_of_ble_eq_true rfl) rfl rfl (by decide) (e_X11_refuse hp) (fun rv_ M_ hq_ => ?_)
    obtain ⟨rfl, rfl⟩ := hq_
    exact E_ireturn (pc := 30) rfl rfl dX11_sheet_30 (QI_of h)
noncomputable def f_X11_sheet (x1 : Int32) (x2 : Int32) (x3 : Int32) (x4 : Int32) (σ : ST) : Option (Int32 × ST) :=
    bd2 (f_X11_isMouth x4 σ) fun v2 s1 =>
    if v2 = 0 then
    (f_X11_sheet_17 x1 x2 x3 x4 (-1) s1)
    else (bd2 (f_X11_rowTrouble x1 s1) fun v18 s17 =>
    f_X11_sheet_17 x1 x2 x3 x4 v18 s17)
theorem e_X11_sheet {G : GP} {x1 : Int32} {x2 : Int32} {x3 : Int32} {x4 : Int32} {σ : ST} {v : Int32} {s : ST}  (h : f_X11_sheet x1 x2 x3 x4 σ = some (v, s)) : E G mX11_sheet (7, 180) 0 [.ref 0, .int x1, .int x2, .int x3, .int x4, D0, D0, D0] [] (mem σ) (QI v s) := by
  unfold f_X11_sheet at h
  refine E_iload (pc := 0) rfl dX11_sheet_0 ?_
  obtain ⟨v2, s1, hp, h⟩ := bd2_some h
  refine E_callS (pc := 2) (As := [_]) (fc := (0, 0)) s11_191 oX11_isMouth dX11_sheet_2 rfl rfl (Nat.le_of_ble_eq_true rfl) rfl rfl (by decide) (e_X11_isMouth hp) (fun rv_ M_ hq_ => ?_)
  obtain ⟨rfl, rfl⟩ := hq_
  refine T_if_eq (pc := 5) 16 dX11_sheet_5 (by decide) h (fun h => ?_) (fun h => ?_)
  · refine E_im1 (pc := 16) dX11_sheet_16 ?_
    refine e_X11_sheet_17  h
  · refine E_aload_n (pc := 8) rfl dX11_sheet_8 ?_
    refine E_iload_n (pc := 9) rfl dX11_sheet_9 ?_
    obtain ⟨v18, s17, hp, h⟩ := bd2_some h
    refine E_callV (pc := 10) (As := [_]) (fc := (1, 20)) s11_88_11 oX11_rowTrouble dX11_sheet_10 (mem_ob (ent_st SW0)) rfl rfl (Nat.le_of_ble_eq_true rfl) rfl rfl (by decide) (e_X11_rowTrouble hp) (fun rv_ M_ hq_ => ?_)
    obtain ⟨rfl, rfl⟩ := hq_
    refine E_goto (pc := 13) 17 (by decide) dX11_sheet_13 ?_
    refine e_X11_sheet_17  h
noncomputable def f_X11_by (x1 : Int32) (x2 : Int32) (σ : ST) : Option (Int32 × ST) :=
    bd2 (f_X10_pieceAt x1 σ) fun v2 s1 =>
    nl v2 (bd2 (f_X11_refuse (-1) s1) fun v5 s4 =>
    some (v5, s4)) fun q3 =>
    bd2 (f_X10_isPutBy x1 s1) fun v7 s6 =>
    if v7 = x2 then
    (some ((nI 0), s6))
    else ((pfI s6 2 3 ((s6.1 2 3) ^^^ ((nI 1) <<< (x1 &&& 31)))).bind fun s8 =>
    (pfZ s8 0 12 (nI 1)).bind fun s9 =>
    some ((nI 1), s9))
theorem e_X11_by {G : GP} {x1 : Int32} {x2 : Int32} {σ : ST} {v : Int32} {s : ST}  (h : f_X11_by x1 x2 σ = some (v, s)) : E G mX11_by (1, 22) 0 [.ref 0, .int x1, .int x2] [] (mem σ) (QI v s) := by
  unfold f_X11_by at h
  refine E_aload_n (pc := 0) rfl dX11_by_0 ?_
  refine R_getR (pc := 1) (b := 2) f11_18 dX11_by_1 (ent_st SW0) (by decide) rfl rfl ?_
  refine E_iload_n (pc := 4) rfl dX11_by_4 ?_
  obtain ⟨v2, s1, hp, h⟩ := bd2_some h
  refine E_callV (pc := 5) (As := [_]) (fc := (0, 0)) s11_126_10 oX10_pieceAt dX11_by_5 (mem_ob (ent_st WO2.1)) rfl rfl (Nat.le_of_ble_eq_true rfl) rfl rfl (by decide) (e_X10_pieceAt hp) (fun rv_ M_ hq_ => ?_)
  obtain ⟨rfl, rfl⟩ := hq_
  cases v2 with
  | none =>
    replace h := nl_none h
    refine E_ifnonnullN (pc := 8) dX11_by_8 ?_
    refine E_aload_n (pc := 11) rfl dX11_by_11 ?_
    refine E_im1 (pc := 12) dX11_by_12 ?_
    obtain ⟨v5, s4, hp, h⟩ := bd2_some h
    refine E_callV (pc := 13) (As := [_]) (fc := (0, 0)) s11_80_11 oX11_refuse dX11_by_13 (mem_ob (ent_st SW0)) rfl rfl (Nat.le_of_ble_eq_true rfl) rfl rfl (by decide) (e_X11_refuse hp) (fun rv_ M_ hq_ => ?_)
    obtain ⟨rfl, rfl⟩ := hq_
    exact E_ireturn (pc := 16) rfl rfl dX11_by_16 (QI_of h)
  | some q3 =>
    replace h := nl_some h
    refine E_ifnonnull (pc := 8) 17 (by decide) dX11_by_8 ?_
    refine E_aload_n (pc := 17) rfl dX11_by_17 ?_
    refine R_getR (pc := 18) (b := 2) f11_18 dX11_by_18 (ent_st SW0) (by decide) rfl rfl ?_
    refine E_iload_n (pc := 21) rfl dX11_by_21 ?_
    obtain ⟨v7, s6, hp, h⟩ := bd2_some h
    refine E_callV (pc := 22) (As := [_]) (fc := (0, 0)) s11_217_10 oX10_isPutBy dX11_by_22 (mem_ob (ent_st WO2.1)) rfl rfl (Nat.le_of_ble_eq_true rfl) rfl rfl (by decide) (e_X10_isPutBy hp) (fun rv_ M_ hq_ => ?_)
    obtain ⟨rfl, rfl⟩ := hq_
    refine E_iload_n (pc := 25) rfl dX11_by_25 ?_
    refine T_icmp_ne (pc := 26) 31 dX11_by_26 (by decide) h (fun h => ?_) (fun h => ?_)
    · refine E_aload_n (pc := 31) rfl dX11_by_31 ?_
      refine R_getR (pc := 32) (b := 2) f11_18 dX11_by_32 (ent_st SW0) (by decide) rfl rfl ?_
      refine E_dup (pc := 35) rfl dX11_by_35 ?_
      refine R_getI (pc := 36) f11_220 dX11_by_36 (ent_st WO2.1) (by decide) rfl ?_
      refine E_iconst (pc := 39) 1 rfl dX11_by_39 ?_
      refine E_iload_n (pc := 40) rfl dX11_by_40 ?_
      refine E_ishl (pc := 41) dX11_by_41 ?_
      refine E_ixor (pc := 42) dX11_by_42 ?_
      refine T_putI (pc := 43) f11_220 dX11_by_43 (ent_st WO2.1) (by decide) rfl (by decide +kernel) h (fun s8 h => ?_)
      refine E_aload_n (pc := 46) rfl dX11_by_46 ?_
      refine E_iconst (pc := 47) 1 rfl dX11_by_47 ?_
      refine T_putZ (pc := 48) f11_68 dX11_by_48 (ent_st SW0) (by decide) rfl (by decide +kernel) h (fun s9 h => ?_)
      refine E_iconst (pc := 51) 1 rfl dX11_by_51 ?_
      exact E_ireturn (pc := 52) rfl rfl dX11_by_52 (QI_of h)
    · refine E_iconst (pc := 29) 0 rfl dX11_by_29 ?_
      exact E_ireturn (pc := 30) rfl rfl dX11_by_30 (QI_of h)
noncomputable def f_X11_pieceOf (x1 : Int32) (x2 : Int32) (σ : ST) : Option (Int32 × ST) :=
    bd2 (f_X10_pieceAt x1 σ) fun v2 s1 =>
    nl v2 (bd2 (f_X11_refuse (-5) s1) fun v5 s4 =>
    some (v5, s4)) fun q3 =>
    if x2 = nI 0 then
    ((rdP [6, 4, 8, 9] s1 q3 1).bind fun v6 =>
    some (v6, s1))
    else if x2 = nI 1 then
    ((rdP [6, 4, 8, 9] s1 q3 2).bind fun v7 =>
    some (v7, s1))
    else if x2 = nI 2 then
    ((rdP [6, 4, 8, 9] s1 q3 3).bind fun v8 =>
    some (v8, s1))
    else if x2 = nI 3 then
    ((rdP [6, 4, 8, 9] s1 q3 4).bind fun v9 =>
    some (v9, s1))
    else if x2 = nI 4 then
    ((rdP [6, 4, 8, 9] s1 q3 5).bind fun v10 =>
    some (v10, s1))
    else if x2 = nI 5 then
    ((rdP [6, 4, 8, 9] s1 q3 6).bind fun v11 =>
    some (v11, s1))
    else if x2 = nI 6 then
    (bd2 (f_X10_isPutBy x1 s1) fun v13 s12 =>
    if v13 = 0 then
    (some ((nI 0), s12))
    else (some ((nI 1), s12)))
    else (bd2 (f_X11_refuse (-5) s1) fun v15 s14 =>
    some (v15, s14))
theorem e_X11_pieceOf {G : GP} {x1 : Int32} {x2 : Int32} {σ : ST} {v : Int32} {s : ST}  (h : f_X11_pieceOf x1 x2 σ = some (v, s)) : E G mX11_pieceOf (1, 22) 0 [.ref 0, .int x1, .int x2, D0] [] (mem σ) (QI v s) := by
  unfold f_X11_pieceOf at h
  refine E_aload_n (pc := 0) rfl dX11_pieceOf_0 ?_
  refine R_getR (pc := 1) (b := 2) f11_18 dX11_pieceOf_1 (ent_st SW0) (by decide) rfl rfl ?_
  refine E_iload_n (pc := 4) rfl dX11_pieceOf_4 ?_
  obtain ⟨v2, s1, hp, h⟩ := bd2_some h
  refine E_callV (pc := 5) (As := [_]) (fc := (0, 0)) s11_126_10 oX10_pieceAt dX11_pieceOf_5 (mem_ob (ent_st WO2.1)) rfl rfl (Nat.le_of_ble_eq_true rfl) rfl rfl (by decide) (e_X10_pieceAt hp) (fun rv_ M_ hq_ => ?_)
  obtain ⟨rfl, rfl⟩ := hq_
  refine T_astore_nQ (pc := 8) (L2 := [_, _, _, _]) rfl rfl dX11_pieceOf_8 ?_
  refine T_aload_nQ (pc := 9) rfl dX11_pieceOf_9 ?_
  cases v2 with
  | none =>
    replace h := nl_none h
    refine E_ifnonnullN (pc := 10) dX11_pieceOf_10 ?_
    refine E_aload_n (pc := 13) rfl dX11_pieceOf_13 ?_
    refine E_bipush (pc := 14) (-5) (by decide) dX11_pieceOf_14 ?_
    obtain ⟨v5, s4, hp, h⟩ := bd2_some h
    refine E_callV (pc := 16) (As := [_]) (fc := (0, 0)) s11_80_11 oX11_refuse dX11_pieceOf_16 (mem_ob (ent_st SW0)) rfl rfl (Nat.le_of_ble_eq_true rfl) rfl rfl (by decide) (e_X11_refuse hp) (fun rv_ M_ hq_ => ?_)
    obtain ⟨rfl, rfl⟩ := hq_
    exact E_ireturn (pc := 19) rfl rfl dX11_pieceOf_19 (QI_of h)
  | some q3 =>
    replace h := nl_some h
    refine E_ifnonnull (pc := 10) 20 (by decide) dX11_pieceOf_10 ?_
    refine E_iload_n (pc := 20) rfl dX11_pieceOf_20 ?_
    refine T_tbl (pc := 21) (m := 0) 64 (by omega) (by decide) (by decide) dX11_pieceOf_21 rfl (by decide) h (fun h => ?_) (fun u21_0 h => ?_)
    · refine E_aload_n (pc := 64) rfl dX11_pieceOf_64 ?_
      refine T_getP (pc := 65) f11_223 dX11_pieceOf_65 (by decide) h (fun v6 h => ?_)
      exact E_ireturn (pc := 68) rfl rfl dX11_pieceOf_68 (QI_of h)
    refine T_tbl (pc := 21) (m := 1) 69 (by omega) (by decide) (by decide) dX11_pieceOf_21 rfl (by decide) h (fun h => ?_) (fun u21_1 h => ?_)
    · refine E_aload_n (pc := 69) rfl dX11_pieceOf_69 ?_
      refine T_getP (pc := 70) f11_226 dX11_pieceOf_70 (by decide) h (fun v7 h => ?_)
      exact E_ireturn (pc := 73) rfl rfl dX11_pieceOf_73 (QI_of h)
    refine T_tbl (pc := 21) (m := 2) 74 (by omega) (by decide) (by decide) dX11_pieceOf_21 rfl (by decide) h (fun h => ?_) (fun u21_2 h => ?_)
    · refine E_aload_n (pc := 74) rfl dX11_pieceOf_74 ?_
      refine T_getP (pc := 75) f11_229 dX11_pieceOf_75 (by decide) h (fun v8 h => ?_)
      exact E_ireturn (pc := 78) rfl rfl dX11_pieceOf_78 (QI_of h)
    refine T_tbl (pc := 21) (m := 3) 79 (by omega) (by decide) (by decide) dX11_pieceOf_21 rfl (by decide) h (fun h => ?_) (fun u21_3 h => ?_)
    · refine E_aload_n (pc := 79) rfl dX11_pieceOf_79 ?_
      refine T_getP (pc := 80) f11_147 dX11_pieceOf_80 (by decide) h (fun v9 h => ?_)
      exact E_ireturn (pc := 83) rfl rfl dX11_pieceOf_83 (QI_of h)
    refine T_tbl (pc := 21) (m := 4) 84 (by omega) (by decide) (by decide) dX11_pieceOf_21 rfl (by decide) h (fun h => ?_) (fun u21_4 h => ?_)
    · refine E_aload_n (pc := 84) rfl dX11_pieceOf_84 ?_
      refine T_getP (pc := 85) f11_144 dX11_pieceOf_85 (by decide) h (fun v10 h => ?_)
      exact E_ireturn (pc := 88) rfl rfl dX11_pieceOf_88 (QI_of h)
    refine T_tbl (pc := 21) (m := 5) 89 (by omega) (by decide) (by decide) dX11_pieceOf_21 rfl (by decide) h (fun h => ?_) (fun u21_5 h => ?_)
    · refine E_aload_n (pc := 89) rfl dX11_pieceOf_89 ?_
      refine T_getP (pc := 90) f11_141 dX11_pieceOf_90 (by decide) h (fun v11 h => ?_)
      exact E_ireturn (pc := 93) rfl rfl dX11_pieceOf_93 (QI_of h)
    refine T_tbl (pc := 21) (m := 6) 94 (by omega) (by decide) (by decide) dX11_pieceOf_21 rfl (by decide) h (fun h => ?_) (fun u21_6 h => ?_)
    · refine E_aload_n (pc := 94) rfl dX11_pieceOf_94 ?_
      refine R_getR (pc := 95) (b := 2) f11_18 dX11_pieceOf_95 (ent_st SW0) (by decide) rfl rfl ?_
      refine E_iload_n (pc := 98) rfl dX11_pieceOf_98 ?_
      obtain ⟨v13, s12, hp, h⟩ := bd2_some h
      refine E_callV (pc := 99) (As := [_]) (fc := (0, 0)) s11_217_10 oX10_isPutBy dX11_pieceOf_99 (mem_ob (ent_st WO2.1)) rfl rfl (Nat.le_of_ble_eq_true rfl) rfl rfl (by decide) (e_X10_isPutBy hp) (fun rv_ M_ hq_ => ?_)
      obtain ⟨rfl, rfl⟩ := hq_
      refine T_if_eq (pc := 102) 109 dX11_pieceOf_102 (by decide) h (fun h => ?_) (fun h => ?_)
      · refine E_iconst (pc := 109) 0 rfl dX11_pieceOf_109 ?_
        exact E_ireturn (pc := 110) rfl rfl dX11_pieceOf_110 (QI_of h)
      · refine E_iconst (pc := 105) 1 rfl dX11_pieceOf_105 ?_
        refine E_goto (pc := 106) 110 (by decide) dX11_pieceOf_106 ?_
        exact E_ireturn (pc := 110) rfl rfl dX11_pieceOf_110 (QI_of h)
    refine E_tblOut (pc := 21) 111 (by omega) (by decide) dX11_pieceOf_21 ?_
    refine E_aload_n (pc := 111) rfl dX11_pieceOf_111 ?_
    refine E_bipush (pc := 112) (-5) (by decide) dX11_pieceOf_112 ?_
    obtain ⟨v15, s14, hp, h⟩ := bd2_some h
    refine E_callV (pc := 114) (As := [_]) (fc := (0, 0)) s11_80_11 oX11_refuse dX11_pieceOf_114 (mem_ob (ent_st SW0)) rfl rfl (Nat.le_of_ble_eq_true rfl) rfl rfl (by decide) (e_X11_refuse hp) (fun rv_ M_ hq_ => ?_)
    obtain ⟨rfl, rfl⟩ := hq_
    exact E_ireturn (pc := 117) rfl rfl dX11_pieceOf_117 (QI_of h)
noncomputable def f_X11_freshenTruth (σ : ST) : Option ST :=
    if (σ.1 0 11) = 0 then
    (some σ)
    else ((pfZ σ 0 11 (nI 0)).bind fun s1 =>
    (f_X10_fillTables 195 1024 196 7168 s1).bind fun s2 =>
    some s2)
theorem e_X11_freshenTruth {G : GP} {σ : ST} {s : ST}  (h : f_X11_freshenTruth σ = some s) : E G mX11_freshenTruth (4, 107) 0 [.ref 0] [] (mem σ) (QV s) := by
  unfold f_X11_freshenTruth at h
  refine E_aload_n (pc := 0) rfl dX11_freshenTruth_0 ?_
  refine R_getI (pc := 1) f11_65 dX11_freshenTruth_1 (ent_st SW0) (by decide) rfl ?_
  refine T_if_eq (pc := 4) 27 dX11_freshenTruth_4 (by decide) h (fun h => ?_) (fun h => ?_)
  · exact E_return (pc := 27) rfl dX11_freshenTruth_27 (QV_of h)
  · refine E_aload_n (pc := 7) rfl dX11_freshenTruth_7 ?_
    refine E_iconst (pc := 8) 0 rfl dX11_freshenTruth_8 ?_
    refine T_putZ (pc := 9) f11_65 dX11_freshenTruth_9 (ent_st SW0) (by decide) rfl (by decide +kernel) h (fun s1 h => ?_)
    refine E_aload_n (pc := 12) rfl dX11_freshenTruth_12 ?_
    refine R_getR (pc := 13) (b := 2) f11_18 dX11_freshenTruth_13 (ent_st SW0) (by decide) rfl rfl ?_
    refine E_aload_n (pc := 16) rfl dX11_freshenTruth_16 ?_
    refine R_getR (pc := 17) (b := 195) f11_34 dX11_freshenTruth_17 (ent_st SW0) (by decide) rfl rfl ?_
    refine E_aload_n (pc := 20) rfl dX11_freshenTruth_20 ?_
    refine R_getR (pc := 21) (b := 196) f11_38 dX11_freshenTruth_21 (ent_st SW0) (by decide) rfl rfl ?_
    obtain ⟨s2, hp, h⟩ := bd_some h
    refine E_callV (pc := 24) (As := [_, _]) (fc := (3, 75)) s11_339_10 oX10_fillTables dX11_freshenTruth_24 (mem_ob (ent_st WO2.1)) rfl rfl (Nat.le_of_ble_eq_true rfl) rfl rfl (by decide) (e_X10_fillTables ⟨TR195, (by decide)⟩ ⟨NX196, (by decide)⟩ hp) (fun rv_ M_ hq_ => ?_)
    obtain ⟨rfl, rfl⟩ := hq_
    exact E_return (pc := 27) rfl dX11_freshenTruth_27 (QV_of h)
noncomputable def f_X11_current (σ : ST) : Option ST :=
    (f_X11_freshenTruth σ).bind fun s1 =>
    if (s1.1 0 12) = 0 then
    (some s1)
    else ((pfZ s1 0 12 (nI 0)).bind fun s2 =>
    bd2 (f_X10_inForce s2) fun v4 s3 =>
    bd2 (f_X2_find 197 v4 (-1) (-1) s3) fun v6 s5 =>
    if v6 = 0 then
    (some s5)
    else ((f_X2_keepBest 197 (nI 0) s5).bind fun s7 =>
    some s7))
theorem e_X11_current {G : GP} {σ : ST} {s : ST}  (h : f_X11_current σ = some s) : E G mX11_current (5, 135) 0 [.ref 0] [] (mem σ) (QA 197 s) := by
  unfold f_X11_current at h
  refine E_aload_n (pc := 0) rfl dX11_current_0 ?_
  obtain ⟨s1, hp, h⟩ := bd_some h
  refine E_callV (pc := 1) (As := []) (fc := (4, 107)) s11_333_11 oX11_freshenTruth dX11_current_1 (mem_ob (ent_st SW0)) rfl rfl (Nat.le_of_ble_eq_true rfl) rfl rfl (by decide) (e_X11_freshenTruth hp) (fun rv_ M_ hq_ => ?_)
  obtain ⟨rfl, rfl⟩ := hq_
  refine E_aload_n (pc := 4) rfl dX11_current_4 ?_
  refine R_getI (pc := 5) f11_68 dX11_current_5 (ent_st SW0) (by decide) rfl ?_
  refine T_if_eq (pc := 8) 43 dX11_current_8 (by decide) h (fun h => ?_) (fun h => ?_)
  · refine E_aload_n (pc := 43) rfl dX11_current_43 ?_
    refine R_getR (pc := 44) (b := 197) f11_46 dX11_current_44 (ent_st SW0) (by decide) rfl rfl ?_
    exact E_areturn (pc := 47) rfl dX11_current_47 (QA_of h)
  · refine E_aload_n (pc := 11) rfl dX11_current_11 ?_
    refine E_iconst (pc := 12) 0 rfl dX11_current_12 ?_
    refine T_putZ (pc := 13) f11_68 dX11_current_13 (ent_st SW0) (by decide) rfl (by decide +kernel) h (fun s2 h => ?_)
    refine E_aload_n (pc := 16) rfl dX11_current_16 ?_
    refine R_getR (pc := 17) (b := 197) f11_46 dX11_current_17 (ent_st SW0) (by decide) rfl rfl ?_
    refine E_aload_n (pc := 20) rfl dX11_current_20 ?_
    refine R_getR (pc := 21) (b := 2) f11_18 dX11_current_21 (ent_st SW0) (by decide) rfl rfl ?_
    obtain ⟨v4, s3, hp, h⟩ := bd2_some h
    refine E_callV (pc := 24) (As := []) (fc := (0, 0)) s11_256_10 oX10_inForce dX11_current_24 (mem_ob (ent_st WO2.1)) rfl rfl (Nat.le_of_ble_eq_true rfl) rfl rfl (by decide) (e_X10_inForce hp) (fun rv_ M_ hq_ => ?_)
    obtain ⟨rfl, rfl⟩ := hq_
    refine E_im1 (pc := 27) dX11_current_27 ?_
    refine E_im1 (pc := 28) dX11_current_28 ?_
    obtain ⟨v6, s5, hp, h⟩ := bd2_some h
    refine E_callV (pc := 29) (As := [_, _, _]) (fc := (4, 110)) s11_267_2 oX2_find dX11_current_29 (mem_ob (ent_st CU197.1)) rfl rfl (Nat.le_of_ble_eq_true rfl) rfl rfl (by decide) (e_X2_find CU197 hp) (fun rv_ M_ hq_ => ?_)
    obtain ⟨rfl, rfl⟩ := hq_
    refine T_if_eq (pc := 32) 43 dX11_current_32 (by decide) h (fun h => ?_) (fun h => ?_)
    · refine E_aload_n (pc := 43) rfl dX11_current_43 ?_
      refine R_getR (pc := 44) (b := 197) f11_46 dX11_current_44 (ent_st SW0) (by decide) rfl rfl ?_
      exact E_areturn (pc := 47) rfl dX11_current_47 (QA_of h)
    · refine E_aload_n (pc := 35) rfl dX11_current_35 ?_
      refine R_getR (pc := 36) (b := 197) f11_46 dX11_current_36 (ent_st SW0) (by decide) rfl rfl ?_
      refine E_iconst (pc := 39) 0 rfl dX11_current_39 ?_
      obtain ⟨s7, hp, h⟩ := bd_some h
      refine E_callV (pc := 40) (As := [_]) (fc := (4, 110)) s11_336_2 oX2_keepBest dX11_current_40 (mem_ob (ent_st CU197.1)) rfl rfl (Nat.le_of_ble_eq_true rfl) rfl rfl (by decide) (e_X2_keepBest CU197 hp) (fun rv_ M_ hq_ => ?_)
      obtain ⟨rfl, rfl⟩ := hq_
      refine E_aload_n (pc := 43) rfl dX11_current_43 ?_
      refine R_getR (pc := 44) (b := 197) f11_46 dX11_current_44 (ent_st SW0) (by decide) rfl rfl ?_
      exact E_areturn (pc := 47) rfl dX11_current_47 (QA_of h)
noncomputable def f_X11_least (σ : ST) : Option (Int32 × ST) :=
    (f_X11_current σ).bind fun s1 =>
    some ((s1.1 197 12), s1)
theorem e_X11_least {G : GP} {σ : ST} {v : Int32} {s : ST}  (h : f_X11_least σ = some (v, s)) : E G mX11_least (6, 155) 0 [.ref 0] [] (mem σ) (QI v s) := by
  unfold f_X11_least at h
  refine E_aload_n (pc := 0) rfl dX11_least_0 ?_
  obtain ⟨s1, hp, h⟩ := bd_some h
  refine E_callV (pc := 1) (As := []) (fc := (5, 135)) s11_232_11 oX11_current dX11_least_1 (mem_ob (ent_st SW0)) rfl rfl (Nat.le_of_ble_eq_true rfl) rfl rfl (by decide) (e_X11_current hp) (fun rv_ M_ hq_ => ?_)
  obtain ⟨rfl, rfl⟩ := hq_
  refine R_getI (pc := 4) f11_236 dX11_least_4 (ent_st CU197.1) (by decide) rfl ?_
  exact E_ireturn (pc := 7) rfl rfl dX11_least_7 (QI_of h)
noncomputable def f_X11_courses (σ : ST) : Option (Int64 × ST) :=
    (f_X11_current σ).bind fun s1 =>
    some ((s1.2.1 197 13), s1)
theorem e_X11_courses {G : GP} {σ : ST} {v : Int64} {s : ST}  (h : f_X11_courses σ = some (v, s)) : E G mX11_courses (6, 155) 0 [.ref 0] [] (mem σ) (QJ v s) := by
  unfold f_X11_courses at h
  refine E_aload_n (pc := 0) rfl dX11_courses_0 ?_
  obtain ⟨s1, hp, h⟩ := bd_some h
  refine E_callV (pc := 1) (As := []) (fc := (5, 135)) s11_232_11 oX11_current dX11_courses_1 (mem_ob (ent_st SW0)) rfl rfl (Nat.le_of_ble_eq_true rfl) rfl rfl (by decide) (e_X11_current hp) (fun rv_ M_ hq_ => ?_)
  obtain ⟨rfl, rfl⟩ := hq_
  refine R_getJ (pc := 4) f11_239 dX11_courses_4 (ent_st CU197.1) (by decide) rfl ?_
  exact E_lreturn (pc := 7) rfl dX11_courses_7 (QJ_of h)
noncomputable def f_X11_is (x1 : Int32) (x2 : Int32) (σ : ST) : Option (Int32 × ST) :=
    bd2 (f_X11_isThing x1 σ) fun v2 s1 =>
    if v2 = 0 then
    (some ((-1), s1))
    else (bd2 (f_X11_isHour x2 s1) fun v4 s3 =>
    if v4 = 0 then
    (some ((-1), s3))
    else ((f_X11_current s3).bind fun s5 =>
    bd2 (f_X2_soOf 197 x1 x2 s5) fun v7 s6 =>
    some (v7, s6)))
theorem e_X11_is {G : GP} {x1 : Int32} {x2 : Int32} {σ : ST} {v : Int32} {s : ST}  (h : f_X11_is x1 x2 σ = some (v, s)) : E G mX11_is (6, 155) 0 [.ref 0, .int x1, .int x2] [] (mem σ) (QI v s) := by
  unfold f_X11_is at h
  refine E_aload_n (pc := 0) rfl dX11_is_0 ?_
  refine E_iload_n (pc := 1) rfl dX11_is_1 ?_
  obtain ⟨v2, s1, hp, h⟩ := bd2_some h
  refine E_callV (pc := 2) (As := [_]) (fc := (0, 0)) s11_207_11 oX11_isThing dX11_is_2 (mem_ob (ent_st SW0)) rfl rfl (Nat.le_of_ble_eq_true rfl) rfl rfl (by decide) (e_X11_isThing hp) (fun rv_ M_ hq_ => ?_)
  obtain ⟨rfl, rfl⟩ := hq_
  refine T_if_eq (pc := 5) 27 dX11_is_5 (by decide) h (fun h => ?_) (fun h => ?_)
  · refine E_im1 (pc := 27) dX11_is_27 ?_
    exact E_ireturn (pc := 28) rfl rfl dX11_is_28 (QI_of h)
  · refine E_iload_n (pc := 8) rfl dX11_is_8 ?_
    obtain ⟨v4, s3, hp, h⟩ := bd2_some h
    refine E_callS (pc := 9) (As := [_]) (fc := (0, 0)) s11_197 oX11_isHour dX11_is_9 rfl rfl (Nat.le_of_ble_eq_true rfl) rfl rfl (by decide) (e_X11_isHour hp) (fun rv_ M_ hq_ => ?_)
    obtain ⟨rfl, rfl⟩ := hq_
    refine T_if_eq (pc := 12) 27 dX11_is_12 (by decide) h (fun h => ?_) (fun h => ?_)
    · refine E_im1 (pc := 27) dX11_is_27 ?_
      exact E_ireturn (pc := 28) rfl rfl dX11_is_28 (QI_of h)
    · refine E_aload_n (pc := 15) rfl dX11_is_15 ?_
      obtain ⟨s5, hp, h⟩ := bd_some h
      refine E_callV (pc := 16) (As := []) (fc := (5, 135)) s11_232_11 oX11_current dX11_is_16 (mem_ob (ent_st SW0)) rfl rfl (Nat.le_of_ble_eq_true rfl) rfl rfl (by decide) (e_X11_current hp) (fun rv_ M_ hq_ => ?_)
      obtain ⟨rfl, rfl⟩ := hq_
      refine E_iload_n (pc := 19) rfl dX11_is_19 ?_
      refine E_iload_n (pc := 20) rfl dX11_is_20 ?_
      obtain ⟨v7, s6, hp, h⟩ := bd2_some h
      refine E_callV (pc := 21) (As := [_, _]) (fc := (1, 22)) s11_243_2 oX2_soOf dX11_is_21 (mem_ob (ent_st CU197.1)) rfl rfl (Nat.le_of_ble_eq_true rfl) rfl rfl (by decide) (e_X2_soOf CU197 hp) (fun rv_ M_ hq_ => ?_)
      obtain ⟨rfl, rfl⟩ := hq_
      refine E_goto (pc := 24) 28 (by decide) dX11_is_24 ?_
      exact E_ireturn (pc := 28) rfl rfl dX11_is_28 (QI_of h)
noncomputable def f_X11_joined_8 : Nat → Int32 → Int32 → Int32 → Int32 → Int32 → ST → Option (Int32 × ST)
  | 0, _, _, _, _, _, _ => none
  | n + 1, x0, x1, x2, x3, x4, sg =>
    if x4 < 0 then
    (some (((x1 * x2) + x3), sg))
    else (if ((x0 >>> (x4 &&& 31)) &&& (nI 1)) = 0 then
    ((f_X11_joined_8 n) x0 x1 x2 x3 (x4 + (-1)) sg)
    else ((f_X11_joined_8 n) x0 x1 (if x2 < x4 then x4 else x2) x4 (x4 + (-1)) sg))
theorem e_X11_joined_8 {G : GP} {v : Int32} {s : ST}  : ∀ (n : Nat) {x0 : Int32} {x1 : Int32} {x2 : Int32} {x3 : Int32} {x4 : Int32} {sg : ST}, f_X11_joined_8 n x0 x1 x2 x3 x4 sg = some (v, s) → E G mX11_joined (1, 24) 8 [.int x0, .int x1, .int x2, .int x3, .int x4] [] (mem sg) (QI v s) := by
  intro n
  induction n with
  | zero => intro _ _ _ _ _ _ h; rw [f_X11_joined_8] at h; cases h
  | succ n ih =>
    intro x0 x1 x2 x3 x4 sg h
    rw [f_X11_joined_8] at h
    refine E_iload (pc := 8) rfl dX11_joined_8 ?_
    refine T_if_lt (pc := 10) 38 dX11_joined_10 (by decide) h (fun h => ?_) (fun h => ?_)
    · refine E_iload_n (pc := 38) rfl dX11_joined_38 ?_
      refine E_iload_n (pc := 39) rfl dX11_joined_39 ?_
      refine E_imul (pc := 40) dX11_joined_40 ?_
      refine E_iload_n (pc := 41) rfl dX11_joined_41 ?_
      refine E_iadd (pc := 42) dX11_joined_42 ?_
      exact E_ireturn (pc := 43) rfl rfl dX11_joined_43 (QI_of h)
    · refine E_iload_n (pc := 13) rfl dX11_joined_13 ?_
      refine E_iload (pc := 14) rfl dX11_joined_14 ?_
      refine E_ishr (pc := 16) dX11_joined_16 ?_
      refine E_iconst (pc := 17) 1 rfl dX11_joined_17 ?_
      refine E_iand (pc := 18) dX11_joined_18 ?_
      refine T_if_eq (pc := 19) 32 dX11_joined_19 (by decide) h (fun h => ?_) (fun h => ?_)
      · refine T_idec (pc := 32) (L2 := [_, _, _, _, _]) rfl rfl rfl dX11_joined_32 ?_
        refine E_goto (pc := 35) 8 (by decide) dX11_joined_35 ?_
        exact ih h
      · refine E_iload_n (pc := 22) rfl dX11_joined_22 ?_
        refine E_iload (pc := 23) rfl dX11_joined_23 ?_
        refine E_mmax (pc := 25) (by decide +kernel) (by decide) (Nat.le_of_ble_eq_true rfl) dX11_joined_25 ?_
        refine E_istore_n (pc := 28) (L2 := [_, _, _, _, _]) rfl rfl dX11_joined_28 ?_
        refine E_iload (pc := 29) rfl dX11_joined_29 ?_
        refine E_istore_n (pc := 31) (L2 := [_, _, _, _, _]) rfl rfl dX11_joined_31 ?_
        refine T_idec (pc := 32) (L2 := [_, _, _, _, _]) rfl rfl rfl dX11_joined_32 ?_
        refine E_goto (pc := 35) 8 (by decide) dX11_joined_35 ?_
        exact ih h
noncomputable def f_X11_joined (x0 : Int32) (x1 : Int32) (σ : ST) : Option (Int32 × ST) :=
    f_X11_joined_8 FU x0 x1 (nI 0) (nI 0) (nI 12) σ
theorem e_X11_joined {G : GP} {x0 : Int32} {x1 : Int32} {σ : ST} {v : Int32} {s : ST}  (h : f_X11_joined x0 x1 σ = some (v, s)) : E G mX11_joined (1, 24) 0 [.int x0, .int x1, D0, D0, D0] [] (mem σ) (QI v s) := by
  unfold f_X11_joined at h
  refine E_iconst (pc := 0) 0 rfl dX11_joined_0 ?_
  refine E_istore_n (pc := 1) (L2 := [_, _, _, _, _]) rfl rfl dX11_joined_1 ?_
  refine E_iconst (pc := 2) 0 rfl dX11_joined_2 ?_
  refine E_istore_n (pc := 3) (L2 := [_, _, _, _, _]) rfl rfl dX11_joined_3 ?_
  refine E_bipush (pc := 4) (nI 12) (by decide) dX11_joined_4 ?_
  refine E_istore (pc := 6) (L2 := [_, _, _, _, _]) rfl rfl dX11_joined_6 ?_
  refine e_X11_joined_8  FU h
noncomputable def f_X11_value (x1 : Int32) (x2 : Int32) (σ : ST) : Option (Int32 × ST) :=
    bd2 (f_X11_isRunning x1 σ) fun v2 s1 =>
    if v2 = 0 then
    (some ((-1), s1))
    else (bd2 (f_X11_isHour x2 s1) fun v4 s3 =>
    if v4 = 0 then
    (some ((-1), s3))
    else ((f_X11_current s3).bind fun s5 =>
    if (s5.1 197 12) = (-1) then
    (some ((-1), s5))
    else ((rdI s5 204 12 x2).bind fun v6 =>
    bd2 (f_X11_joined v6 (nI 10) s5) fun v8 s7 =>
    some (v8, s7))))
theorem e_X11_value {G : GP} {x1 : Int32} {x2 : Int32} {σ : ST} {v : Int32} {s : ST}  (h : f_X11_value x1 x2 σ = some (v, s)) : E G mX11_value (6, 155) 0 [.ref 0, .int x1, .int x2, D0] [] (mem σ) (QI v s) := by
  unfold f_X11_value at h
  refine E_aload_n (pc := 0) rfl dX11_value_0 ?_
  refine E_iload_n (pc := 1) rfl dX11_value_1 ?_
  obtain ⟨v2, s1, hp, h⟩ := bd2_some h
  refine E_callV (pc := 2) (As := [_]) (fc := (1, 21)) s11_247_11 oX11_isRunning dX11_value_2 (mem_ob (ent_st SW0)) rfl rfl (Nat.le_of_ble_eq_true rfl) rfl rfl (by decide) (e_X11_isRunning hp) (fun rv_ M_ hq_ => ?_)
  obtain ⟨rfl, rfl⟩ := hq_
  refine T_if_eq (pc := 5) 15 dX11_value_5 (by decide) h (fun h => ?_) (fun h => ?_)
  · refine E_im1 (pc := 15) dX11_value_15 ?_
    exact E_ireturn (pc := 16) rfl rfl dX11_value_16 (QI_of h)
  · refine E_iload_n (pc := 8) rfl dX11_value_8 ?_
    obtain ⟨v4, s3, hp, h⟩ := bd2_some h
    refine E_callS (pc := 9) (As := [_]) (fc := (0, 0)) s11_197 oX11_isHour dX11_value_9 rfl rfl (Nat.le_of_ble_eq_true rfl) rfl rfl (by decide) (e_X11_isHour hp) (fun rv_ M_ hq_ => ?_)
    obtain ⟨rfl, rfl⟩ := hq_
    refine T_if_ne (pc := 12) 17 dX11_value_12 (by decide) h (fun h => ?_) (fun h => ?_)
    · refine E_aload_n (pc := 17) rfl dX11_value_17 ?_
      obtain ⟨s5, hp, h⟩ := bd_some h
      refine E_callV (pc := 18) (As := []) (fc := (5, 135)) s11_232_11 oX11_current dX11_value_18 (mem_ob (ent_st SW0)) rfl rfl (Nat.le_of_ble_eq_true rfl) rfl rfl (by decide) (e_X11_current hp) (fun rv_ M_ hq_ => ?_)
      obtain ⟨rfl, rfl⟩ := hq_
      refine E_astore_n (pc := 21) (L2 := [_, _, _, _]) rfl rfl dX11_value_21 ?_
      refine E_aload_n (pc := 22) rfl dX11_value_22 ?_
      refine R_getI (pc := 23) f11_236 dX11_value_23 (ent_st CU197.1) (by decide) rfl ?_
      refine E_im1 (pc := 26) dX11_value_26 ?_
      refine T_icmp_ne (pc := 27) 34 dX11_value_27 (by decide) h (fun h => ?_) (fun h => ?_)
      · refine E_aload_n (pc := 34) rfl dX11_value_34 ?_
        refine R_getR (pc := 35) (b := 204) f11_250 dX11_value_35 (ent_st CU197.1) (by decide) rfl rfl ?_
        refine E_iload_n (pc := 38) rfl dX11_value_38 ?_
        refine T_iald (pc := 39) dX11_value_39 (ent_st CU197.2.2.2.2.2.2.2.1) (by decide) h (fun v6 h => ?_)
        refine E_bipush (pc := 40) (nI 10) (by decide) dX11_value_40 ?_
        obtain ⟨v8, s7, hp, h⟩ := bd2_some h
        refine E_callS (pc := 42) (As := [_, _]) (fc := (1, 24)) s11_253 oX11_joined dX11_value_42 rfl rfl (Nat.le_of_ble_eq_true rfl) rfl rfl (by decide) (e_X11_joined hp) (fun rv_ M_ hq_ => ?_)
        obtain ⟨rfl, rfl⟩ := hq_
        exact E_ireturn (pc := 45) rfl rfl dX11_value_45 (QI_of h)
      · refine E_im1 (pc := 30) dX11_value_30 ?_
        refine E_goto (pc := 31) 45 (by decide) dX11_value_31 ?_
        exact E_ireturn (pc := 45) rfl rfl dX11_value_45 (QI_of h)
    · refine E_im1 (pc := 15) dX11_value_15 ?_
      exact E_ireturn (pc := 16) rfl rfl dX11_value_16 (QI_of h)
noncomputable def f_X11_seems (x1 : Int32) (x2 : Int32) (x3 : Int32) (σ : ST) : Option (Int32 × ST) :=
    (f_X11_freshenTruth σ).bind fun s1 =>
    bd2 (f_X2_find 213 x1 (-1) (-1) s1) fun v3 s2 =>
    if v3 = 0 then
    (some ((-1), s2))
    else ((f_X2_keepBest 213 x3 s2).bind fun s4 =>
    bd2 (f_X2_soOf 213 x2 x3 s4) fun v6 s5 =>
    some (v6, s5))
theorem e_X11_seems {G : GP} {x1 : Int32} {x2 : Int32} {x3 : Int32} {σ : ST} {v : Int32} {s : ST}  (h : f_X11_seems x1 x2 x3 σ = some (v, s)) : E G mX11_seems (5, 135) 0 [.ref 0, .int x1, .int x2, .int x3] [] (mem σ) (QI v s) := by
  unfold f_X11_seems at h
  refine E_aload_n (pc := 0) rfl dX11_seems_0 ?_
  obtain ⟨s1, hp, h⟩ := bd_some h
  refine E_callV (pc := 1) (As := []) (fc := (4, 107)) s11_333_11 oX11_freshenTruth dX11_seems_1 (mem_ob (ent_st SW0)) rfl rfl (Nat.le_of_ble_eq_true rfl) rfl rfl (by decide) (e_X11_freshenTruth hp) (fun rv_ M_ hq_ => ?_)
  obtain ⟨rfl, rfl⟩ := hq_
  refine E_aload_n (pc := 4) rfl dX11_seems_4 ?_
  refine R_getR (pc := 5) (b := 213) f11_50 dX11_seems_5 (ent_st SW0) (by decide) rfl rfl ?_
  refine E_iload_n (pc := 8) rfl dX11_seems_8 ?_
  refine E_im1 (pc := 9) dX11_seems_9 ?_
  refine E_im1 (pc := 10) dX11_seems_10 ?_
  obtain ⟨v3, s2, hp, h⟩ := bd2_some h
  refine E_callV (pc := 11) (As := [_, _, _]) (fc := (4, 110)) s11_267_2 oX2_find dX11_seems_11 (mem_ob (ent_st CU213.1)) rfl rfl (Nat.le_of_ble_eq_true rfl) rfl rfl (by decide) (e_X2_find CU213 hp) (fun rv_ M_ hq_ => ?_)
  obtain ⟨rfl, rfl⟩ := hq_
  refine T_if_ne (pc := 14) 19 dX11_seems_14 (by decide) h (fun h => ?_) (fun h => ?_)
  · refine E_aload_n (pc := 19) rfl dX11_seems_19 ?_
    refine R_getR (pc := 20) (b := 213) f11_50 dX11_seems_20 (ent_st SW0) (by decide) rfl rfl ?_
    refine E_iload_n (pc := 23) rfl dX11_seems_23 ?_
    obtain ⟨s4, hp, h⟩ := bd_some h
    refine E_callV (pc := 24) (As := [_]) (fc := (4, 110)) s11_336_2 oX2_keepBest dX11_seems_24 (mem_ob (ent_st CU213.1)) rfl rfl (Nat.le_of_ble_eq_true rfl) rfl rfl (by decide) (e_X2_keepBest CU213 hp) (fun rv_ M_ hq_ => ?_)
    obtain ⟨rfl, rfl⟩ := hq_
    refine E_aload_n (pc := 27) rfl dX11_seems_27 ?_
    refine R_getR (pc := 28) (b := 213) f11_50 dX11_seems_28 (ent_st SW0) (by decide) rfl rfl ?_
    refine E_iload_n (pc := 31) rfl dX11_seems_31 ?_
    refine E_iload_n (pc := 32) rfl dX11_seems_32 ?_
    obtain ⟨v6, s5, hp, h⟩ := bd2_some h
    refine E_callV (pc := 33) (As := [_, _]) (fc := (1, 22)) s11_243_2 oX2_soOf dX11_seems_33 (mem_ob (ent_st CU213.1)) rfl rfl (Nat.le_of_ble_eq_true rfl) rfl rfl (by decide) (e_X2_soOf CU213 hp) (fun rv_ M_ hq_ => ?_)
    obtain ⟨rfl, rfl⟩ := hq_
    exact E_ireturn (pc := 36) rfl rfl dX11_seems_36 (QI_of h)
  · refine E_im1 (pc := 17) dX11_seems_17 ?_
    exact E_ireturn (pc := 18) rfl rfl dX11_seems_18 (QI_of h)
noncomputable def f_X11_why_50 : Nat → Int32 → Int32 → Int32 → Int32 → Int32 → ST → Option (Int32 × ST)
  | 0, _, _, _, _, _, _ => none
  | n + 1, x1, x2, x3, x4, x5, sg =>
    if x5 < (sg.1 2 2) then
    (if (x4 &&& (((nI 1) <<< (x5 &&& 31)) ^^^ (-1))) = x4 then
    ((f_X11_why_50 n) x1 x2 x3 x4 (x5 + nI 1) sg)
    else (bd2 (f_X11_seems (x4 &&& (((nI 1) <<< (x5 &&& 31)) ^^^ (-1))) x1 x2 sg) fun v11 s10 =>
    if v11 = x3 then
    ((f_X11_why_50 n) x1 x2 x3 (x4 &&& (((nI 1) <<< (x5 &&& 31)) ^^^ (-1))) (x5 + nI 1) s10)
    else ((f_X11_why_50 n) x1 x2 x3 x4 (x5 + nI 1) s10)))
    else (some (x4, sg))
theorem e_X11_why_50 {G : GP} {v : Int32} {s : ST}  : ∀ (n : Nat) {x1 : Int32} {x2 : Int32} {x3 : Int32} {x4 : Int32} {x5 : Int32} {sg : ST}, f_X11_why_50 n x1 x2 x3 x4 x5 sg = some (v, s) → E G mX11_why (6, 158) 50 [.ref 0, .int x1, .int x2, .int x3, .int x4, .int x5, D0] [] (mem sg) (QI v s) := by
  intro n
  induction n with
  | zero => intro _ _ _ _ _ _ h; rw [f_X11_why_50] at h; cases h
  | succ n ih =>
    intro x1 x2 x3 x4 x5 sg h
    rw [f_X11_why_50] at h
    refine E_iload (pc := 50) rfl dX11_why_50 ?_
    refine E_aload_n (pc := 52) rfl dX11_why_52 ?_
    refine R_getR (pc := 53) (b := 2) f11_18 dX11_why_53 (ent_st SW0) (by decide) rfl rfl ?_
    refine R_getI (pc := 56) f11_260 dX11_why_56 (ent_st WO2.1) (by decide) rfl ?_
    refine T_icmp_ge (pc := 59) 102 dX11_why_59 (by decide) h (fun h => ?_) (fun h => ?_)
    · refine E_iload (pc := 102) rfl dX11_why_102 ?_
      exact E_ireturn (pc := 104) rfl rfl dX11_why_104 (QI_of h)
    · refine E_iload (pc := 62) rfl dX11_why_62 ?_
      refine E_iconst (pc := 64) 1 rfl dX11_why_64 ?_
      refine E_iload (pc := 65) rfl dX11_why_65 ?_
      refine E_ishl (pc := 67) dX11_why_67 ?_
      refine E_im1 (pc := 68) dX11_why_68 ?_
      refine E_ixor (pc := 69) dX11_why_69 ?_
      refine E_iand (pc := 70) dX11_why_70 ?_
      refine E_istore (pc := 71) (L2 := [_, _, _, _, _, _, _]) rfl rfl dX11_why_71 ?_
      refine E_iload (pc := 73) rfl dX11_why_73 ?_
      refine E_iload (pc := 75) rfl dX11_why_75 ?_
      refine T_icmp_eq (pc := 77) 96 dX11_why_77 (by decide) h (fun h => ?_) (fun h => ?_)
      · refine T_iinc (pc := 96) (m := 1) (L2 := [_, _, _, _, _, _, _]) rfl rfl rfl rfl dX11_why_96 ?_
        refine E_goto (pc := 99) 50 (by decide) dX11_why_99 ?_
        refine E_kp [true, true, true, true, true, true, false] (L2 := [_, _, _, _, _, _, D0]) rfl rfl ?_
        exact ih h
      · refine E_aload_n (pc := 80) rfl dX11_why_80 ?_
        refine E_iload (pc := 81) rfl dX11_why_81 ?_
        refine E_iload_n (pc := 83) rfl dX11_why_83 ?_
        refine E_iload_n (pc := 84) rfl dX11_why_84 ?_
        obtain ⟨v11, s10, hp, h⟩ := bd2_some h
        refine E_callV (pc := 85) (As := [_, _, _]) (fc := (5, 135)) s11_263_11 oX11_seems dX11_why_85 (mem_ob (ent_st SW0)) rfl rfl (Nat.le_of_ble_eq_true rfl) rfl rfl (by decide) (e_X11_seems hp) (fun rv_ M_ hq_ => ?_)
        obtain ⟨rfl, rfl⟩ := hq_
        refine E_iload_n (pc := 88) rfl dX11_why_88 ?_
        refine T_icmp_ne (pc := 89) 96 dX11_why_89 (by decide) h (fun h => ?_) (fun h => ?_)
        · refine T_iinc (pc := 96) (m := 1) (L2 := [_, _, _, _, _, _, _]) rfl rfl rfl rfl dX11_why_96 ?_
          refine E_goto (pc := 99) 50 (by decide) dX11_why_99 ?_
          refine E_kp [true, true, true, true, true, true, false] (L2 := [_, _, _, _, _, _, D0]) rfl rfl ?_
          exact ih h
        · refine E_iload (pc := 92) rfl dX11_why_92 ?_
          refine E_istore (pc := 94) (L2 := [_, _, _, _, _, _, _]) rfl rfl dX11_why_94 ?_
          refine T_iinc (pc := 96) (m := 1) (L2 := [_, _, _, _, _, _, _]) rfl rfl rfl rfl dX11_why_96 ?_
          refine E_goto (pc := 99) 50 (by decide) dX11_why_99 ?_
          refine E_kp [true, true, true, true, true, true, false] (L2 := [_, _, _, _, _, _, D0]) rfl rfl ?_
          exact ih h
noncomputable def f_X11_why_38 (x1 : Int32) (x2 : Int32) (x3 : Int32) (sg : ST) : Option (Int32 × ST) :=
    bd2 (f_X10_inForce sg) fun v9 s8 =>
    f_X11_why_50 FU x1 x2 x3 v9 (nI 0) s8
theorem e_X11_why_38 {G : GP} {x1 : Int32} {x2 : Int32} {x3 : Int32} {sg : ST} {v : Int32} {s : ST}  (h : f_X11_why_38 x1 x2 x3 sg = some (v, s)) : E G mX11_why (6, 158) 38 [.ref 0, .int x1, .int x2, .int x3, D0, D0, D0] [] (mem sg) (QI v s) := by
  unfold f_X11_why_38 at h
  refine E_aload_n (pc := 38) rfl dX11_why_38 ?_
  refine R_getR (pc := 39) (b := 2) f11_18 dX11_why_39 (ent_st SW0) (by decide) rfl rfl ?_
  obtain ⟨v9, s8, hp, h⟩ := bd2_some h
  refine E_callV (pc := 42) (As := []) (fc := (0, 0)) s11_256_10 oX10_inForce dX11_why_42 (mem_ob (ent_st WO2.1)) rfl rfl (Nat.le_of_ble_eq_true rfl) rfl rfl (by decide) (e_X10_inForce hp) (fun rv_ M_ hq_ => ?_)
  obtain ⟨rfl, rfl⟩ := hq_
  refine E_istore (pc := 45) (L2 := [_, _, _, _, _, _, _]) rfl rfl dX11_why_45 ?_
  refine E_iconst (pc := 47) 0 rfl dX11_why_47 ?_
  refine E_istore (pc := 48) (L2 := [_, _, _, _, _, _, _]) rfl rfl dX11_why_48 ?_
  refine e_X11_why_50  FU h
noncomputable def f_X11_why (x1 : Int32) (x2 : Int32) (σ : ST) : Option (Int32 × ST) :=
    bd2 (f_X11_isThing x1 σ) fun v2 s1 =>
    if v2 = 0 then
    (some ((-1), s1))
    else (bd2 (f_X11_isHour x2 s1) fun v4 s3 =>
    if v4 = 0 then
    (some ((-1), s3))
    else ((f_X11_current s3).bind fun s5 =>
    bd2 (f_X2_soOf 197 x1 x2 s5) fun v7 s6 =>
    if v7 = 0 then
    (f_X11_why_38 x1 x2 v7 s6)
    else (if v7 = (nI 1) then
    (f_X11_why_38 x1 x2 v7 s6)
    else (some ((-1), s6)))))
theorem e_X11_why {G : GP} {x1 : Int32} {x2 : Int32} {σ : ST} {v : Int32} {s : ST}  (h : f_X11_why x1 x2 σ = some (v, s)) : E G mX11_why (6, 158) 0 [.ref 0, .int x1, .int x2, D0, D0, D0, D0] [] (mem σ) (QI v s) := by
  unfold f_X11_why at h
  refine E_aload_n (pc := 0) rfl dX11_why_0 ?_
  refine E_iload_n (pc := 1) rfl dX11_why_1 ?_
  obtain ⟨v2, s1, hp, h⟩ := bd2_some h
  refine E_callV (pc := 2) (As := [_]) (fc := (0, 0)) s11_207_11 oX11_isThing dX11_why_2 (mem_ob (ent_st SW0)) rfl rfl (Nat.le_of_ble_eq_true rfl) rfl rfl (by decide) (e_X11_isThing hp) (fun rv_ M_ hq_ => ?_)
  obtain ⟨rfl, rfl⟩ := hq_
  refine T_if_eq (pc := 5) 15 dX11_why_5 (by decide) h (fun h => ?_) (fun h => ?_)
  · refine E_im1 (pc := 15) dX11_why_15 ?_
    exact E_ireturn (pc := 16) rfl rfl dX11_why_16 (QI_of h)
  · refine E_iload_n (pc := 8) rfl dX11_why_8 ?_
    obtain ⟨v4, s3, hp, h⟩ := bd2_some h
    refine E_callS (pc := 9) (As := [_]) (fc := (0, 0)) s11_197 oX11_isHour dX11_why_9 rfl rfl (Nat.le_of_ble_eq_true rfl) rfl rfl (by decide) (e_X11_isHour hp) (fun rv_ M_ hq_ => ?_)
    obtain ⟨rfl, rfl⟩ := hq_
    refine T_if_ne (pc := 12) 17 dX11_why_12 (by decide) h (fun h => ?_) (fun h => ?_)
    · refine E_aload_n (pc := 17) rfl dX11_why_17 ?_
      obtain ⟨s5, hp, h⟩ := bd_some h
      refine E_callV (pc := 18) (As := []) (fc := (5, 135)) s11_232_11 oX11_current dX11_why_18 (mem_ob (ent_st SW0)) rfl rfl (Nat.le_of_ble_eq_true rfl) rfl rfl (by decide) (e_X11_current hp) (fun rv_ M_ hq_ => ?_)
      obtain ⟨rfl, rfl⟩ := hq_
      refine E_iload_n (pc := 21) rfl dX11_why_21 ?_
      refine E_iload_n (pc := 22) rfl dX11_why_22 ?_
      obtain ⟨v7, s6, hp, h⟩ := bd2_some h
      refine E_callV (pc := 23) (As := [_, _]) (fc := (1, 22)) s11_243_2 oX2_soOf dX11_why_23 (mem_ob (ent_st CU197.1)) rfl rfl (Nat.le_of_ble_eq_true rfl) rfl rfl (by decide) (e_X2_soOf CU197 hp) (fun rv_ M_ hq_ => ?_)
      obtain ⟨rfl, rfl⟩ := hq_
      refine E_istore_n (pc := 26) (L2 := [_, _, _, _, _, _, _]) rfl rfl dX11_why_26 ?_
      refine E_iload_n (pc := 27) rfl dX11_why_27 ?_
      refine T_if_eq (pc := 28) 38 dX11_why_28 (by decide) h (fun h => ?_) (fun h => ?_)
      · refine e_X11_why_38  h
      · refine E_iload_n (pc := 31) rfl dX11_why_31 ?_
        refine E_iconst (pc := 32) 1 rfl dX11_why_32 ?_
        refine T_icmp_eq (pc := 33) 38 dX11_why_33 (by decide) h (fun h => ?_) (fun h => ?_)
        · refine e_X11_why_38  h
        · refine E_im1 (pc := 36) dX11_why_36 ?_
          exact E_ireturn (pc := 37) rfl rfl dX11_why_37 (QI_of h)
    · refine E_im1 (pc := 15) dX11_why_15 ?_
      exact E_ireturn (pc := 16) rfl rfl dX11_why_16 (QI_of h)
noncomputable def f_X11_quarrel_23 : Nat → Int32 → Int32 → ST → Option (Int32 × ST)
  | 0, _, _, _ => none
  | n + 1, x1, x2, sg =>
    if x2 < (sg.1 2 2) then
    (if (x1 &&& (((nI 1) <<< (x2 &&& 31)) ^^^ (-1))) = x1 then
    ((f_X11_quarrel_23 n) x1 (x2 + nI 1) sg)
    else (bd2 (f_X2_find 213 (x1 &&& (((nI 1) <<< (x2 &&& 31)) ^^^ (-1))) (-1) (-1) sg) fun v5 s4 =>
    if v5 = 0 then
    ((f_X11_quarrel_23 n) (x1 &&& (((nI 1) <<< (x2 &&& 31)) ^^^ (-1))) (x2 + nI 1) s4)
    else ((f_X11_quarrel_23 n) x1 (x2 + nI 1) s4)))
    else (some (x1, sg))
theorem e_X11_quarrel_23 {G : GP} {v : Int32} {s : ST}  : ∀ (n : Nat) {x1 : Int32} {x2 : Int32} {sg : ST}, f_X11_quarrel_23 n x1 x2 sg = some (v, s) → E G mX11_quarrel (6, 155) 23 [.ref 0, .int x1, .int x2, D0] [] (mem sg) (QI v s) := by
  intro n
  induction n with
  | zero => intro _ _ _ h; rw [f_X11_quarrel_23] at h; cases h
  | succ n ih =>
    intro x1 x2 sg h
    rw [f_X11_quarrel_23] at h
    refine E_iload_n (pc := 23) rfl dX11_quarrel_23 ?_
    refine E_aload_n (pc := 24) rfl dX11_quarrel_24 ?_
    refine R_getR (pc := 25) (b := 2) f11_18 dX11_quarrel_25 (ent_st SW0) (by decide) rfl rfl ?_
    refine R_getI (pc := 28) f11_260 dX11_quarrel_28 (ent_st WO2.1) (by decide) rfl ?_
    refine T_icmp_ge (pc := 31) 68 dX11_quarrel_31 (by decide) h (fun h => ?_) (fun h => ?_)
    · refine E_iload_n (pc := 68) rfl dX11_quarrel_68 ?_
      exact E_ireturn (pc := 69) rfl rfl dX11_quarrel_69 (QI_of h)
    · refine E_iload_n (pc := 34) rfl dX11_quarrel_34 ?_
      refine E_iconst (pc := 35) 1 rfl dX11_quarrel_35 ?_
      refine E_iload_n (pc := 36) rfl dX11_quarrel_36 ?_
      refine E_ishl (pc := 37) dX11_quarrel_37 ?_
      refine E_im1 (pc := 38) dX11_quarrel_38 ?_
      refine E_ixor (pc := 39) dX11_quarrel_39 ?_
      refine E_iand (pc := 40) dX11_quarrel_40 ?_
      refine E_istore_n (pc := 41) (L2 := [_, _, _, _]) rfl rfl dX11_quarrel_41 ?_
      refine E_iload_n (pc := 42) rfl dX11_quarrel_42 ?_
      refine E_iload_n (pc := 43) rfl dX11_quarrel_43 ?_
      refine T_icmp_eq (pc := 44) 62 dX11_quarrel_44 (by decide) h (fun h => ?_) (fun h => ?_)
      · refine T_iinc (pc := 62) (m := 1) (L2 := [_, _, _, _]) rfl rfl rfl rfl dX11_quarrel_62 ?_
        refine E_goto (pc := 65) 23 (by decide) dX11_quarrel_65 ?_
        refine E_kp [true, true, true, false] (L2 := [_, _, _, D0]) rfl rfl ?_
        exact ih h
      · refine E_aload_n (pc := 47) rfl dX11_quarrel_47 ?_
        refine R_getR (pc := 48) (b := 213) f11_50 dX11_quarrel_48 (ent_st SW0) (by decide) rfl rfl ?_
        refine E_iload_n (pc := 51) rfl dX11_quarrel_51 ?_
        refine E_im1 (pc := 52) dX11_quarrel_52 ?_
        refine E_im1 (pc := 53) dX11_quarrel_53 ?_
        obtain ⟨v5, s4, hp, h⟩ := bd2_some h
        refine E_callV (pc := 54) (As := [_, _, _]) (fc := (4, 110)) s11_267_2 oX2_find dX11_quarrel_54 (mem_ob (ent_st CU213.1)) rfl rfl (Nat.le_of_ble_eq_true rfl) rfl rfl (by decide) (e_X2_find CU213 hp) (fun rv_ M_ hq_ => ?_)
        obtain ⟨rfl, rfl⟩ := hq_
        refine T_if_ne (pc := 57) 62 dX11_quarrel_57 (by decide) h (fun h => ?_) (fun h => ?_)
        · refine T_iinc (pc := 62) (m := 1) (L2 := [_, _, _, _]) rfl rfl rfl rfl dX11_quarrel_62 ?_
          refine E_goto (pc := 65) 23 (by decide) dX11_quarrel_65 ?_
          refine E_kp [true, true, true, false] (L2 := [_, _, _, D0]) rfl rfl ?_
          exact ih h
        · refine E_iload_n (pc := 60) rfl dX11_quarrel_60 ?_
          refine E_istore_n (pc := 61) (L2 := [_, _, _, _]) rfl rfl dX11_quarrel_61 ?_
          refine T_iinc (pc := 62) (m := 1) (L2 := [_, _, _, _]) rfl rfl rfl rfl dX11_quarrel_62 ?_
          refine E_goto (pc := 65) 23 (by decide) dX11_quarrel_65 ?_
          refine E_kp [true, true, true, false] (L2 := [_, _, _, D0]) rfl rfl ?_
          exact ih h
noncomputable def f_X11_quarrel (σ : ST) : Option (Int32 × ST) :=
    (f_X11_current σ).bind fun s1 =>
    if (s1.1 197 12) = (-1) then
    (bd2 (f_X10_inForce s1) fun v3 s2 =>
    f_X11_quarrel_23 FU v3 (nI 0) s2)
    else (some ((nI 0), s1))
theorem e_X11_quarrel {G : GP} {σ : ST} {v : Int32} {s : ST}  (h : f_X11_quarrel σ = some (v, s)) : E G mX11_quarrel (6, 155) 0 [.ref 0, D0, D0, D0] [] (mem σ) (QI v s) := by
  unfold f_X11_quarrel at h
  refine E_aload_n (pc := 0) rfl dX11_quarrel_0 ?_
  obtain ⟨s1, hp, h⟩ := bd_some h
  refine E_callV (pc := 1) (As := []) (fc := (5, 135)) s11_232_11 oX11_current dX11_quarrel_1 (mem_ob (ent_st SW0)) rfl rfl (Nat.le_of_ble_eq_true rfl) rfl rfl (by decide) (e_X11_current hp) (fun rv_ M_ hq_ => ?_)
  obtain ⟨rfl, rfl⟩ := hq_
  refine R_getI (pc := 4) f11_236 dX11_quarrel_4 (ent_st CU197.1) (by decide) rfl ?_
  refine E_im1 (pc := 7) dX11_quarrel_7 ?_
  refine T_icmp_eq (pc := 8) 13 dX11_quarrel_8 (by decide) h (fun h => ?_) (fun h => ?_)
  · refine E_aload_n (pc := 13) rfl dX11_quarrel_13 ?_
    refine R_getR (pc := 14) (b := 2) f11_18 dX11_quarrel_14 (ent_st SW0) (by decide) rfl rfl ?_
    obtain ⟨v3, s2, hp, h⟩ := bd2_some h
    refine E_callV (pc := 17) (As := []) (fc := (0, 0)) s11_256_10 oX10_inForce dX11_quarrel_17 (mem_ob (ent_st WO2.1)) rfl rfl (Nat.le_of_ble_eq_true rfl) rfl rfl (by decide) (e_X10_inForce hp) (fun rv_ M_ hq_ => ?_)
    obtain ⟨rfl, rfl⟩ := hq_
    refine E_istore_n (pc := 20) (L2 := [_, _, _, _]) rfl rfl dX11_quarrel_20 ?_
    refine E_iconst (pc := 21) 0 rfl dX11_quarrel_21 ?_
    refine E_istore_n (pc := 22) (L2 := [_, _, _, _]) rfl rfl dX11_quarrel_22 ?_
    refine e_X11_quarrel_23  FU h
  · refine E_iconst (pc := 11) 0 rfl dX11_quarrel_11 ?_
    exact E_ireturn (pc := 12) rfl rfl dX11_quarrel_12 (QI_of h)
noncomputable def f_X11_out_29 : Nat → Int32 → Int32 → Int32 → Int32 → ST → Option (Int32 × ST)
  | 0, _, _, _, _, _ => none
  | n + 1, x1, x2, x3, x4, sg =>
    if x4 < (sg.1 2 2) then
    (bd2 (f_X10_weightOf x4 sg) fun v5 s4 =>
    if (x1 &&& (((nI 1) <<< (x4 &&& 31)) ^^^ (-1))) = x1 then
    ((f_X11_out_29 n) x1 x2 x3 (x4 + nI 1) s4)
    else (if v5 < x3 then
    (bd2 (f_X2_find 213 (x1 &&& (((nI 1) <<< (x4 &&& 31)) ^^^ (-1))) (-1) (-1) s4) fun v7 s6 =>
    if v7 = 0 then
    ((f_X11_out_29 n) x1 x2 x3 (x4 + nI 1) s6)
    else ((f_X11_out_29 n) x1 x4 v5 (x4 + nI 1) s6))
    else ((f_X11_out_29 n) x1 x2 x3 (x4 + nI 1) s4)))
    else (some (x2, sg))
theorem e_X11_out_29 {G : GP} {v : Int32} {s : ST}  : ∀ (n : Nat) {x1 : Int32} {x2 : Int32} {x3 : Int32} {x4 : Int32} {sg : ST}, f_X11_out_29 n x1 x2 x3 x4 sg = some (v, s) → E G mX11_out (6, 155) 29 [.ref 0, .int x1, .int x2, .int x3, .int x4, D0, D0] [] (mem sg) (QI v s) := by
  intro n
  induction n with
  | zero => intro _ _ _ _ _ h; rw [f_X11_out_29] at h; cases h
  | succ n ih =>
    intro x1 x2 x3 x4 sg h
    rw [f_X11_out_29] at h
    refine E_iload (pc := 29) rfl dX11_out_29 ?_
    refine E_aload_n (pc := 31) rfl dX11_out_31 ?_
    refine R_getR (pc := 32) (b := 2) f11_18 dX11_out_32 (ent_st SW0) (by decide) rfl rfl ?_
    refine R_getI (pc := 35) f11_260 dX11_out_35 (ent_st WO2.1) (by decide) rfl ?_
    refine T_icmp_ge (pc := 38) 100 dX11_out_38 (by decide) h (fun h => ?_) (fun h => ?_)
    · refine E_iload_n (pc := 100) rfl dX11_out_100 ?_
      exact E_ireturn (pc := 101) rfl rfl dX11_out_101 (QI_of h)
    · refine E_aload_n (pc := 41) rfl dX11_out_41 ?_
      refine R_getR (pc := 42) (b := 2) f11_18 dX11_out_42 (ent_st SW0) (by decide) rfl rfl ?_
      refine E_iload (pc := 45) rfl dX11_out_45 ?_
      obtain ⟨v5, s4, hp, h⟩ := bd2_some h
      refine E_callV (pc := 47) (As := [_]) (fc := (1, 21)) s11_271_10 oX10_weightOf dX11_out_47 (mem_ob (ent_st WO2.1)) rfl rfl (Nat.le_of_ble_eq_true rfl) rfl rfl (by decide) (e_X10_weightOf hp) (fun rv_ M_ hq_ => ?_)
      obtain ⟨rfl, rfl⟩ := hq_
      refine E_istore (pc := 50) (L2 := [_, _, _, _, _, _, _]) rfl rfl dX11_out_50 ?_
      refine E_iload_n (pc := 52) rfl dX11_out_52 ?_
      refine E_iconst (pc := 53) 1 rfl dX11_out_53 ?_
      refine E_iload (pc := 54) rfl dX11_out_54 ?_
      refine E_ishl (pc := 56) dX11_out_56 ?_
      refine E_im1 (pc := 57) dX11_out_57 ?_
      refine E_ixor (pc := 58) dX11_out_58 ?_
      refine E_iand (pc := 59) dX11_out_59 ?_
      refine E_istore (pc := 60) (L2 := [_, _, _, _, _, _, _]) rfl rfl dX11_out_60 ?_
      refine E_iload (pc := 62) rfl dX11_out_62 ?_
      refine E_iload_n (pc := 64) rfl dX11_out_64 ?_
      refine T_icmp_eq (pc := 65) 94 dX11_out_65 (by decide) h (fun h => ?_) (fun h => ?_)
      · refine T_iinc (pc := 94) (m := 1) (L2 := [_, _, _, _, _, _, _]) rfl rfl rfl rfl dX11_out_94 ?_
        refine E_goto (pc := 97) 29 (by decide) dX11_out_97 ?_
        refine E_kp [true, true, true, true, true, false, false] (L2 := [_, _, _, _, _, D0, D0]) rfl rfl ?_
        exact ih h
      · refine E_iload (pc := 68) rfl dX11_out_68 ?_
        refine E_iload_n (pc := 70) rfl dX11_out_70 ?_
        refine T_icmp_ge (pc := 71) 94 dX11_out_71 (by decide) h (fun h => ?_) (fun h => ?_)
        · refine T_iinc (pc := 94) (m := 1) (L2 := [_, _, _, _, _, _, _]) rfl rfl rfl rfl dX11_out_94 ?_
          refine E_goto (pc := 97) 29 (by decide) dX11_out_97 ?_
          refine E_kp [true, true, true, true, true, false, false] (L2 := [_, _, _, _, _, D0, D0]) rfl rfl ?_
          exact ih h
        · refine E_aload_n (pc := 74) rfl dX11_out_74 ?_
          refine R_getR (pc := 75) (b := 213) f11_50 dX11_out_75 (ent_st SW0) (by decide) rfl rfl ?_
          refine E_iload (pc := 78) rfl dX11_out_78 ?_
          refine E_im1 (pc := 80) dX11_out_80 ?_
          refine E_im1 (pc := 81) dX11_out_81 ?_
          obtain ⟨v7, s6, hp, h⟩ := bd2_some h
          refine E_callV (pc := 82) (As := [_, _, _]) (fc := (4, 110)) s11_267_2 oX2_find dX11_out_82 (mem_ob (ent_st CU213.1)) rfl rfl (Nat.le_of_ble_eq_true rfl) rfl rfl (by decide) (e_X2_find CU213 hp) (fun rv_ M_ hq_ => ?_)
          obtain ⟨rfl, rfl⟩ := hq_
          refine T_if_eq (pc := 85) 94 dX11_out_85 (by decide) h (fun h => ?_) (fun h => ?_)
          · refine T_iinc (pc := 94) (m := 1) (L2 := [_, _, _, _, _, _, _]) rfl rfl rfl rfl dX11_out_94 ?_
            refine E_goto (pc := 97) 29 (by decide) dX11_out_97 ?_
            refine E_kp [true, true, true, true, true, false, false] (L2 := [_, _, _, _, _, D0, D0]) rfl rfl ?_
            exact ih h
          · refine E_iload (pc := 88) rfl dX11_out_88 ?_
            refine E_istore_n (pc := 90) (L2 := [_, _, _, _, _, _, _]) rfl rfl dX11_out_90 ?_
            refine E_iload (pc := 91) rfl dX11_out_91 ?_
            refine E_istore_n (pc := 93) (L2 := [_, _, _, _, _, _, _]) rfl rfl dX11_out_93 ?_
            refine T_iinc (pc := 94) (m := 1) (L2 := [_, _, _, _, _, _, _]) rfl rfl rfl rfl dX11_out_94 ?_
            refine E_goto (pc := 97) 29 (by decide) dX11_out_97 ?_
            refine E_kp [true, true, true, true, true, false, false] (L2 := [_, _, _, _, _, D0, D0]) rfl rfl ?_
            exact ih h
noncomputable def f_X11_out (σ : ST) : Option (Int32 × ST) :=
    (f_X11_current σ).bind fun s1 =>
    if (s1.1 197 12) = (-1) then
    (bd2 (f_X10_inForce s1) fun v3 s2 =>
    f_X11_out_29 FU v3 (-1) (nI 100) (nI 0) s2)
    else (some ((-1), s1))
theorem e_X11_out {G : GP} {σ : ST} {v : Int32} {s : ST}  (h : f_X11_out σ = some (v, s)) : E G mX11_out (6, 155) 0 [.ref 0, D0, D0, D0, D0, D0, D0] [] (mem σ) (QI v s) := by
  unfold f_X11_out at h
  refine E_aload_n (pc := 0) rfl dX11_out_0 ?_
  obtain ⟨s1, hp, h⟩ := bd_some h
  refine E_callV (pc := 1) (As := []) (fc := (5, 135)) s11_232_11 oX11_current dX11_out_1 (mem_ob (ent_st SW0)) rfl rfl (Nat.le_of_ble_eq_true rfl) rfl rfl (by decide) (e_X11_current hp) (fun rv_ M_ hq_ => ?_)
  obtain ⟨rfl, rfl⟩ := hq_
  refine R_getI (pc := 4) f11_236 dX11_out_4 (ent_st CU197.1) (by decide) rfl ?_
  refine E_im1 (pc := 7) dX11_out_7 ?_
  refine T_icmp_eq (pc := 8) 13 dX11_out_8 (by decide) h (fun h => ?_) (fun h => ?_)
  · refine E_aload_n (pc := 13) rfl dX11_out_13 ?_
    refine R_getR (pc := 14) (b := 2) f11_18 dX11_out_14 (ent_st SW0) (by decide) rfl rfl ?_
    obtain ⟨v3, s2, hp, h⟩ := bd2_some h
    refine E_callV (pc := 17) (As := []) (fc := (0, 0)) s11_256_10 oX10_inForce dX11_out_17 (mem_ob (ent_st WO2.1)) rfl rfl (Nat.le_of_ble_eq_true rfl) rfl rfl (by decide) (e_X10_inForce hp) (fun rv_ M_ hq_ => ?_)
    obtain ⟨rfl, rfl⟩ := hq_
    refine E_istore_n (pc := 20) (L2 := [_, _, _, _, _, _, _]) rfl rfl dX11_out_20 ?_
    refine E_im1 (pc := 21) dX11_out_21 ?_
    refine E_istore_n (pc := 22) (L2 := [_, _, _, _, _, _, _]) rfl rfl dX11_out_22 ?_
    refine E_bipush (pc := 23) (nI 100) (by decide) dX11_out_23 ?_
    refine E_istore_n (pc := 25) (L2 := [_, _, _, _, _, _, _]) rfl rfl dX11_out_25 ?_
    refine E_iconst (pc := 26) 0 rfl dX11_out_26 ?_
    refine E_istore (pc := 27) (L2 := [_, _, _, _, _, _, _]) rfl rfl dX11_out_27 ?_
    refine e_X11_out_29  FU h
  · refine E_im1 (pc := 11) dX11_out_11 ?_
    exact E_ireturn (pc := 12) rfl rfl dX11_out_12 (QI_of h)
noncomputable def f_X11_inSome (x0 : Int32) (σ : ST) : Option (Int32 × ST) :=
    if x0 = 0 then
    (some ((-1), σ))
    else (if (x0 &&& (nI 1)) = 0 then
    (some ((nI 1), σ))
    else (if x0 = (nI 1) then
    (some ((nI 0), σ))
    else (some ((nI 2), σ))))
theorem e_X11_inSome {G : GP} {x0 : Int32} {σ : ST} {v : Int32} {s : ST}  (h : f_X11_inSome x0 σ = some (v, s)) : E G mX11_inSome (0, 0) 0 [.int x0] [] (mem σ) (QI v s) := by
  unfold f_X11_inSome at h
  refine E_iload_n (pc := 0) rfl dX11_inSome_0 ?_
  refine T_if_ne (pc := 1) 6 dX11_inSome_1 (by decide) h (fun h => ?_) (fun h => ?_)
  · refine E_iload_n (pc := 6) rfl dX11_inSome_6 ?_
    refine E_iconst (pc := 7) 1 rfl dX11_inSome_7 ?_
    refine E_iand (pc := 8) dX11_inSome_8 ?_
    refine T_if_ne (pc := 9) 14 dX11_inSome_9 (by decide) h (fun h => ?_) (fun h => ?_)
    · refine E_iload_n (pc := 14) rfl dX11_inSome_14 ?_
      refine E_iconst (pc := 15) 1 rfl dX11_inSome_15 ?_
      refine T_icmp_ne (pc := 16) 23 dX11_inSome_16 (by decide) h (fun h => ?_) (fun h => ?_)
      · refine E_iconst (pc := 23) 2 rfl dX11_inSome_23 ?_
        exact E_ireturn (pc := 24) rfl rfl dX11_inSome_24 (QI_of h)
      · refine E_iconst (pc := 19) 0 rfl dX11_inSome_19 ?_
        refine E_goto (pc := 20) 24 (by decide) dX11_inSome_20 ?_
        exact E_ireturn (pc := 24) rfl rfl dX11_inSome_24 (QI_of h)
    · refine E_iconst (pc := 12) 1 rfl dX11_inSome_12 ?_
      exact E_ireturn (pc := 13) rfl rfl dX11_inSome_13 (QI_of h)
  · refine E_im1 (pc := 4) dX11_inSome_4 ?_
    exact E_ireturn (pc := 5) rfl rfl dX11_inSome_5 (QI_of h)
noncomputable def f_X11_must (x1 : Int32) (x2 : Int32) (x3 : Int32) (σ : ST) : Option (Int32 × ST) :=
    bd2 (f_X11_isHappening x1 σ) fun v2 s1 =>
    if v2 = 0 then
    (some ((-1), s1))
    else (bd2 (f_X11_areHours x2 x3 s1) fun v4 s3 =>
    if v4 = 0 then
    (some ((-1), s3))
    else ((f_X11_current s3).bind fun s5 =>
    bd2 (f_X2_tally 197 ((nI 10) + x1) x2 x3 s5) fun v7 s6 =>
    bd2 (f_X11_inSome v7 s6) fun v9 s8 =>
    some (v9, s8)))
theorem e_X11_must {G : GP} {x1 : Int32} {x2 : Int32} {x3 : Int32} {σ : ST} {v : Int32} {s : ST}  (h : f_X11_must x1 x2 x3 σ = some (v, s)) : E G mX11_must (6, 155) 0 [.ref 0, .int x1, .int x2, .int x3] [] (mem σ) (QI v s) := by
  unfold f_X11_must at h
  refine E_aload_n (pc := 0) rfl dX11_must_0 ?_
  refine E_iload_n (pc := 1) rfl dX11_must_1 ?_
  obtain ⟨v2, s1, hp, h⟩ := bd2_some h
  refine E_callV (pc := 2) (As := [_]) (fc := (0, 0)) s11_181_11 oX11_isHappening dX11_must_2 (mem_ob (ent_st SW0)) rfl rfl (Nat.le_of_ble_eq_true rfl) rfl rfl (by decide) (e_X11_isHappening hp) (fun rv_ M_ hq_ => ?_)
  obtain ⟨rfl, rfl⟩ := hq_
  refine T_if_eq (pc := 5) 16 dX11_must_5 (by decide) h (fun h => ?_) (fun h => ?_)
  · refine E_im1 (pc := 16) dX11_must_16 ?_
    exact E_ireturn (pc := 17) rfl rfl dX11_must_17 (QI_of h)
  · refine E_iload_n (pc := 8) rfl dX11_must_8 ?_
    refine E_iload_n (pc := 9) rfl dX11_must_9 ?_
    obtain ⟨v4, s3, hp, h⟩ := bd2_some h
    refine E_callS (pc := 10) (As := [_, _]) (fc := (1, 20)) s11_204 oX11_areHours dX11_must_10 rfl rfl (Nat.le_of_ble_eq_true rfl) rfl rfl (by decide) (e_X11_areHours hp) (fun rv_ M_ hq_ => ?_)
    obtain ⟨rfl, rfl⟩ := hq_
    refine T_if_ne (pc := 13) 18 dX11_must_13 (by decide) h (fun h => ?_) (fun h => ?_)
    · refine E_aload_n (pc := 18) rfl dX11_must_18 ?_
      obtain ⟨s5, hp, h⟩ := bd_some h
      refine E_callV (pc := 19) (As := []) (fc := (5, 135)) s11_232_11 oX11_current dX11_must_19 (mem_ob (ent_st SW0)) rfl rfl (Nat.le_of_ble_eq_true rfl) rfl rfl (by decide) (e_X11_current hp) (fun rv_ M_ hq_ => ?_)
      obtain ⟨rfl, rfl⟩ := hq_
      refine E_bipush (pc := 22) (nI 10) (by decide) dX11_must_22 ?_
      refine E_iload_n (pc := 24) rfl dX11_must_24 ?_
      refine E_iadd (pc := 25) dX11_must_25 ?_
      refine E_iload_n (pc := 26) rfl dX11_must_26 ?_
      refine E_iload_n (pc := 27) rfl dX11_must_27 ?_
      obtain ⟨v7, s6, hp, h⟩ := bd2_some h
      refine E_callV (pc := 28) (As := [_, _, _]) (fc := (4, 110)) s11_274_2 oX2_tally dX11_must_28 (mem_ob (ent_st CU197.1)) rfl rfl (Nat.le_of_ble_eq_true rfl) rfl rfl (by decide) (e_X2_tally CU197 hp) (fun rv_ M_ hq_ => ?_)
      obtain ⟨rfl, rfl⟩ := hq_
      obtain ⟨v9, s8, hp, h⟩ := bd2_some h
      refine E_callS (pc := 31) (As := [_]) (fc := (0, 0)) s11_277 oX11_inSome dX11_must_31 rfl rfl (Nat.le_of_ble_eq_true rfl) rfl rfl (by decide) (e_X11_inSome hp) (fun rv_ M_ hq_ => ?_)
      obtain ⟨rfl, rfl⟩ := hq_
      exact E_ireturn (pc := 34) rfl rfl dX11_must_34 (QI_of h)
    · refine E_im1 (pc := 16) dX11_must_16 ?_
      exact E_ireturn (pc := 17) rfl rfl dX11_must_17 (QI_of h)
noncomputable def f_X11_could (x1 : Int32) (σ : ST) : Option (Int32 × ST) :=
    bd2 (f_X11_isHour x1 σ) fun v2 s1 =>
    if v2 = 0 then
    (some ((-1), s1))
    else ((f_X11_current s1).bind fun s3 =>
    if (s3.1 197 12) = (-1) then
    (some ((-1), s3))
    else ((rdI s3 203 12 x1).bind fun v4 =>
    some (v4, s3)))
theorem e_X11_could {G : GP} {x1 : Int32} {σ : ST} {v : Int32} {s : ST}  (h : f_X11_could x1 σ = some (v, s)) : E G mX11_could (6, 155) 0 [.ref 0, .int x1, D0] [] (mem σ) (QI v s) := by
  unfold f_X11_could at h
  refine E_iload_n (pc := 0) rfl dX11_could_0 ?_
  obtain ⟨v2, s1, hp, h⟩ := bd2_some h
  refine E_callS (pc := 1) (As := [_]) (fc := (0, 0)) s11_197 oX11_isHour dX11_could_1 rfl rfl (Nat.le_of_ble_eq_true rfl) rfl rfl (by decide) (e_X11_isHour hp) (fun rv_ M_ hq_ => ?_)
  obtain ⟨rfl, rfl⟩ := hq_
  refine T_if_ne (pc := 4) 9 dX11_could_4 (by decide) h (fun h => ?_) (fun h => ?_)
  · refine E_aload_n (pc := 9) rfl dX11_could_9 ?_
    obtain ⟨s3, hp, h⟩ := bd_some h
    refine E_callV (pc := 10) (As := []) (fc := (5, 135)) s11_232_11 oX11_current dX11_could_10 (mem_ob (ent_st SW0)) rfl rfl (Nat.le_of_ble_eq_true rfl) rfl rfl (by decide) (e_X11_current hp) (fun rv_ M_ hq_ => ?_)
    obtain ⟨rfl, rfl⟩ := hq_
    refine E_astore_n (pc := 13) (L2 := [_, _, _]) rfl rfl dX11_could_13 ?_
    refine E_aload_n (pc := 14) rfl dX11_could_14 ?_
    refine R_getI (pc := 15) f11_236 dX11_could_15 (ent_st CU197.1) (by decide) rfl ?_
    refine E_im1 (pc := 18) dX11_could_18 ?_
    refine T_icmp_ne (pc := 19) 26 dX11_could_19 (by decide) h (fun h => ?_) (fun h => ?_)
    · refine E_aload_n (pc := 26) rfl dX11_could_26 ?_
      refine R_getR (pc := 27) (b := 203) f11_280 dX11_could_27 (ent_st CU197.1) (by decide) rfl rfl ?_
      refine E_iload_n (pc := 30) rfl dX11_could_30 ?_
      refine T_iald (pc := 31) dX11_could_31 (ent_st CU197.2.2.2.2.2.2.1) (by decide) h (fun v4 h => ?_)
      exact E_ireturn (pc := 32) rfl rfl dX11_could_32 (QI_of h)
    · refine E_im1 (pc := 22) dX11_could_22 ?_
      refine E_goto (pc := 23) 32 (by decide) dX11_could_23 ?_
      exact E_ireturn (pc := 32) rfl rfl dX11_could_32 (QI_of h)
  · refine E_im1 (pc := 7) dX11_could_7 ?_
    exact E_ireturn (pc := 8) rfl rfl dX11_could_8 (QI_of h)
noncomputable def f_X11_ever (x1 : Int32) (x2 : Int32) (x3 : Int32) (σ : ST) : Option (Int32 × ST) :=
    bd2 (f_X11_isThing x1 σ) fun v2 s1 =>
    if v2 = 0 then
    (some ((-1), s1))
    else (bd2 (f_X11_areHours x2 x3 s1) fun v4 s3 =>
    if v4 = 0 then
    (some ((-1), s3))
    else ((f_X11_current s3).bind fun s5 =>
    bd2 (f_X2_tally 197 x1 x2 x3 s5) fun v7 s6 =>
    bd2 (f_X11_inSome v7 s6) fun v9 s8 =>
    some (v9, s8)))
theorem e_X11_ever {G : GP} {x1 : Int32} {x2 : Int32} {x3 : Int32} {σ : ST} {v : Int32} {s : ST}  (h : f_X11_ever x1 x2 x3 σ = some (v, s)) : E G mX11_ever (6, 155) 0 [.ref 0, .int x1, .int x2, .int x3] [] (mem σ) (QI v s) := by
  unfold f_X11_ever at h
  refine E_aload_n (pc := 0) rfl dX11_ever_0 ?_
  refine E_iload_n (pc := 1) rfl dX11_ever_1 ?_
  obtain ⟨v2, s1, hp, h⟩ := bd2_some h
  refine E_callV (pc := 2) (As := [_]) (fc := (0, 0)) s11_207_11 oX11_isThing dX11_ever_2 (mem_ob (ent_st SW0)) rfl rfl (Nat.le_of_ble_eq_true rfl) rfl rfl (by decide) (e_X11_isThing hp) (fun rv_ M_ hq_ => ?_)
  obtain ⟨rfl, rfl⟩ := hq_
  refine T_if_eq (pc := 5) 16 dX11_ever_5 (by decide) h (fun h => ?_) (fun h => ?_)
  · refine E_im1 (pc := 16) dX11_ever_16 ?_
    exact E_ireturn (pc := 17) rfl rfl dX11_ever_17 (QI_of h)
  · refine E_iload_n (pc := 8) rfl dX11_ever_8 ?_
    refine E_iload_n (pc := 9) rfl dX11_ever_9 ?_
    obtain ⟨v4, s3, hp, h⟩ := bd2_some h
    refine E_callS (pc := 10) (As := [_, _]) (fc := (1, 20)) s11_204 oX11_areHours dX11_ever_10 rfl rfl (Nat.le_of_ble_eq_true rfl) rfl rfl (by decide) (e_X11_areHours hp) (fun rv_ M_ hq_ => ?_)
    obtain ⟨rfl, rfl⟩ := hq_
    refine T_if_ne (pc := 13) 18 dX11_ever_13 (by decide) h (fun h => ?_) (fun h => ?_)
    · refine E_aload_n (pc := 18) rfl dX11_ever_18 ?_
      obtain ⟨s5, hp, h⟩ := bd_some h
      refine E_callV (pc := 19) (As := []) (fc := (5, 135)) s11_232_11 oX11_current dX11_ever_19 (mem_ob (ent_st SW0)) rfl rfl (Nat.le_of_ble_eq_true rfl) rfl rfl (by decide) (e_X11_current hp) (fun rv_ M_ hq_ => ?_)
      obtain ⟨rfl, rfl⟩ := hq_
      refine E_iload_n (pc := 22) rfl dX11_ever_22 ?_
      refine E_iload_n (pc := 23) rfl dX11_ever_23 ?_
      refine E_iload_n (pc := 24) rfl dX11_ever_24 ?_
      obtain ⟨v7, s6, hp, h⟩ := bd2_some h
      refine E_callV (pc := 25) (As := [_, _, _]) (fc := (4, 110)) s11_274_2 oX2_tally dX11_ever_25 (mem_ob (ent_st CU197.1)) rfl rfl (Nat.le_of_ble_eq_true rfl) rfl rfl (by decide) (e_X2_tally CU197 hp) (fun rv_ M_ hq_ => ?_)
      obtain ⟨rfl, rfl⟩ := hq_
      obtain ⟨v9, s8, hp, h⟩ := bd2_some h
      refine E_callS (pc := 28) (As := [_]) (fc := (0, 0)) s11_277 oX11_inSome dX11_ever_28 rfl rfl (Nat.le_of_ble_eq_true rfl) rfl rfl (by decide) (e_X11_inSome hp) (fun rv_ M_ hq_ => ?_)
      obtain ⟨rfl, rfl⟩ := hq_
      exact E_ireturn (pc := 31) rfl rfl dX11_ever_31 (QI_of h)
    · refine E_im1 (pc := 16) dX11_ever_16 ?_
      exact E_ireturn (pc := 17) rfl rfl dX11_ever_17 (QI_of h)
noncomputable def f_X11_howLong (x1 : Int32) (x2 : Int32) (x3 : Int32) (σ : ST) : Option (Int32 × ST) :=
    bd2 (f_X11_isThing x1 σ) fun v2 s1 =>
    if v2 = 0 then
    (some ((-1), s1))
    else (bd2 (f_X11_areHours x2 x3 s1) fun v4 s3 =>
    if v4 = 0 then
    (some ((-1), s3))
    else ((f_X11_current s3).bind fun s5 =>
    bd2 (f_X2_tally 197 x1 x2 x3 s5) fun v7 s6 =>
    if v7 = 0 then
    (some ((-1), s6))
    else (bd2 (f_X11_joined v7 (nI 100) s6) fun v9 s8 =>
    some (v9, s8))))
theorem e_X11_howLong {G : GP} {x1 : Int32} {x2 : Int32} {x3 : Int32} {σ : ST} {v : Int32} {s : ST}  (h : f_X11_howLong x1 x2 x3 σ = some (v, s)) : E G mX11_howLong (6, 155) 0 [.ref 0, .int x1, .int x2, .int x3, D0] [] (mem σ) (QI v s) := by
  unfold f_X11_howLong at h
  refine E_aload_n (pc := 0) rfl dX11_howLong_0 ?_
  refine E_iload_n (pc := 1) rfl dX11_howLong_1 ?_
  obtain ⟨v2, s1, hp, h⟩ := bd2_some h
  refine E_callV (pc := 2) (As := [_]) (fc := (0, 0)) s11_207_11 oX11_isThing dX11_howLong_2 (mem_ob (ent_st SW0)) rfl rfl (Nat.le_of_ble_eq_true rfl) rfl rfl (by decide) (e_X11_isThing hp) (fun rv_ M_ hq_ => ?_)
  obtain ⟨rfl, rfl⟩ := hq_
  refine T_if_eq (pc := 5) 16 dX11_howLong_5 (by decide) h (fun h => ?_) (fun h => ?_)
  · refine E_im1 (pc := 16) dX11_howLong_16 ?_
    exact E_ireturn (pc := 17) rfl rfl dX11_howLong_17 (QI_of h)
  · refine E_iload_n (pc := 8) rfl dX11_howLong_8 ?_
    refine E_iload_n (pc := 9) rfl dX11_howLong_9 ?_
    obtain ⟨v4, s3, hp, h⟩ := bd2_some h
    refine E_callS (pc := 10) (As := [_, _]) (fc := (1, 20)) s11_204 oX11_areHours dX11_howLong_10 rfl rfl (Nat.le_of_ble_eq_true rfl) rfl rfl (by decide) (e_X11_areHours hp) (fun rv_ M_ hq_ => ?_)
    obtain ⟨rfl, rfl⟩ := hq_
    refine T_if_ne (pc := 13) 18 dX11_howLong_13 (by decide) h (fun h => ?_) (fun h => ?_)
    · refine E_aload_n (pc := 18) rfl dX11_howLong_18 ?_
      obtain ⟨s5, hp, h⟩ := bd_some h
      refine E_callV (pc := 19) (As := []) (fc := (5, 135)) s11_232_11 oX11_current dX11_howLong_19 (mem_ob (ent_st SW0)) rfl rfl (Nat.le_of_ble_eq_true rfl) rfl rfl (by decide) (e_X11_current hp) (fun rv_ M_ hq_ => ?_)
      obtain ⟨rfl, rfl⟩ := hq_
      refine E_iload_n (pc := 22) rfl dX11_howLong_22 ?_
      refine E_iload_n (pc := 23) rfl dX11_howLong_23 ?_
      refine E_iload_n (pc := 24) rfl dX11_howLong_24 ?_
      obtain ⟨v7, s6, hp, h⟩ := bd2_some h
      refine E_callV (pc := 25) (As := [_, _, _]) (fc := (4, 110)) s11_274_2 oX2_tally dX11_howLong_25 (mem_ob (ent_st CU197.1)) rfl rfl (Nat.le_of_ble_eq_true rfl) rfl rfl (by decide) (e_X2_tally CU197 hp) (fun rv_ M_ hq_ => ?_)
      obtain ⟨rfl, rfl⟩ := hq_
      refine E_istore (pc := 28) (L2 := [_, _, _, _, _]) rfl rfl dX11_howLong_28 ?_
      refine E_iload (pc := 30) rfl dX11_howLong_30 ?_
      refine T_if_ne (pc := 32) 39 dX11_howLong_32 (by decide) h (fun h => ?_) (fun h => ?_)
      · refine E_iload (pc := 39) rfl dX11_howLong_39 ?_
        refine E_bipush (pc := 41) (nI 100) (by decide) dX11_howLong_41 ?_
        obtain ⟨v9, s8, hp, h⟩ := bd2_some h
        refine E_callS (pc := 43) (As := [_, _]) (fc := (1, 24)) s11_253 oX11_joined dX11_howLong_43 rfl rfl (Nat.le_of_ble_eq_true rfl) rfl rfl (by decide) (e_X11_joined hp) (fun rv_ M_ hq_ => ?_)
        obtain ⟨rfl, rfl⟩ := hq_
        exact E_ireturn (pc := 46) rfl rfl dX11_howLong_46 (QI_of h)
      · refine E_im1 (pc := 35) dX11_howLong_35 ?_
        refine E_goto (pc := 36) 46 (by decide) dX11_howLong_36 ?_
        exact E_ireturn (pc := 46) rfl rfl dX11_howLong_46 (QI_of h)
    · refine E_im1 (pc := 16) dX11_howLong_16 ?_
      exact E_ireturn (pc := 17) rfl rfl dX11_howLong_17 (QI_of h)
noncomputable def f_X11_since_35 : Nat → Int32 → Int32 → Int32 → ST → Option (Int32 × ST)
  | 0, _, _, _, _ => none
  | n + 1, x1, x3, x4, sg =>
    if x4 < 0 then
    (some (x3, sg))
    else (bd2 (f_X2_soOf 197 x1 x4 sg) fun v9 s8 =>
    if v9 = (nI 1) then
    ((f_X11_since_35 n) x1 x4 (x4 + (-1)) s8)
    else (some (x3, s8)))
theorem e_X11_since_35 {G : GP} {v : Int32} {s : ST}  : ∀ (n : Nat) {x1 : Int32} {x3 : Int32} {x4 : Int32} {sg : ST}, f_X11_since_35 n x1 x3 x4 sg = some (v, s) → E G mX11_since (6, 155) 35 [.ref 0, .int x1, D0, .int x3, .int x4] [] (mem sg) (QI v s) := by
  intro n
  induction n with
  | zero => intro _ _ _ _ h; rw [f_X11_since_35] at h; cases h
  | succ n ih =>
    intro x1 x3 x4 sg h
    rw [f_X11_since_35] at h
    refine E_iload (pc := 35) rfl dX11_since_35 ?_
    refine T_if_lt (pc := 37) 63 dX11_since_37 (by decide) h (fun h => ?_) (fun h => ?_)
    · refine E_iload_n (pc := 63) rfl dX11_since_63 ?_
      exact E_ireturn (pc := 64) rfl rfl dX11_since_64 (QI_of h)
    · refine E_aload_n (pc := 40) rfl dX11_since_40 ?_
      refine R_getR (pc := 41) (b := 197) f11_46 dX11_since_41 (ent_st SW0) (by decide) rfl rfl ?_
      refine E_iload_n (pc := 44) rfl dX11_since_44 ?_
      refine E_iload (pc := 45) rfl dX11_since_45 ?_
      obtain ⟨v9, s8, hp, h⟩ := bd2_some h
      refine E_callV (pc := 47) (As := [_, _]) (fc := (1, 22)) s11_243_2 oX2_soOf dX11_since_47 (mem_ob (ent_st CU197.1)) rfl rfl (Nat.le_of_ble_eq_true rfl) rfl rfl (by decide) (e_X2_soOf CU197 hp) (fun rv_ M_ hq_ => ?_)
      obtain ⟨rfl, rfl⟩ := hq_
      refine E_iconst (pc := 50) 1 rfl dX11_since_50 ?_
      refine T_icmp_ne (pc := 51) 63 dX11_since_51 (by decide) h (fun h => ?_) (fun h => ?_)
      · refine E_iload_n (pc := 63) rfl dX11_since_63 ?_
        exact E_ireturn (pc := 64) rfl rfl dX11_since_64 (QI_of h)
      · refine E_iload (pc := 54) rfl dX11_since_54 ?_
        refine E_istore_n (pc := 56) (L2 := [_, _, _, _, _]) rfl rfl dX11_since_56 ?_
        refine T_idec (pc := 57) (L2 := [_, _, _, _, _]) rfl rfl rfl dX11_since_57 ?_
        refine E_goto (pc := 60) 35 (by decide) dX11_since_60 ?_
        exact ih h
noncomputable def f_X11_since (x1 : Int32) (x2 : Int32) (σ : ST) : Option (Int32 × ST) :=
    bd2 (f_X11_isThing x1 σ) fun v2 s1 =>
    if v2 = 0 then
    (some ((-1), s1))
    else (bd2 (f_X11_isHour x2 s1) fun v4 s3 =>
    if v4 = 0 then
    (some ((-1), s3))
    else ((f_X11_current s3).bind fun s5 =>
    bd2 (f_X2_soOf 197 x1 x2 s5) fun v7 s6 =>
    if v7 = (nI 1) then
    (f_X11_since_35 FU x1 x2 x2 s6)
    else (some ((-1), s6))))
theorem e_X11_since {G : GP} {x1 : Int32} {x2 : Int32} {σ : ST} {v : Int32} {s : ST}  (h : f_X11_since x1 x2 σ = some (v, s)) : E G mX11_since (6, 155) 0 [.ref 0, .int x1, .int x2, D0, D0] [] (mem σ) (QI v s) := by
  unfold f_X11_since at h
  refine E_aload_n (pc := 0) rfl dX11_since_0 ?_
  refine E_iload_n (pc := 1) rfl dX11_since_1 ?_
  obtain ⟨v2, s1, hp, h⟩ := bd2_some h
  refine E_callV (pc := 2) (As := [_]) (fc := (0, 0)) s11_207_11 oX11_isThing dX11_since_2 (mem_ob (ent_st SW0)) rfl rfl (Nat.le_of_ble_eq_true rfl) rfl rfl (by decide) (e_X11_isThing hp) (fun rv_ M_ hq_ => ?_)
  obtain ⟨rfl, rfl⟩ := hq_
  refine T_if_eq (pc := 5) 28 dX11_since_5 (by decide) h (fun h => ?_) (fun h => ?_)
  · refine E_im1 (pc := 28) dX11_since_28 ?_
    exact E_ireturn (pc := 29) rfl rfl dX11_since_29 (QI_of h)
  · refine E_iload_n (pc := 8) rfl dX11_since_8 ?_
    obtain ⟨v4, s3, hp, h⟩ := bd2_some h
    refine E_callS (pc := 9) (As := [_]) (fc := (0, 0)) s11_197 oX11_isHour dX11_since_9 rfl rfl (Nat.le_of_ble_eq_true rfl) rfl rfl (by decide) (e_X11_isHour hp) (fun rv_ M_ hq_ => ?_)
    obtain ⟨rfl, rfl⟩ := hq_
    refine T_if_eq (pc := 12) 28 dX11_since_12 (by decide) h (fun h => ?_) (fun h => ?_)
    · refine E_im1 (pc := 28) dX11_since_28 ?_
      exact E_ireturn (pc := 29) rfl rfl dX11_since_29 (QI_of h)
    · refine E_aload_n (pc := 15) rfl dX11_since_15 ?_
      obtain ⟨s5, hp, h⟩ := bd_some h
      refine E_callV (pc := 16) (As := []) (fc := (5, 135)) s11_232_11 oX11_current dX11_since_16 (mem_ob (ent_st SW0)) rfl rfl (Nat.le_of_ble_eq_true rfl) rfl rfl (by decide) (e_X11_current hp) (fun rv_ M_ hq_ => ?_)
      obtain ⟨rfl, rfl⟩ := hq_
      refine E_iload_n (pc := 19) rfl dX11_since_19 ?_
      refine E_iload_n (pc := 20) rfl dX11_since_20 ?_
      obtain ⟨v7, s6, hp, h⟩ := bd2_some h
      refine E_callV (pc := 21) (As := [_, _]) (fc := (1, 22)) s11_243_2 oX2_soOf dX11_since_21 (mem_ob (ent_st CU197.1)) rfl rfl (Nat.le_of_ble_eq_true rfl) rfl rfl (by decide) (e_X2_soOf CU197 hp) (fun rv_ M_ hq_ => ?_)
      obtain ⟨rfl, rfl⟩ := hq_
      refine E_iconst (pc := 24) 1 rfl dX11_since_24 ?_
      refine T_icmp_eq (pc := 25) 30 dX11_since_25 (by decide) h (fun h => ?_) (fun h => ?_)
      · refine E_iload_n (pc := 30) rfl dX11_since_30 ?_
        refine E_istore_n (pc := 31) (L2 := [_, _, _, _, _]) rfl rfl dX11_since_31 ?_
        refine E_iload_n (pc := 32) rfl dX11_since_32 ?_
        refine E_istore (pc := 33) (L2 := [_, _, _, _, _]) rfl rfl dX11_since_33 ?_
        refine E_kp [true, true, false, true, true] (L2 := [_, _, D0, _, _]) rfl rfl ?_
        refine e_X11_since_35  FU h
      · refine E_im1 (pc := 28) dX11_since_28 ?_
        exact E_ireturn (pc := 29) rfl rfl dX11_since_29 (QI_of h)
noncomputable def f_X11_wouldBring (x1 : Int32) (x2 : Int32) (x3 : Int32) (x4 : Int32) (σ : ST) : Option (Int32 × ST) :=
    bd2 (f_X10_isSeenIn x2 σ) fun v2 s1 =>
    if v2 = 0 then
    (bd2 (f_X2_surely 197 ((nI 10) + x1) x2 s1) fun v4 s3 =>
    if v4 = 0 then
    (some ((nI 0), s3))
    else (bd2 (f_X10_inForce s3) fun v6 s5 =>
    bd2 (f_X2_find 213 v6 x1 x2 s5) fun v8 s7 =>
    if v8 = 0 then
    (some ((nI 0), s7))
    else ((f_X2_keepBest 213 x4 s7).bind fun s9 =>
    bd2 (f_X2_soOf 213 x3 x4 s9) fun v11 s10 =>
    if v11 = (nI 1) then
    (some ((nI 1), s10))
    else (some ((nI 0), s10)))))
    else (some ((nI 0), s1))
theorem e_X11_wouldBring {G : GP} {x1 : Int32} {x2 : Int32} {x3 : Int32} {x4 : Int32} {σ : ST} {v : Int32} {s : ST}  (h : f_X11_wouldBring x1 x2 x3 x4 σ = some (v, s)) : E G mX11_wouldBring (5, 135) 0 [.ref 0, .int x1, .int x2, .int x3, .int x4] [] (mem σ) (QI v s) := by
  unfold f_X11_wouldBring at h
  refine E_aload_n (pc := 0) rfl dX11_wouldBring_0 ?_
  refine R_getR (pc := 1) (b := 2) f11_18 dX11_wouldBring_1 (ent_st SW0) (by decide) rfl rfl ?_
  refine E_iload_n (pc := 4) rfl dX11_wouldBring_4 ?_
  obtain ⟨v2, s1, hp, h⟩ := bd2_some h
  refine E_callV (pc := 5) (As := [_]) (fc := (1, 21)) s11_343_10 oX10_isSeenIn dX11_wouldBring_5 (mem_ob (ent_st WO2.1)) rfl rfl (Nat.le_of_ble_eq_true rfl) rfl rfl (by decide) (e_X10_isSeenIn hp) (fun rv_ M_ hq_ => ?_)
  obtain ⟨rfl, rfl⟩ := hq_
  refine T_if_ne (pc := 8) 26 dX11_wouldBring_8 (by decide) h (fun h => ?_) (fun h => ?_)
  · refine E_iconst (pc := 26) 0 rfl dX11_wouldBring_26 ?_
    exact E_ireturn (pc := 27) rfl (by decide) dX11_wouldBring_27 (QI_of h)
  · refine E_aload_n (pc := 11) rfl dX11_wouldBring_11 ?_
    refine R_getR (pc := 12) (b := 197) f11_46 dX11_wouldBring_12 (ent_st SW0) (by decide) rfl rfl ?_
    refine E_bipush (pc := 15) (nI 10) (by decide) dX11_wouldBring_15 ?_
    refine E_iload_n (pc := 17) rfl dX11_wouldBring_17 ?_
    refine E_iadd (pc := 18) dX11_wouldBring_18 ?_
    refine E_iload_n (pc := 19) rfl dX11_wouldBring_19 ?_
    obtain ⟨v4, s3, hp, h⟩ := bd2_some h
    refine E_callV (pc := 20) (As := [_, _]) (fc := (0, 0)) s11_346_2 oX2_surely dX11_wouldBring_20 (mem_ob (ent_st CU197.1)) rfl rfl (Nat.le_of_ble_eq_true rfl) rfl rfl (by decide) (e_X2_surely CU197 hp) (fun rv_ M_ hq_ => ?_)
    obtain ⟨rfl, rfl⟩ := hq_
    refine T_if_ne (pc := 23) 28 dX11_wouldBring_23 (by decide) h (fun h => ?_) (fun h => ?_)
    · refine E_aload_n (pc := 28) rfl dX11_wouldBring_28 ?_
      refine R_getR (pc := 29) (b := 213) f11_50 dX11_wouldBring_29 (ent_st SW0) (by decide) rfl rfl ?_
      refine E_aload_n (pc := 32) rfl dX11_wouldBring_32 ?_
      refine R_getR (pc := 33) (b := 2) f11_18 dX11_wouldBring_33 (ent_st SW0) (by decide) rfl rfl ?_
      obtain ⟨v6, s5, hp, h⟩ := bd2_some h
      refine E_callV (pc := 36) (As := []) (fc := (0, 0)) s11_256_10 oX10_inForce dX11_wouldBring_36 (mem_ob (ent_st WO2.1)) rfl rfl (Nat.le_of_ble_eq_true rfl) rfl rfl (by decide) (e_X10_inForce hp) (fun rv_ M_ hq_ => ?_)
      obtain ⟨rfl, rfl⟩ := hq_
      refine E_iload_n (pc := 39) rfl dX11_wouldBring_39 ?_
      refine E_iload_n (pc := 40) rfl dX11_wouldBring_40 ?_
      obtain ⟨v8, s7, hp, h⟩ := bd2_some h
      refine E_callV (pc := 41) (As := [_, _, _]) (fc := (4, 110)) s11_267_2 oX2_find dX11_wouldBring_41 (mem_ob (ent_st CU213.1)) rfl rfl (Nat.le_of_ble_eq_true rfl) rfl rfl (by decide) (e_X2_find CU213 hp) (fun rv_ M_ hq_ => ?_)
      obtain ⟨rfl, rfl⟩ := hq_
      refine T_if_ne (pc := 44) 49 dX11_wouldBring_44 (by decide) h (fun h => ?_) (fun h => ?_)
      · refine E_aload_n (pc := 49) rfl dX11_wouldBring_49 ?_
        refine R_getR (pc := 50) (b := 213) f11_50 dX11_wouldBring_50 (ent_st SW0) (by decide) rfl rfl ?_
        refine E_iload (pc := 53) rfl dX11_wouldBring_53 ?_
        obtain ⟨s9, hp, h⟩ := bd_some h
        refine E_callV (pc := 55) (As := [_]) (fc := (4, 110)) s11_336_2 oX2_keepBest dX11_wouldBring_55 (mem_ob (ent_st CU213.1)) rfl rfl (Nat.le_of_ble_eq_true rfl) rfl rfl (by decide) (e_X2_keepBest CU213 hp) (fun rv_ M_ hq_ => ?_)
        obtain ⟨rfl, rfl⟩ := hq_
        refine E_aload_n (pc := 58) rfl dX11_wouldBring_58 ?_
        refine R_getR (pc := 59) (b := 213) f11_50 dX11_wouldBring_59 (ent_st SW0) (by decide) rfl rfl ?_
        refine E_iload_n (pc := 62) rfl dX11_wouldBring_62 ?_
        refine E_iload (pc := 63) rfl dX11_wouldBring_63 ?_
        obtain ⟨v11, s10, hp, h⟩ := bd2_some h
        refine E_callV (pc := 65) (As := [_, _]) (fc := (1, 22)) s11_243_2 oX2_soOf dX11_wouldBring_65 (mem_ob (ent_st CU213.1)) rfl rfl (Nat.le_of_ble_eq_true rfl) rfl rfl (by decide) (e_X2_soOf CU213 hp) (fun rv_ M_ hq_ => ?_)
        obtain ⟨rfl, rfl⟩ := hq_
        refine E_iconst (pc := 68) 1 rfl dX11_wouldBring_68 ?_
        refine T_icmp_ne (pc := 69) 76 dX11_wouldBring_69 (by decide) h (fun h => ?_) (fun h => ?_)
        · refine E_iconst (pc := 76) 0 rfl dX11_wouldBring_76 ?_
          exact E_ireturn (pc := 77) rfl (by decide) dX11_wouldBring_77 (QI_of h)
        · refine E_iconst (pc := 72) 1 rfl dX11_wouldBring_72 ?_
          refine E_goto (pc := 73) 77 (by decide) dX11_wouldBring_73 ?_
          exact E_ireturn (pc := 77) rfl (by decide) dX11_wouldBring_77 (QI_of h)
      · refine E_iconst (pc := 47) 0 rfl dX11_wouldBring_47 ?_
        exact E_ireturn (pc := 48) rfl (by decide) dX11_wouldBring_48 (QI_of h)
    · refine E_iconst (pc := 26) 0 rfl dX11_wouldBring_26 ?_
      exact E_ireturn (pc := 27) rfl (by decide) dX11_wouldBring_27 (QI_of h)
noncomputable def f_X11_plan_41 (k81 : Int32 → Int32 → Int32 → ST → Option (Int32 × ST)) : Nat → Int32 → Int32 → Int32 → Int32 → ST → Option (Int32 × ST)
  | 0, _, _, _, _, _ => none
  | n + 1, x1, x3, x4, x5, sg =>
    if x5 < (sg.1 2 1) then
    (bd2 (f_X11_wouldBring x5 x4 x1 x3 sg) fun v7 s6 =>
    if v7 = 0 then
    ((f_X11_plan_41 k81 n) x1 x3 x4 (x5 + nI 1) s6)
    else (some ((((nI 10) * x4) + x5), s6)))
    else (k81 x1 x3 x4 sg)
theorem e_X11_plan_41 {G : GP} {k81 : Int32 → Int32 → Int32 → ST → Option (Int32 × ST)} {v : Int32} {s : ST} (hk81 : ∀ {x1 : Int32} {x3 : Int32} {x4 : Int32} {sg : ST}, k81 x1 x3 x4 sg = some (v, s) → E G mX11_plan (6, 159) 81 [.ref 0, .int x1, D0, .int x3, .int x4, D0] [] (mem sg) (QI v s)) : ∀ (n : Nat) {x1 : Int32} {x3 : Int32} {x4 : Int32} {x5 : Int32} {sg : ST}, f_X11_plan_41 k81 n x1 x3 x4 x5 sg = some (v, s) → E G mX11_plan (6, 159) 41 [.ref 0, .int x1, D0, .int x3, .int x4, .int x5] [] (mem sg) (QI v s) := by
  intro n
  induction n with
  | zero => intro _ _ _ _ _ h; rw [f_X11_plan_41] at h; cases h
  | succ n ih =>
    intro x1 x3 x4 x5 sg h
    rw [f_X11_plan_41] at h
    refine E_iload (pc := 41) rfl dX11_plan_41 ?_
    refine E_aload_n (pc := 43) rfl dX11_plan_43 ?_
    refine R_getR (pc := 44) (b := 2) f11_18 dX11_plan_44 (ent_st SW0) (by decide) rfl rfl ?_
    refine R_getI (pc := 47) f11_174 dX11_plan_47 (ent_st WO2.1) (by decide) rfl ?_
    refine T_icmp_ge (pc := 50) 81 dX11_plan_50 (by decide) h (fun h => ?_) (fun h => ?_)
    · refine E_kp [true, true, false, true, true, false] (L2 := [_, _, D0, _, _, D0]) rfl rfl ?_
      exact hk81 h
    · refine E_aload_n (pc := 53) rfl dX11_plan_53 ?_
      refine E_iload (pc := 54) rfl dX11_plan_54 ?_
      refine E_iload (pc := 56) rfl dX11_plan_56 ?_
      refine E_iload_n (pc := 58) rfl dX11_plan_58 ?_
      refine E_iload_n (pc := 59) rfl dX11_plan_59 ?_
      obtain ⟨v7, s6, hp, h⟩ := bd2_some h
      refine E_callV (pc := 60) (As := [_, _, _, _]) (fc := (5, 135)) s11_283_11 oX11_wouldBring dX11_plan_60 (mem_ob (ent_st SW0)) rfl rfl (Nat.le_of_ble_eq_true rfl) rfl rfl (by decide) (e_X11_wouldBring hp) (fun rv_ M_ hq_ => ?_)
      obtain ⟨rfl, rfl⟩ := hq_
      refine T_if_eq (pc := 63) 75 dX11_plan_63 (by decide) h (fun h => ?_) (fun h => ?_)
      · refine T_iinc (pc := 75) (m := 1) (L2 := [_, _, _, _, _, _]) rfl rfl rfl rfl dX11_plan_75 ?_
        refine E_goto (pc := 78) 41 (by decide) dX11_plan_78 ?_
        exact ih h
      · refine E_bipush (pc := 66) (nI 10) (by decide) dX11_plan_66 ?_
        refine E_iload (pc := 68) rfl dX11_plan_68 ?_
        refine E_imul (pc := 70) dX11_plan_70 ?_
        refine E_iload (pc := 71) rfl dX11_plan_71 ?_
        refine E_iadd (pc := 73) dX11_plan_73 ?_
        exact E_ireturn (pc := 74) rfl rfl dX11_plan_74 (QI_of h)
noncomputable def f_X11_plan_32 : Nat → Int32 → Int32 → Int32 → ST → Option (Int32 × ST)
  | 0, _, _, _, _ => none
  | n + 1, x1, x3, x4, sg =>
    if x4 < x3 then
    (f_X11_plan_41 (fun x1_8 x3_9 x4_10 s11 =>
    (f_X11_plan_32 n) x1_8 x3_9 (x4_10 + nI 1) s11) FU x1 x3 x4 (nI 0) sg)
    else (some ((-1), sg))
theorem e_X11_plan_32 {G : GP} {v : Int32} {s : ST}  : ∀ (n : Nat) {x1 : Int32} {x3 : Int32} {x4 : Int32} {sg : ST}, f_X11_plan_32 n x1 x3 x4 sg = some (v, s) → E G mX11_plan (6, 159) 32 [.ref 0, .int x1, D0, .int x3, .int x4, D0] [] (mem sg) (QI v s) := by
  intro n
  induction n with
  | zero => intro _ _ _ _ h; rw [f_X11_plan_32] at h; cases h
  | succ n ih =>
    intro x1 x3 x4 sg h
    rw [f_X11_plan_32] at h
    refine E_iload (pc := 32) rfl dX11_plan_32 ?_
    refine E_iload_n (pc := 34) rfl dX11_plan_34 ?_
    refine T_icmp_ge (pc := 35) 87 dX11_plan_35 (by decide) h (fun h => ?_) (fun h => ?_)
    · refine E_im1 (pc := 87) dX11_plan_87 ?_
      exact E_ireturn (pc := 88) rfl rfl dX11_plan_88 (QI_of h)
    · refine E_iconst (pc := 38) 0 rfl dX11_plan_38 ?_
      refine E_istore (pc := 39) (L2 := [_, _, _, _, _, _]) rfl rfl dX11_plan_39 ?_
      refine e_X11_plan_41 ?_ FU h
      · intro x1_8 x3_9 x4_10 s11 h
        refine T_iinc (pc := 81) (m := 1) (L2 := [_, _, _, _, _, _]) rfl rfl rfl rfl dX11_plan_81 ?_
        refine E_goto (pc := 84) 32 (by decide) dX11_plan_84 ?_
        exact ih h
noncomputable def f_X11_plan (x1 : Int32) (x2 : Int32) (x3 : Int32) (σ : ST) : Option (Int32 × ST) :=
    bd2 (f_X11_isThing x1 σ) fun v2 s1 =>
    if v2 = 0 then
    (some ((-1), s1))
    else (bd2 (f_X11_areHours x2 x3 s1) fun v4 s3 =>
    if v4 = 0 then
    (some ((-1), s3))
    else ((f_X11_current s3).bind fun s5 =>
    if (s5.1 197 12) = (-1) then
    (some ((-1), s5))
    else (f_X11_plan_32 FU x1 x3 x2 s5)))
theorem e_X11_plan {G : GP} {x1 : Int32} {x2 : Int32} {x3 : Int32} {σ : ST} {v : Int32} {s : ST}  (h : f_X11_plan x1 x2 x3 σ = some (v, s)) : E G mX11_plan (6, 159) 0 [.ref 0, .int x1, .int x2, .int x3, D0, D0] [] (mem σ) (QI v s) := by
  unfold f_X11_plan at h
  refine E_aload_n (pc := 0) rfl dX11_plan_0 ?_
  refine E_iload_n (pc := 1) rfl dX11_plan_1 ?_
  obtain ⟨v2, s1, hp, h⟩ := bd2_some h
  refine E_callV (pc := 2) (As := [_]) (fc := (0, 0)) s11_207_11 oX11_isThing dX11_plan_2 (mem_ob (ent_st SW0)) rfl rfl (Nat.le_of_ble_eq_true rfl) rfl rfl (by decide) (e_X11_isThing hp) (fun rv_ M_ hq_ => ?_)
  obtain ⟨rfl, rfl⟩ := hq_
  refine T_if_eq (pc := 5) 27 dX11_plan_5 (by decide) h (fun h => ?_) (fun h => ?_)
  · refine E_im1 (pc := 27) dX11_plan_27 ?_
    exact E_ireturn (pc := 28) rfl rfl dX11_plan_28 (QI_of h)
  · refine E_iload_n (pc := 8) rfl dX11_plan_8 ?_
    refine E_iload_n (pc := 9) rfl dX11_plan_9 ?_
    obtain ⟨v4, s3, hp, h⟩ := bd2_some h
    refine E_callS (pc := 10) (As := [_, _]) (fc := (1, 20)) s11_204 oX11_areHours dX11_plan_10 rfl rfl (Nat.le_of_ble_eq_true rfl) rfl rfl (by decide) (e_X11_areHours hp) (fun rv_ M_ hq_ => ?_)
    obtain ⟨rfl, rfl⟩ := hq_
    refine T_if_eq (pc := 13) 27 dX11_plan_13 (by decide) h (fun h => ?_) (fun h => ?_)
    · refine E_im1 (pc := 27) dX11_plan_27 ?_
      exact E_ireturn (pc := 28) rfl rfl dX11_plan_28 (QI_of h)
    · refine E_aload_n (pc := 16) rfl dX11_plan_16 ?_
      obtain ⟨s5, hp, h⟩ := bd_some h
      refine E_callV (pc := 17) (As := []) (fc := (5, 135)) s11_232_11 oX11_current dX11_plan_17 (mem_ob (ent_st SW0)) rfl rfl (Nat.le_of_ble_eq_true rfl) rfl rfl (by decide) (e_X11_current hp) (fun rv_ M_ hq_ => ?_)
      obtain ⟨rfl, rfl⟩ := hq_
      refine R_getI (pc := 20) f11_236 dX11_plan_20 (ent_st CU197.1) (by decide) rfl ?_
      refine E_im1 (pc := 23) dX11_plan_23 ?_
      refine T_icmp_ne (pc := 24) 29 dX11_plan_24 (by decide) h (fun h => ?_) (fun h => ?_)
      · refine E_iload_n (pc := 29) rfl dX11_plan_29 ?_
        refine E_istore (pc := 30) (L2 := [_, _, _, _, _, _]) rfl rfl dX11_plan_30 ?_
        refine E_kp [true, true, false, true, true, false] (L2 := [_, _, D0, _, _, D0]) rfl rfl ?_
        refine e_X11_plan_32  FU h
      · refine E_im1 (pc := 27) dX11_plan_27 ?_
        exact E_ireturn (pc := 28) rfl rfl dX11_plan_28 (QI_of h)
noncomputable def f_X11_seemed (x1 : Int32) (x2 : Int32) (x3 : Int32) (x4 : Int32) (σ : ST) : Option (Int32 × ST) :=
    bd2 (f_X11_isMouth x1 σ) fun v2 s1 =>
    if v2 = 0 then
    (some ((-1), s1))
    else (bd2 (f_X11_isHour x2 s1) fun v4 s3 =>
    if v4 = 0 then
    (some ((-1), s3))
    else (bd2 (f_X11_isThing x3 s3) fun v6 s5 =>
    if v6 = 0 then
    (some ((-1), s5))
    else (bd2 (f_X11_isHour x4 s5) fun v8 s7 =>
    if v8 = 0 then
    (some ((-1), s7))
    else (bd2 (f_X10_toldBy x1 x2 s7) fun v10 s9 =>
    bd2 (f_X11_seems v10 x3 x4 s9) fun v12 s11 =>
    some (v12, s11)))))
theorem e_X11_seemed {G : GP} {x1 : Int32} {x2 : Int32} {x3 : Int32} {x4 : Int32} {σ : ST} {v : Int32} {s : ST}  (h : f_X11_seemed x1 x2 x3 x4 σ = some (v, s)) : E G mX11_seemed (6, 158) 0 [.ref 0, .int x1, .int x2, .int x3, .int x4] [] (mem σ) (QI v s) := by
  unfold f_X11_seemed at h
  refine E_iload_n (pc := 0) rfl dX11_seemed_0 ?_
  obtain ⟨v2, s1, hp, h⟩ := bd2_some h
  refine E_callS (pc := 1) (As := [_]) (fc := (0, 0)) s11_191 oX11_isMouth dX11_seemed_1 rfl rfl (Nat.le_of_ble_eq_true rfl) rfl rfl (by decide) (e_X11_isMouth hp) (fun rv_ M_ hq_ => ?_)
  obtain ⟨rfl, rfl⟩ := hq_
  refine T_if_eq (pc := 4) 30 dX11_seemed_4 (by decide) h (fun h => ?_) (fun h => ?_)
  · refine E_im1 (pc := 30) dX11_seemed_30 ?_
    exact E_ireturn (pc := 31) rfl rfl dX11_seemed_31 (QI_of h)
  · refine E_iload_n (pc := 7) rfl dX11_seemed_7 ?_
    obtain ⟨v4, s3, hp, h⟩ := bd2_some h
    refine E_callS (pc := 8) (As := [_]) (fc := (0, 0)) s11_197 oX11_isHour dX11_seemed_8 rfl rfl (Nat.le_of_ble_eq_true rfl) rfl rfl (by decide) (e_X11_isHour hp) (fun rv_ M_ hq_ => ?_)
    obtain ⟨rfl, rfl⟩ := hq_
    refine T_if_eq (pc := 11) 30 dX11_seemed_11 (by decide) h (fun h => ?_) (fun h => ?_)
    · refine E_im1 (pc := 30) dX11_seemed_30 ?_
      exact E_ireturn (pc := 31) rfl rfl dX11_seemed_31 (QI_of h)
    · refine E_aload_n (pc := 14) rfl dX11_seemed_14 ?_
      refine E_iload_n (pc := 15) rfl dX11_seemed_15 ?_
      obtain ⟨v6, s5, hp, h⟩ := bd2_some h
      refine E_callV (pc := 16) (As := [_]) (fc := (0, 0)) s11_207_11 oX11_isThing dX11_seemed_16 (mem_ob (ent_st SW0)) rfl rfl (Nat.le_of_ble_eq_true rfl) rfl rfl (by decide) (e_X11_isThing hp) (fun rv_ M_ hq_ => ?_)
      obtain ⟨rfl, rfl⟩ := hq_
      refine T_if_eq (pc := 19) 30 dX11_seemed_19 (by decide) h (fun h => ?_) (fun h => ?_)
      · refine E_im1 (pc := 30) dX11_seemed_30 ?_
        exact E_ireturn (pc := 31) rfl rfl dX11_seemed_31 (QI_of h)
      · refine E_iload (pc := 22) rfl dX11_seemed_22 ?_
        obtain ⟨v8, s7, hp, h⟩ := bd2_some h
        refine E_callS (pc := 24) (As := [_]) (fc := (0, 0)) s11_197 oX11_isHour dX11_seemed_24 rfl rfl (Nat.le_of_ble_eq_true rfl) rfl rfl (by decide) (e_X11_isHour hp) (fun rv_ M_ hq_ => ?_)
        obtain ⟨rfl, rfl⟩ := hq_
        refine T_if_ne (pc := 27) 32 dX11_seemed_27 (by decide) h (fun h => ?_) (fun h => ?_)
        · refine E_aload_n (pc := 32) rfl dX11_seemed_32 ?_
          refine E_aload_n (pc := 33) rfl dX11_seemed_33 ?_
          refine R_getR (pc := 34) (b := 2) f11_18 dX11_seemed_34 (ent_st SW0) (by decide) rfl rfl ?_
          refine E_iload_n (pc := 37) rfl dX11_seemed_37 ?_
          refine E_iload_n (pc := 38) rfl dX11_seemed_38 ?_
          obtain ⟨v10, s9, hp, h⟩ := bd2_some h
          refine E_callV (pc := 39) (As := [_, _]) (fc := (1, 20)) s11_287_10 oX10_toldBy dX11_seemed_39 (mem_ob (ent_st WO2.1)) rfl rfl (Nat.le_of_ble_eq_true rfl) rfl rfl (by decide) (e_X10_toldBy hp) (fun rv_ M_ hq_ => ?_)
          obtain ⟨rfl, rfl⟩ := hq_
          refine E_iload_n (pc := 42) rfl dX11_seemed_42 ?_
          refine E_iload (pc := 43) rfl dX11_seemed_43 ?_
          obtain ⟨v12, s11, hp, h⟩ := bd2_some h
          refine E_callV (pc := 45) (As := [_, _, _]) (fc := (5, 135)) s11_263_11 oX11_seems dX11_seemed_45 (mem_ob (ent_st SW0)) rfl rfl (Nat.le_of_ble_eq_true rfl) rfl rfl (by decide) (e_X11_seems hp) (fun rv_ M_ hq_ => ?_)
          obtain ⟨rfl, rfl⟩ := hq_
          exact E_ireturn (pc := 48) rfl rfl dX11_seemed_48 (QI_of h)
        · refine E_im1 (pc := 30) dX11_seemed_30 ?_
          exact E_ireturn (pc := 31) rfl rfl dX11_seemed_31 (QI_of h)
noncomputable def f_X11_act (x1 : Int32) (x2 : Int32) (x3 : Int32) (σ : ST) : Option (Int32 × ST) :=
    (wrI σ 230 21 (nI 0) (nI 0)).bind fun s1 =>
    bd2 (f_X10_pieceAt x1 s1) fun v3 s2 =>
    nl v3 (some ((nI 0), s2)) fun q4 =>
    if x2 < 0 then
    (some ((nI 0), s2))
    else (if x2 < (nI 3) then
    (if x2 = 0 then
    ((chkP [6, 4, 8, 9] s2 q4).bind fun c13 =>
    bd2 (f_V_tells c13 q4 x3 230 21 s2) fun v12 s11 =>
    some (v12, s11))
    else (if x2 = (nI 1) then
    ((chkP [6, 4, 8, 9] s2 q4).bind fun c10 =>
    bd2 (f_V_binds c10 q4 x3 230 21 s2) fun v9 s8 =>
    some (v9, s8))
    else ((chkP [6, 4, 8, 9] s2 q4).bind fun c7 =>
    bd2 (f_V_weighs c7 q4 x3 230 21 s2) fun v6 s5 =>
    some (v6, s5))))
    else (some ((nI 0), s2)))
theorem e_X11_act {G : GP} {x1 : Int32} {x2 : Int32} {x3 : Int32} {σ : ST} {v : Int32} {s : ST}  (h : f_X11_act x1 x2 x3 σ = some (v, s)) : E G mX11_act (8, 177) 0 [.ref 0, .int x1, .int x2, .int x3, D0] [] (mem σ) (QI v s) := by
  unfold f_X11_act at h
  refine E_aload_n (pc := 0) rfl dX11_act_0 ?_
  refine R_getR (pc := 1) (b := 230) f11_58 dX11_act_1 (ent_st SW0) (by decide) rfl rfl ?_
  refine E_iconst (pc := 4) 0 rfl dX11_act_4 ?_
  refine E_iconst (pc := 5) 0 rfl dX11_act_5 ?_
  refine T_iast (pc := 6) dX11_act_6 (ent_st LA230) (by decide) h (fun s1 h => ?_)
  refine E_aload_n (pc := 7) rfl dX11_act_7 ?_
  refine R_getR (pc := 8) (b := 2) f11_18 dX11_act_8 (ent_st SW0) (by decide) rfl rfl ?_
  refine E_iload_n (pc := 11) rfl dX11_act_11 ?_
  obtain ⟨v3, s2, hp, h⟩ := bd2_some h
  refine E_callV (pc := 12) (As := [_]) (fc := (0, 0)) s11_126_10 oX10_pieceAt dX11_act_12 (mem_ob (ent_st WO2.1)) rfl rfl (Nat.le_of_ble_eq_true rfl) rfl rfl (by decide) (e_X10_pieceAt hp) (fun rv_ M_ hq_ => ?_)
  obtain ⟨rfl, rfl⟩ := hq_
  refine T_astoreQ (pc := 15) (L2 := [_, _, _, _, _]) rfl rfl dX11_act_15 ?_
  refine T_aloadQ (pc := 17) rfl dX11_act_17 ?_
  cases v3 with
  | none =>
    replace h := nl_none h
    refine E_ifnullN (pc := 19) 31 (by decide) dX11_act_19 ?_
    refine E_iconst (pc := 31) 0 rfl dX11_act_31 ?_
    exact E_ireturn (pc := 32) rfl rfl dX11_act_32 (QI_of h)
  | some q4 =>
    replace h := nl_some h
    refine E_ifnull (pc := 19) dX11_act_19 ?_
    refine E_iload_n (pc := 22) rfl dX11_act_22 ?_
    refine T_if_lt (pc := 23) 31 dX11_act_23 (by decide) h (fun h => ?_) (fun h => ?_)
    · refine E_iconst (pc := 31) 0 rfl dX11_act_31 ?_
      exact E_ireturn (pc := 32) rfl rfl dX11_act_32 (QI_of h)
    · refine E_iload_n (pc := 26) rfl dX11_act_26 ?_
      refine E_iconst (pc := 27) 3 rfl dX11_act_27 ?_
      refine T_icmp_lt (pc := 28) 33 dX11_act_28 (by decide) h (fun h => ?_) (fun h => ?_)
      · refine E_iload_n (pc := 33) rfl dX11_act_33 ?_
        refine T_if_ne (pc := 34) 48 dX11_act_34 (by decide) h (fun h => ?_) (fun h => ?_)
        · refine E_iload_n (pc := 48) rfl dX11_act_48 ?_
          refine E_iconst (pc := 49) 1 rfl dX11_act_49 ?_
          refine T_icmp_ne (pc := 50) 66 dX11_act_50 (by decide) h (fun h => ?_) (fun h => ?_)
          · refine E_aload (pc := 66) rfl dX11_act_66 ?_
            refine E_iload_n (pc := 68) rfl dX11_act_68 ?_
            refine E_aload_n (pc := 69) rfl dX11_act_69 ?_
            refine R_getR (pc := 70) (b := 230) f11_58 dX11_act_70 (ent_st SW0) (by decide) rfl rfl ?_
            obtain ⟨c7, hc, h⟩ := bd_some h
            obtain ⟨hc, he⟩ := chkP_of hc
            rcases (by simpa using hc : c7 = 6 ∨ c7 = 4 ∨ c7 = 8 ∨ c7 = 9) with rfl | rfl | rfl | rfl
            · obtain ⟨v6, s5, hp, h⟩ := bd2_some h
              refine E_callV (pc := 73) (As := [_, _]) (fc := (6, 132)) s11_297_6 oX6_weighs dX11_act_73 (mem_ob he) rfl rfl (Nat.le_of_ble_eq_true rfl) rfl rfl (by decide) (e_X6_weighs ⟨LA230, (by decide)⟩ (f_V_weighs_6.symm.trans hp)) (fun rv_ M_ hq_ => ?_)
              obtain ⟨rfl, rfl⟩ := hq_
              exact E_ireturn (pc := 76) rfl rfl dX11_act_76 (QI_of h)
            · obtain ⟨v6, s5, hp, h⟩ := bd2_some h
              refine E_callV (pc := 73) (As := [_, _]) (fc := (6, 132)) s11_297_4 oX6_weighs dX11_act_73 (mem_ob he) rfl rfl (Nat.le_of_ble_eq_true rfl) rfl rfl (by decide) (e_X6_weighs ⟨LA230, (by decide)⟩ (f_V_weighs_4.symm.trans hp)) (fun rv_ M_ hq_ => ?_)
              obtain ⟨rfl, rfl⟩ := hq_
              exact E_ireturn (pc := 76) rfl rfl dX11_act_76 (QI_of h)
            · obtain ⟨v6, s5, hp, h⟩ := bd2_some h
              refine E_callV (pc := 73) (As := [_, _]) (fc := (6, 132)) s11_297_8 oX6_weighs dX11_act_73 (mem_ob he) rfl rfl (Nat.le_of_ble_eq_true rfl) rfl rfl (by decide) (e_X6_weighs ⟨LA230, (by decide)⟩ (f_V_weighs_8.symm.trans hp)) (fun rv_ M_ hq_ => ?_)
              obtain ⟨rfl, rfl⟩ := hq_
              exact E_ireturn (pc := 76) rfl rfl dX11_act_76 (QI_of h)
            · obtain ⟨v6, s5, hp, h⟩ := bd2_some h
              refine E_callV (pc := 73) (As := [_, _]) (fc := (7, 155)) s11_297_9 oX9_weighs dX11_act_73 (mem_ob he) rfl rfl (Nat.le_of_ble_eq_true rfl) rfl rfl (by decide) (e_X9_weighs ⟨LA230, (by decide)⟩ (f_V_weighs_9.symm.trans hp)) (fun rv_ M_ hq_ => ?_)
              obtain ⟨rfl, rfl⟩ := hq_
              exact E_ireturn (pc := 76) rfl rfl dX11_act_76 (QI_of h)
          · refine E_aload (pc := 53) rfl dX11_act_53 ?_
            refine E_iload_n (pc := 55) rfl dX11_act_55 ?_
            refine E_aload_n (pc := 56) rfl dX11_act_56 ?_
            refine R_getR (pc := 57) (b := 230) f11_58 dX11_act_57 (ent_st SW0) (by decide) rfl rfl ?_
            obtain ⟨c10, hc, h⟩ := bd_some h
            obtain ⟨hc, he⟩ := chkP_of hc
            rcases (by simpa using hc : c10 = 6 ∨ c10 = 4 ∨ c10 = 8 ∨ c10 = 9) with rfl | rfl | rfl | rfl
            · obtain ⟨v9, s8, hp, h⟩ := bd2_some h
              refine E_callV (pc := 60) (As := [_, _]) (fc := (3, 66)) s11_294_6 oX6_binds dX11_act_60 (mem_ob he) rfl rfl (Nat.le_of_ble_eq_true rfl) rfl rfl (by decide) (e_X6_binds ⟨LA230, (by decide)⟩ (f_V_binds_6.symm.trans hp)) (fun rv_ M_ hq_ => ?_)
              obtain ⟨rfl, rfl⟩ := hq_
              refine E_goto (pc := 63) 76 (by decide) dX11_act_63 ?_
              exact E_ireturn (pc := 76) rfl rfl dX11_act_76 (QI_of h)
            · obtain ⟨v9, s8, hp, h⟩ := bd2_some h
              refine E_callV (pc := 60) (As := [_, _]) (fc := (5, 110)) s11_294_4 oX4_binds dX11_act_60 (mem_ob he) rfl rfl (Nat.le_of_ble_eq_true rfl) rfl rfl (by decide) (e_X4_binds ⟨LA230, (by decide)⟩ (f_V_binds_4.symm.trans hp)) (fun rv_ M_ hq_ => ?_)
              obtain ⟨rfl, rfl⟩ := hq_
              refine E_goto (pc := 63) 76 (by decide) dX11_act_63 ?_
              exact E_ireturn (pc := 76) rfl rfl dX11_act_76 (QI_of h)
            · obtain ⟨v9, s8, hp, h⟩ := bd2_some h
              refine E_callV (pc := 60) (As := [_, _]) (fc := (4, 88)) s11_294_8 oX8_binds dX11_act_60 (mem_ob he) rfl rfl (Nat.le_of_ble_eq_true rfl) rfl rfl (by decide) (e_X8_binds ⟨LA230, (by decide)⟩ (f_V_binds_8.symm.trans hp)) (fun rv_ M_ hq_ => ?_)
              obtain ⟨rfl, rfl⟩ := hq_
              refine E_goto (pc := 63) 76 (by decide) dX11_act_63 ?_
              exact E_ireturn (pc := 76) rfl rfl dX11_act_76 (QI_of h)
            · obtain ⟨v9, s8, hp, h⟩ := bd2_some h
              refine E_callV (pc := 60) (As := [_, _]) (fc := (3, 66)) s11_294_9 oX6_binds dX11_act_60 (mem_ob he) rfl rfl (Nat.le_of_ble_eq_true rfl) rfl rfl (by decide) (e_X6_binds ⟨LA230, (by decide)⟩ (f_V_binds_9.symm.trans hp)) (fun rv_ M_ hq_ => ?_)
              obtain ⟨rfl, rfl⟩ := hq_
              refine E_goto (pc := 63) 76 (by decide) dX11_act_63 ?_
              exact E_ireturn (pc := 76) rfl rfl dX11_act_76 (QI_of h)
        · refine E_aload (pc := 37) rfl dX11_act_37 ?_
          refine E_iload_n (pc := 39) rfl dX11_act_39 ?_
          refine E_aload_n (pc := 40) rfl dX11_act_40 ?_
          refine R_getR (pc := 41) (b := 230) f11_58 dX11_act_41 (ent_st SW0) (by decide) rfl rfl ?_
          obtain ⟨c13, hc, h⟩ := bd_some h
          obtain ⟨hc, he⟩ := chkP_of hc
          rcases (by simpa using hc : c13 = 6 ∨ c13 = 4 ∨ c13 = 8 ∨ c13 = 9) with rfl | rfl | rfl | rfl
          · obtain ⟨v12, s11, hp, h⟩ := bd2_some h
            refine E_callV (pc := 44) (As := [_, _]) (fc := (1, 22)) s11_290_6 oX6_tells dX11_act_44 (mem_ob he) rfl rfl (Nat.le_of_ble_eq_true rfl) rfl rfl (by decide) (e_X6_tells ⟨LA230, (by decide)⟩ (f_V_tells_6.symm.trans hp)) (fun rv_ M_ hq_ => ?_)
            obtain ⟨rfl, rfl⟩ := hq_
            exact E_ireturn (pc := 47) rfl rfl dX11_act_47 (QI_of h)
          · obtain ⟨v12, s11, hp, h⟩ := bd2_some h
            refine E_callV (pc := 44) (As := [_, _]) (fc := (2, 44)) s11_290_4 oX4_tells dX11_act_44 (mem_ob he) rfl rfl (Nat.le_of_ble_eq_true rfl) rfl rfl (by decide) (e_X4_tells ⟨LA230, (by decide)⟩ (f_V_tells_4.symm.trans hp)) (fun rv_ M_ hq_ => ?_)
            obtain ⟨rfl, rfl⟩ := hq_
            exact E_ireturn (pc := 47) rfl rfl dX11_act_47 (QI_of h)
          · obtain ⟨v12, s11, hp, h⟩ := bd2_some h
            refine E_callV (pc := 44) (As := [_, _]) (fc := (1, 22)) s11_290_8 oX6_tells dX11_act_44 (mem_ob he) rfl rfl (Nat.le_of_ble_eq_true rfl) rfl rfl (by decide) (e_X6_tells ⟨LA230, (by decide)⟩ (f_V_tells_8.symm.trans hp)) (fun rv_ M_ hq_ => ?_)
            obtain ⟨rfl, rfl⟩ := hq_
            exact E_ireturn (pc := 47) rfl rfl dX11_act_47 (QI_of h)
          · obtain ⟨v12, s11, hp, h⟩ := bd2_some h
            refine E_callV (pc := 44) (As := [_, _]) (fc := (2, 44)) s11_290_9 oX9_tells dX11_act_44 (mem_ob he) rfl rfl (Nat.le_of_ble_eq_true rfl) rfl rfl (by decide) (e_X9_tells ⟨LA230, (by decide)⟩ (f_V_tells_9.symm.trans hp)) (fun rv_ M_ hq_ => ?_)
            obtain ⟨rfl, rfl⟩ := hq_
            exact E_ireturn (pc := 47) rfl rfl dX11_act_47 (QI_of h)
      · refine E_iconst (pc := 31) 0 rfl dX11_act_31 ?_
        exact E_ireturn (pc := 32) rfl rfl dX11_act_32 (QI_of h)
noncomputable def f_X11_trace (x1 : Int32) (σ : ST) : Option (Int32 × ST) :=
    if x1 < 0 then
    (some ((-1), σ))
    else (if x1 < (nI 20) then
    ((rdI σ 230 21 (nI 0)).bind fun v1 =>
    if x1 < v1 then
    ((rdI σ 230 21 ((nI 1) + x1)).bind fun v2 =>
    some (v2, σ))
    else (some ((-1), σ)))
    else (some ((-1), σ)))
theorem e_X11_trace {G : GP} {x1 : Int32} {σ : ST} {v : Int32} {s : ST}  (h : f_X11_trace x1 σ = some (v, s)) : E G mX11_trace (0, 0) 0 [.ref 0, .int x1] [] (mem σ) (QI v s) := by
  unfold f_X11_trace at h
  refine E_iload_n (pc := 0) rfl dX11_trace_0 ?_
  refine T_if_lt (pc := 1) 31 dX11_trace_1 (by decide) h (fun h => ?_) (fun h => ?_)
  · refine E_im1 (pc := 31) dX11_trace_31 ?_
    exact E_ireturn (pc := 32) rfl rfl dX11_trace_32 (QI_of h)
  · refine E_iload_n (pc := 4) rfl dX11_trace_4 ?_
    refine E_bipush (pc := 5) (nI 20) (by decide) dX11_trace_5 ?_
    refine T_icmp_ge (pc := 7) 31 dX11_trace_7 (by decide) h (fun h => ?_) (fun h => ?_)
    · refine E_im1 (pc := 31) dX11_trace_31 ?_
      exact E_ireturn (pc := 32) rfl rfl dX11_trace_32 (QI_of h)
    · refine E_iload_n (pc := 10) rfl dX11_trace_10 ?_
      refine E_aload_n (pc := 11) rfl dX11_trace_11 ?_
      refine R_getR (pc := 12) (b := 230) f11_58 dX11_trace_12 (ent_st SW0) (by decide) rfl rfl ?_
      refine E_iconst (pc := 15) 0 rfl dX11_trace_15 ?_
      refine T_iald (pc := 16) dX11_trace_16 (ent_st LA230) (by decide) h (fun v1 h => ?_)
      refine T_icmp_ge (pc := 17) 31 dX11_trace_17 (by decide) h (fun h => ?_) (fun h => ?_)
      · refine E_im1 (pc := 31) dX11_trace_31 ?_
        exact E_ireturn (pc := 32) rfl rfl dX11_trace_32 (QI_of h)
      · refine E_aload_n (pc := 20) rfl dX11_trace_20 ?_
        refine R_getR (pc := 21) (b := 230) f11_58 dX11_trace_21 (ent_st SW0) (by decide) rfl rfl ?_
        refine E_iconst (pc := 24) 1 rfl dX11_trace_24 ?_
        refine E_iload_n (pc := 25) rfl dX11_trace_25 ?_
        refine E_iadd (pc := 26) dX11_trace_26 ?_
        refine T_iald (pc := 27) dX11_trace_27 (ent_st LA230) (by decide) h (fun v2 h => ?_)
        refine E_goto (pc := 28) 32 (by decide) dX11_trace_28 ?_
        exact E_ireturn (pc := 32) rfl rfl dX11_trace_32 (QI_of h)
noncomputable def f_X11_image (σ : ST) : Option (Int32 × ST) :=
    (f_X10_become 95 2 σ).bind fun s1 =>
    (pfZ s1 0 10 (nI 1)).bind fun s2 =>
    some ((s2.1 95 2), s2)
theorem e_X11_image {G : GP} {σ : ST} {v : Int32} {s : ST}  (h : f_X11_image σ = some (v, s)) : E G mX11_image (4, 124) 0 [.ref 0] [] (mem σ) (QI v s) := by
  unfold f_X11_image at h
  refine E_aload_n (pc := 0) rfl dX11_image_0 ?_
  refine R_getR (pc := 1) (b := 95) f11_22 dX11_image_1 (ent_st SW0) (by decide) rfl rfl ?_
  refine E_aload_n (pc := 4) rfl dX11_image_4 ?_
  refine R_getR (pc := 5) (b := 2) f11_18 dX11_image_5 (ent_st SW0) (by decide) rfl rfl ?_
  obtain ⟨s1, hp, h⟩ := bd_some h
  refine E_callV (pc := 8) (As := [_]) (fc := (3, 102)) s11_300_10 oX10_become dX11_image_8 (mem_ob (ent_st WO95.1)) rfl rfl (Nat.le_of_ble_eq_true rfl) rfl rfl (by decide) (e_X10_become (Or.inr rfl) (Or.inl rfl) hp) (fun rv_ M_ hq_ => ?_)
  obtain ⟨rfl, rfl⟩ := hq_
  refine E_aload_n (pc := 11) rfl dX11_image_11 ?_
  refine E_iconst (pc := 12) 1 rfl dX11_image_12 ?_
  refine T_putZ (pc := 13) f11_61 dX11_image_13 (ent_st SW0) (by decide) rfl (by decide +kernel) h (fun s2 h => ?_)
  refine E_aload_n (pc := 16) rfl dX11_image_16 ?_
  refine R_getR (pc := 17) (b := 95) f11_22 dX11_image_17 (ent_st SW0) (by decide) rfl rfl ?_
  refine R_getI (pc := 20) f11_260 dX11_image_20 (ent_st WO95.1) (by decide) rfl ?_
  exact E_ireturn (pc := 23) rfl rfl dX11_image_23 (QI_of h)
noncomputable def f_X11_restore_37 : Nat → Int32 → ST → Option (Int32 × ST)
  | 0, _, _ => none
  | n + 1, x1, sg =>
    if x1 < (nI 8) then
    ((ixR 8 x1).bind fun j4 =>
    bd2 (f_X7_holdsPiece (231 + 2 * j4) sg) fun v6 s5 =>
    if v6 = 0 then
    ((f_X11_restore_37 n) (x1 + nI 1) s5)
    else ((ixR 8 x1).bind fun j7 =>
    if (s5.1 (231 + 2 * j7) 0) < (s5.1 2 2) then
    ((f_X11_restore_37 n) (x1 + nI 1) s5)
    else ((ixR 8 x1).bind fun j8 =>
    (f_X7_takePiece (231 + 2 * j8) (-1) s5).bind fun s9 =>
    (f_X11_restore_37 n) (x1 + nI 1) s9)))
    else (some ((sg.1 2 2), sg))
theorem e_X11_restore_37 {G : GP} {v : Int32} {s : ST}  : ∀ (n : Nat) {x1 : Int32} {sg : ST}, f_X11_restore_37 n x1 sg = some (v, s) → E G mX11_restore (4, 124) 37 [.ref 0, .int x1] [] (mem sg) (QI v s) := by
  intro n
  induction n with
  | zero => intro _ _ h; rw [f_X11_restore_37] at h; cases h
  | succ n ih =>
    intro x1 sg h
    rw [f_X11_restore_37] at h
    refine E_iload_n (pc := 37) rfl dX11_restore_37 ?_
    refine E_bipush (pc := 38) (nI 8) (by decide) dX11_restore_38 ?_
    refine T_icmp_ge (pc := 40) 90 dX11_restore_40 (by decide) h (fun h => ?_) (fun h => ?_)
    · refine E_aload_n (pc := 90) rfl dX11_restore_90 ?_
      refine R_getR (pc := 91) (b := 2) f11_18 dX11_restore_91 (ent_st SW0) (by decide) rfl rfl ?_
      refine R_getI (pc := 94) f11_260 dX11_restore_94 (ent_st WO2.1) (by decide) rfl ?_
      exact E_ireturn (pc := 97) rfl rfl dX11_restore_97 (QI_of h)
    · refine E_aload_n (pc := 43) rfl dX11_restore_43 ?_
      refine R_getR (pc := 44) (b := 1) f11_11 dX11_restore_44 (ent_st SW0) (by decide) rfl rfl ?_
      refine E_iload_n (pc := 47) rfl dX11_restore_47 ?_
      refine T_rald (pc := 48) (b := fun i => 231 + 2 * i) dX11_restore_48 (ent_st SW1) (by decide) (by decide) h (fun j4 hj4 h => ?_)
      obtain ⟨v6, s5, hp, h⟩ := bd2_some h
      refine E_callV (pc := 49) (As := []) (fc := (0, 0)) s11_98_7 oX7_holdsPiece dX11_restore_49 (mem_ob (ent_st (SH_s j4 hj4).1)) rfl rfl (Nat.le_of_ble_eq_true rfl) rfl rfl (by decide) (e_X7_holdsPiece (SH_s j4 hj4) hp) (fun rv_ M_ hq_ => ?_)
      obtain ⟨rfl, rfl⟩ := hq_
      refine T_if_eq (pc := 52) 84 dX11_restore_52 (by decide) h (fun h => ?_) (fun h => ?_)
      · refine T_iinc (pc := 84) (m := 1) (L2 := [_, _]) rfl rfl rfl rfl dX11_restore_84 ?_
        refine E_goto (pc := 87) 37 (by decide) dX11_restore_87 ?_
        exact ih h
      · refine E_aload_n (pc := 55) rfl dX11_restore_55 ?_
        refine R_getR (pc := 56) (b := 1) f11_11 dX11_restore_56 (ent_st SW0) (by decide) rfl rfl ?_
        refine E_iload_n (pc := 59) rfl dX11_restore_59 ?_
        refine T_rald (pc := 60) (b := fun i => 231 + 2 * i) dX11_restore_60 (ent_st SW1) (by decide) (by decide) h (fun j7 hj7 h => ?_)
        refine R_getI (pc := 61) f11_105 dX11_restore_61 (ent_st (SH_s j7 hj7).1) (by decide) rfl ?_
        refine E_aload_n (pc := 64) rfl dX11_restore_64 ?_
        refine R_getR (pc := 65) (b := 2) f11_18 dX11_restore_65 (ent_st SW0) (by decide) rfl rfl ?_
        refine R_getI (pc := 68) f11_260 dX11_restore_68 (ent_st WO2.1) (by decide) rfl ?_
        refine T_icmp_lt (pc := 71) 84 dX11_restore_71 (by decide) h (fun h => ?_) (fun h => ?_)
        · refine T_iinc (pc := 84) (m := 1) (L2 := [_, _]) rfl rfl rfl rfl dX11_restore_84 ?_
          refine E_goto (pc := 87) 37 (by decide) dX11_restore_87 ?_
          exact ih h
        · refine E_aload_n (pc := 74) rfl dX11_restore_74 ?_
          refine R_getR (pc := 75) (b := 1) f11_11 dX11_restore_75 (ent_st SW0) (by decide) rfl rfl ?_
          refine E_iload_n (pc := 78) rfl dX11_restore_78 ?_
          refine T_rald (pc := 79) (b := fun i => 231 + 2 * i) dX11_restore_79 (ent_st SW1) (by decide) (by decide) h (fun j8 hj8 h => ?_)
          refine E_im1 (pc := 80) dX11_restore_80 ?_
          obtain ⟨s9, hp, h⟩ := bd_some h
          refine E_callV (pc := 81) (As := [_]) (fc := (0, 0)) s11_130_7 oX7_takePiece dX11_restore_81 (mem_ob (ent_st (SH_s j8 hj8).1)) rfl rfl (Nat.le_of_ble_eq_true rfl) rfl rfl (by decide) (e_X7_takePiece (SH_s j8 hj8) hp) (fun rv_ M_ hq_ => ?_)
          obtain ⟨rfl, rfl⟩ := hq_
          refine T_iinc (pc := 84) (m := 1) (L2 := [_, _]) rfl rfl rfl rfl dX11_restore_84 ?_
          refine E_goto (pc := 87) 37 (by decide) dX11_restore_87 ?_
          exact ih h
noncomputable def f_X11_restore (σ : ST) : Option (Int32 × ST) :=
    if (σ.1 0 10) = 0 then
    (bd2 (f_X11_refuse (-6) σ) fun v11 s10 =>
    some (v11, s10))
    else ((f_X10_become 2 95 σ).bind fun s1 =>
    (pfZ s1 0 11 (nI 1)).bind fun s2 =>
    (pfZ s2 0 12 (nI 1)).bind fun s3 =>
    f_X11_restore_37 FU (nI 0) s3)
theorem e_X11_restore {G : GP} {σ : ST} {v : Int32} {s : ST}  (h : f_X11_restore σ = some (v, s)) : E G mX11_restore (4, 124) 0 [.ref 0, D0] [] (mem σ) (QI v s) := by
  unfold f_X11_restore at h
  refine E_aload_n (pc := 0) rfl dX11_restore_0 ?_
  refine R_getI (pc := 1) f11_61 dX11_restore_1 (ent_st SW0) (by decide) rfl ?_
  refine T_if_ne (pc := 4) 14 dX11_restore_4 (by decide) h (fun h => ?_) (fun h => ?_)
  · refine E_aload_n (pc := 14) rfl dX11_restore_14 ?_
    refine R_getR (pc := 15) (b := 2) f11_18 dX11_restore_15 (ent_st SW0) (by decide) rfl rfl ?_
    refine E_aload_n (pc := 18) rfl dX11_restore_18 ?_
    refine R_getR (pc := 19) (b := 95) f11_22 dX11_restore_19 (ent_st SW0) (by decide) rfl rfl ?_
    obtain ⟨s1, hp, h⟩ := bd_some h
    refine E_callV (pc := 22) (As := [_]) (fc := (3, 102)) s11_300_10 oX10_become dX11_restore_22 (mem_ob (ent_st WO2.1)) rfl rfl (Nat.le_of_ble_eq_true rfl) rfl rfl (by decide) (e_X10_become (Or.inl rfl) (Or.inr rfl) hp) (fun rv_ M_ hq_ => ?_)
    obtain ⟨rfl, rfl⟩ := hq_
    refine E_aload_n (pc := 25) rfl dX11_restore_25 ?_
    refine E_iconst (pc := 26) 1 rfl dX11_restore_26 ?_
    refine T_putZ (pc := 27) f11_65 dX11_restore_27 (ent_st SW0) (by decide) rfl (by decide +kernel) h (fun s2 h => ?_)
    refine E_aload_n (pc := 30) rfl dX11_restore_30 ?_
    refine E_iconst (pc := 31) 1 rfl dX11_restore_31 ?_
    refine T_putZ (pc := 32) f11_68 dX11_restore_32 (ent_st SW0) (by decide) rfl (by decide +kernel) h (fun s3 h => ?_)
    refine E_iconst (pc := 35) 0 rfl dX11_restore_35 ?_
    refine E_istore_n (pc := 36) (L2 := [_, _]) rfl rfl dX11_restore_36 ?_
    refine e_X11_restore_37  FU h
  · refine E_aload_n (pc := 7) rfl dX11_restore_7 ?_
    refine E_bipush (pc := 8) (-6) (by decide) dX11_restore_8 ?_
    obtain ⟨v11, s10, hp, h⟩ := bd2_some h
    refine E_callV (pc := 10) (As := [_]) (fc := (0, 0)) s11_80_11 oX11_refuse dX11_restore_10 (mem_ob (ent_st SW0)) rfl rfl (Nat.le_of_ble_eq_true rfl) rfl rfl (by decide) (e_X11_refuse hp) (fun rv_ M_ hq_ => ?_)
    obtain ⟨rfl, rfl⟩ := hq_
    exact E_ireturn (pc := 13) rfl rfl dX11_restore_13 (QI_of h)
noncomputable def f_X11_status (x1 : Int32) (σ : ST) : Option (Int32 × ST) :=
    if x1 = nI 0 then
    (some ((σ.1 2 0), σ))
    else if x1 = nI 1 then
    (some ((σ.1 2 1), σ))
    else if x1 = nI 2 then
    (some ((σ.1 2 2), σ))
    else if x1 = nI 3 then
    (bd2 (f_J6_bitCount_0f7a4 (σ.1 2 3) σ) fun v2 s1 =>
    some (v2, s1))
    else if x1 = nI 4 then
    ((rdI σ 230 21 (nI 0)).bind fun v3 =>
    some (v3, σ))
    else (if x1 < (nI 11) then
    (some ((-1), σ))
    else (if (nI 17) < x1 then
    (some ((-1), σ))
    else ((rdI σ 229 8 (x1 - (nI 10))).bind fun v4 =>
    some (v4, σ))))
theorem e_X11_status {G : GP} {x1 : Int32} {σ : ST} {v : Int32} {s : ST}  (h : f_X11_status x1 σ = some (v, s)) : E G mX11_status (1, 20) 0 [.ref 0, .int x1] [] (mem σ) (QI v s) := by
  unfold f_X11_status at h
  refine E_iload_n (pc := 0) rfl dX11_status_0 ?_
  refine T_tbl (pc := 1) (m := 0) 36 (by omega) (by decide) (by decide) dX11_status_1 rfl (by decide) h (fun h => ?_) (fun u1_0 h => ?_)
  · refine E_aload_n (pc := 36) rfl dX11_status_36 ?_
    refine R_getR (pc := 37) (b := 2) f11_18 dX11_status_37 (ent_st SW0) (by decide) rfl rfl ?_
    refine R_getI (pc := 40) f11_303 dX11_status_40 (ent_st WO2.1) (by decide) rfl ?_
    exact E_ireturn (pc := 43) rfl rfl dX11_status_43 (QI_of h)
  refine T_tbl (pc := 1) (m := 1) 44 (by omega) (by decide) (by decide) dX11_status_1 rfl (by decide) h (fun h => ?_) (fun u1_1 h => ?_)
  · refine E_aload_n (pc := 44) rfl dX11_status_44 ?_
    refine R_getR (pc := 45) (b := 2) f11_18 dX11_status_45 (ent_st SW0) (by decide) rfl rfl ?_
    refine R_getI (pc := 48) f11_174 dX11_status_48 (ent_st WO2.1) (by decide) rfl ?_
    exact E_ireturn (pc := 51) rfl rfl dX11_status_51 (QI_of h)
  refine T_tbl (pc := 1) (m := 2) 52 (by omega) (by decide) (by decide) dX11_status_1 rfl (by decide) h (fun h => ?_) (fun u1_2 h => ?_)
  · refine E_aload_n (pc := 52) rfl dX11_status_52 ?_
    refine R_getR (pc := 53) (b := 2) f11_18 dX11_status_53 (ent_st SW0) (by decide) rfl rfl ?_
    refine R_getI (pc := 56) f11_260 dX11_status_56 (ent_st WO2.1) (by decide) rfl ?_
    exact E_ireturn (pc := 59) rfl rfl dX11_status_59 (QI_of h)
  refine T_tbl (pc := 1) (m := 3) 60 (by omega) (by decide) (by decide) dX11_status_1 rfl (by decide) h (fun h => ?_) (fun u1_3 h => ?_)
  · refine E_aload_n (pc := 60) rfl dX11_status_60 ?_
    refine R_getR (pc := 61) (b := 2) f11_18 dX11_status_61 (ent_st SW0) (by decide) rfl rfl ?_
    refine R_getI (pc := 64) f11_220 dX11_status_64 (ent_st WO2.1) (by decide) rfl ?_
    obtain ⟨v2, s1, hp, h⟩ := bd2_some h
    refine E_callS (pc := 67) (As := [_]) (fc := (0, 0)) s11_306 oJ6_bitCount_0f7a4 dX11_status_67 rfl rfl (Nat.le_of_ble_eq_true rfl) rfl rfl (by decide) (e_J6_bitCount_0f7a4 hp) (fun rv_ M_ hq_ => ?_)
    obtain ⟨rfl, rfl⟩ := hq_
    exact E_ireturn (pc := 70) rfl rfl dX11_status_70 (QI_of h)
  refine T_tbl (pc := 1) (m := 4) 71 (by omega) (by decide) (by decide) dX11_status_1 rfl (by decide) h (fun h => ?_) (fun u1_4 h => ?_)
  · refine E_aload_n (pc := 71) rfl dX11_status_71 ?_
    refine R_getR (pc := 72) (b := 230) f11_58 dX11_status_72 (ent_st SW0) (by decide) rfl rfl ?_
    refine E_iconst (pc := 75) 0 rfl dX11_status_75 ?_
    refine T_iald (pc := 76) dX11_status_76 (ent_st LA230) (by decide) h (fun v3 h => ?_)
    exact E_ireturn (pc := 77) rfl rfl dX11_status_77 (QI_of h)
  refine E_tblOut (pc := 1) 78 (by omega) (by decide) dX11_status_1 ?_
  refine E_iload_n (pc := 78) rfl dX11_status_78 ?_
  refine E_bipush (pc := 79) (nI 11) (by decide) dX11_status_79 ?_
  refine T_icmp_lt (pc := 81) 102 dX11_status_81 (by decide) h (fun h => ?_) (fun h => ?_)
  · refine E_im1 (pc := 102) dX11_status_102 ?_
    exact E_ireturn (pc := 103) rfl rfl dX11_status_103 (QI_of h)
  · refine E_iload_n (pc := 84) rfl dX11_status_84 ?_
    refine E_bipush (pc := 85) (nI 17) (by decide) dX11_status_85 ?_
    refine T_icmp_gt (pc := 87) 102 dX11_status_87 (by decide) h (fun h => ?_) (fun h => ?_)
    · refine E_im1 (pc := 102) dX11_status_102 ?_
      exact E_ireturn (pc := 103) rfl rfl dX11_status_103 (QI_of h)
    · refine E_aload_n (pc := 90) rfl dX11_status_90 ?_
      refine R_getR (pc := 91) (b := 229) f11_53 dX11_status_91 (ent_st SW0) (by decide) rfl rfl ?_
      refine E_iload_n (pc := 94) rfl dX11_status_94 ?_
      refine E_bipush (pc := 95) (nI 10) (by decide) dX11_status_95 ?_
      refine E_isub (pc := 97) dX11_status_97 ?_
      refine T_iald (pc := 98) dX11_status_98 (ent_st RF229) (by decide) h (fun v4 h => ?_)
      refine E_goto (pc := 99) 103 (by decide) dX11_status_99 ?_
      exact E_ireturn (pc := 103) rfl rfl dX11_status_103 (QI_of h)
