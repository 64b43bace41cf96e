/-! ===== one step of the courses' walk ===== -/
theorem and255 (n : Nat) : nI n &&& nI 255 = nI (n % 256) := by
  rw [nI_and, show (255 : Nat) = 2 ^ 8 - 1 from rfl, Nat.and_two_pow_sub_one_eq_mod]
theorem and1 (n : Nat) : nI n &&& nI 1 = nI (n % 2) := by
  rw [nI_and, Nat.and_one_is_mod]
/-- bit k of a number -/
def bit (n k : Nat) : Bool := decide (n >>> k % 2 = 1)
theorem bit_ne {n k : Nat} : bit n k = true ↔ ¬ (n >>> k % 2 = 0) := by
  unfold bit
  rw [decide_eq_true_eq]
  omega
theorem bit_f {n k : Nat} : bit n k = false ↔ n >>> k % 2 = 0 := by
  unfold bit
  rw [decide_eq_false_iff_not]
  omega
def MOSTL : Int64 := 1000000000000000000
def minM (x : Int64) : Int64 := if MOSTL < x then MOSTL else x
def sh1 (x : Int64) : Int64 := x <<< ((nI 1).toInt64 &&& 63)
def wy (h x : Nat) : Nat := h % 2 * 1024 + x
def keepF (σ : ST) (c h fr to : Nat) (sd : Int32) (ch K : Nat) : ST :=
  setI (setI (setI (setI (setJ σ (c + 2) (wy h fr) (minM (σ.2.1 (c + 2) (wy h fr) + σ.2.1 (c + 2) (wy (h + 1) to)))) (c + 4) h (σ.1 (c + 4) h &&& sd)) (c + 5) h (σ.1 (c + 5) h ||| sd)) (c + 6) h (σ.1 (c + 6) h ||| nI (1 <<< ch))) (c + 7) h (σ.1 (c + 7) h ||| nI (1 <<< ((fr % 256) >>> K)))
def addF (σ : ST) (c h fr to : Nat) (cnt : Bool) : ST := setJ σ (c + 2) (wy (h + 1) to) (σ.2.1 (c + 2) (wy (h + 1) to) ||| (if cnt then sh1 (σ.2.1 (c + 2) (wy h fr)) else σ.2.1 (c + 2) (wy h fr)))
theorem wy_lt {h x : Nat} (hx : x < 1024) : wy h x < 2048 := by
  unfold wy
  omega
theorem wy_add (h x : Nat) : nI (h % 2 * 1024) + nI x = nI (wy h x) := nI_add _ _
theorem c_X2_keep {G : GP} {σ : ST} {c h fr to ch K : Nat} {sd : Int32} (hc : CU c) (hh : h < 12) (hfr : fr < 1024) (hto : to < 1024) (hch : ch < 7) (hK : σ.1 c 7 = nI K) (hK5 : K ≤ 5) (hsh : (fr % 256) >>> K < 32) : E G mX2_keep (1, 24) 0 [.ref c, .int (nI h), .int (nI fr), .int (nI to), .int sd, .int (nI ch), D0] [] (mem σ) (fun rv M' => rv = none ∧ M' = mem (keepF σ c h fr to sd ch K)) := by
  refine E_iload_n (pc := 0) rfl dX2_keep_0 ?_
  refine E_callS (pc := 1) (As := [_]) (fc := (0, 0)) s2_113 oX2_layerOf dX2_keep_1 rfl rfl (Nat.le_of_ble_eq_true rfl) rfl rfl (by decide) (c_X2_layerOf (h := h)) (fun rv_ M_ hq_ => ?_)
  obtain ⟨rfl, rfl⟩ := hq_
  refine E_iload_n (pc := 4) rfl dX2_keep_4 ?_
  refine E_iadd (pc := 5) dX2_keep_5 ?_
  rw [wy_add]
  refine E_istore (pc := 6) (L2 := [_, _, _, _, _, _, _]) rfl rfl dX2_keep_6 ?_
  refine E_aload_n (pc := 8) rfl dX2_keep_8 ?_
  refine R_getR (pc := 9) (b := c + 2) f2_15 dX2_keep_9 (ent_st hc.1) (by decide) rfl rfl ?_
  refine E_iload (pc := 12) rfl dX2_keep_12 ?_
  refine E_aload_n (pc := 14) rfl dX2_keep_14 ?_
  refine R_getR (pc := 15) (b := c + 2) f2_15 dX2_keep_15 (ent_st hc.1) (by decide) rfl rfl ?_
  refine E_iload (pc := 18) rfl dX2_keep_18 ?_
  refine R_jald (pc := 20) (j := wy h fr) dX2_keep_20 (ent_st hc.2.2.1) rfl (wy_lt hfr) (by decide) ?_
  refine E_aload_n (pc := 21) rfl dX2_keep_21 ?_
  refine R_getR (pc := 22) (b := c + 2) f2_15 dX2_keep_22 (ent_st hc.1) (by decide) rfl rfl ?_
  refine E_iload_n (pc := 25) rfl dX2_keep_25 ?_
  refine E_iconst (pc := 26) 1 rfl dX2_keep_26 ?_
  refine E_iadd (pc := 27) dX2_keep_27 ?_
  rw [nI_add]
  refine E_callS (pc := 28) (As := [_]) (fc := (0, 0)) s2_113 oX2_layerOf dX2_keep_28 rfl rfl (Nat.le_of_ble_eq_true rfl) rfl rfl (by decide) (c_X2_layerOf (h := (h + 1))) (fun rv_ M_ hq_ => ?_)
  obtain ⟨rfl, rfl⟩ := hq_
  refine E_iload_n (pc := 31) rfl dX2_keep_31 ?_
  refine E_iadd (pc := 32) dX2_keep_32 ?_
  rw [wy_add]
  refine R_jald (pc := 33) (j := wy (h + 1) to) dX2_keep_33 (ent_st hc.2.2.1) rfl (wy_lt hto) (by decide) ?_
  refine E_ladd (pc := 34) dX2_keep_34 ?_
  refine E_ldc2 (pc := 35) q2_122 dX2_keep_35 ?_
  refine E_mminL (pc := 38) (by decide +kernel) (by decide) (Nat.le_of_ble_eq_true rfl) dX2_keep_38 ?_
  refine R_jast (pc := 41) (j := wy h fr) dX2_keep_41 (ent_st hc.2.2.1) rfl (wy_lt hfr) (by decide) ?_
  refine E_aload_n (pc := 42) rfl dX2_keep_42 ?_
  refine R_getR (pc := 43) (b := c + 4) f2_45 dX2_keep_43 (ent_st hc.1) (by decide) rfl rfl ?_
  refine E_iload_n (pc := 46) rfl dX2_keep_46 ?_
  refine E_dup2 (pc := 47) rfl rfl dX2_keep_47 ?_
  refine V_iald (pc := 48) (j := h) dX2_keep_48 (ent_st hc.2.2.2.2.1) rfl (by omega) (by decide) rfl ?_
  refine E_iload (pc := 49) rfl dX2_keep_49 ?_
  refine E_iand (pc := 51) dX2_keep_51 ?_
  
  refine R_iast (pc := 52) (j := h) dX2_keep_52 (ent_st hc.2.2.2.2.1) rfl (by omega) (by decide) ?_
  refine E_aload_n (pc := 53) rfl dX2_keep_53 ?_
  refine R_getR (pc := 54) (b := c + 5) f2_48 dX2_keep_54 (ent_st hc.1) (by decide) rfl rfl ?_
  refine E_iload_n (pc := 57) rfl dX2_keep_57 ?_
  refine E_dup2 (pc := 58) rfl rfl dX2_keep_58 ?_
  refine V_iald (pc := 59) (j := h) dX2_keep_59 (ent_st hc.2.2.2.2.2.1) rfl (by omega) (by decide) (I_setI_ne _ _ (by omega)) ?_
  refine E_iload (pc := 60) rfl dX2_keep_60 ?_
  refine E_ior (pc := 62) dX2_keep_62 ?_
  
  refine R_iast (pc := 63) (j := h) dX2_keep_63 (ent_st hc.2.2.2.2.2.1) rfl (by omega) (by decide) ?_
  refine E_aload_n (pc := 64) rfl dX2_keep_64 ?_
  refine R_getR (pc := 65) (b := c + 6) f2_51 dX2_keep_65 (ent_st hc.1) (by decide) rfl rfl ?_
  refine E_iload_n (pc := 68) rfl dX2_keep_68 ?_
  refine E_dup2 (pc := 69) rfl rfl dX2_keep_69 ?_
  refine V_iald (pc := 70) (j := h) dX2_keep_70 (ent_st hc.2.2.2.2.2.2.1) rfl (by omega) (by decide) ((I_setI_ne _ _ (by omega)).trans (I_setI_ne _ _ (by omega))) ?_
  refine E_iconst (pc := 71) 1 rfl dX2_keep_71 ?_
  refine E_iload (pc := 72) rfl dX2_keep_72 ?_
  refine E_ishl (pc := 74) dX2_keep_74 ?_
  rw [nI_shl (by omega)]
  refine E_ior (pc := 75) dX2_keep_75 ?_
  
  refine R_iast (pc := 76) (j := h) dX2_keep_76 (ent_st hc.2.2.2.2.2.2.1) rfl (by omega) (by decide) ?_
  refine E_aload_n (pc := 77) rfl dX2_keep_77 ?_
  refine R_getR (pc := 78) (b := c + 7) f2_54 dX2_keep_78 (ent_st hc.1) (by decide) rfl rfl ?_
  refine E_iload_n (pc := 81) rfl dX2_keep_81 ?_
  refine E_dup2 (pc := 82) rfl rfl dX2_keep_82 ?_
  refine V_iald (pc := 83) (j := h) dX2_keep_83 (ent_st hc.2.2.2.2.2.2.2.1) rfl (by omega) (by decide) ((I_setI_ne _ _ (by omega)).trans ((I_setI_ne _ _ (by omega)).trans (I_setI_ne _ _ (by omega)))) ?_
  refine E_iconst (pc := 84) 1 rfl dX2_keep_84 ?_
  refine E_iload_n (pc := 85) rfl dX2_keep_85 ?_
  refine E_sipush (pc := 86) (nI 255) (by decide) dX2_keep_86 ?_
  refine E_iand (pc := 89) dX2_keep_89 ?_
  rw [and255]
  refine E_aload_n (pc := 90) rfl dX2_keep_90 ?_
  refine V_getI (pc := 91) f2_22 dX2_keep_91 (ent_st hc.1) (by decide) rfl ((I_setI_ne _ _ (by omega)).trans ((I_setI_ne _ _ (by omega)).trans ((I_setI_ne _ _ (by omega)).trans (hK)))) ?_
  refine E_ishr (pc := 94) dX2_keep_94 ?_
  rw [nI_shr (by omega) (by omega)]
  refine E_ishl (pc := 95) dX2_keep_95 ?_
  rw [nI_shl (by have := Nat.shiftRight_le (fr % 256) K; have h2 : (fr % 256) >>> K < 32 := hsh; omega)]
  refine E_ior (pc := 96) dX2_keep_96 ?_
  
  refine R_iast (pc := 97) (j := h) dX2_keep_97 (ent_st hc.2.2.2.2.2.2.2.1) rfl (by omega) (by decide) ?_
  refine E_return (pc := 98) rfl dX2_keep_98 ?_
  exact ⟨rfl, rfl⟩
theorem c_X2_addTally {G : GP} {σ : ST} {c h fr to ch b sd : Nat} (hc : CU c) (hh : h < 12) (hfr : fr < 1024) (hto : to < 1024) (hch : ch < 7) (hb : σ.1 c 11 = nI b) (hb16 : b < 16) (hsd : sd < 2 ^ 31) : E G mX2_addTally (1, 20) 0 [.ref c, .int (nI h), .int (nI fr), .int (nI to), .int (nI sd), .int (nI ch), D0, D0, D0] [] (mem σ) (fun rv M' => rv = none ∧ M' = mem (addF σ c h fr to (if b < 10 then bit sd b else decide (b = 10 + ch)))) := by
  refine E_aload_n (pc := 0) rfl dX2_addTally_0 ?_
  refine V_getI (pc := 1) f2_35 dX2_addTally_1 (ent_st hc.1) (by decide) rfl (hb) ?_
  refine E_bipush (pc := 4) (nI 10) (by decide) dX2_addTally_4 ?_
  refine N_icmp_ge (pc := 6) 29 dX2_addTally_6 (by decide) (by omega) (by omega) (fun g1 => ?_) (fun g1 => ?_)
  · refine E_aload_n (pc := 29) rfl dX2_addTally_29 ?_
    refine V_getI (pc := 30) f2_35 dX2_addTally_30 (ent_st hc.1) (by decide) rfl (hb) ?_
    refine E_bipush (pc := 33) (nI 10) (by decide) dX2_addTally_33 ?_
    refine E_iload (pc := 35) rfl dX2_addTally_35 ?_
    refine E_iadd (pc := 37) dX2_addTally_37 ?_
    rw [nI_add]
    refine N_icmp_ne (pc := 38) 45 dX2_addTally_38 (by decide) (by omega) (by omega) (fun g3 => ?_) (fun g3 => ?_)
    · refine E_iconst (pc := 45) 0 rfl dX2_addTally_45 ?_
      refine E_istore (pc := 46) (L2 := [_, _, _, _, _, _, _, _, _]) rfl rfl dX2_addTally_46 ?_
      refine E_aload_n (pc := 48) rfl dX2_addTally_48 ?_
      refine R_getR (pc := 49) (b := c + 2) f2_15 dX2_addTally_49 (ent_st hc.1) (by decide) rfl rfl ?_
      refine E_iload_n (pc := 52) rfl dX2_addTally_52 ?_
      refine E_callS (pc := 53) (As := [_]) (fc := (0, 0)) s2_113 oX2_layerOf dX2_addTally_53 rfl rfl (Nat.le_of_ble_eq_true rfl) rfl rfl (by decide) (c_X2_layerOf (h := h)) (fun rv_ M_ hq_ => ?_)
      obtain ⟨rfl, rfl⟩ := hq_
      refine E_iload_n (pc := 56) rfl dX2_addTally_56 ?_
      refine E_iadd (pc := 57) dX2_addTally_57 ?_
      rw [wy_add]
      refine R_jald (pc := 58) (j := wy h fr) dX2_addTally_58 (ent_st hc.2.2.1) rfl (wy_lt hfr) (by decide) ?_
      refine E_lstore (pc := 59) (L2 := [_, _, _, _, _, _, _, _, _]) rfl rfl dX2_addTally_59 ?_
      refine E_aload_n (pc := 61) rfl dX2_addTally_61 ?_
      refine R_getR (pc := 62) (b := c + 2) f2_15 dX2_addTally_62 (ent_st hc.1) (by decide) rfl rfl ?_
      refine E_iload_n (pc := 65) rfl dX2_addTally_65 ?_
      refine E_iconst (pc := 66) 1 rfl dX2_addTally_66 ?_
      refine E_iadd (pc := 67) dX2_addTally_67 ?_
      rw [nI_add]
      refine E_callS (pc := 68) (As := [_]) (fc := (0, 0)) s2_113 oX2_layerOf dX2_addTally_68 rfl rfl (Nat.le_of_ble_eq_true rfl) rfl rfl (by decide) (c_X2_layerOf (h := (h + 1))) (fun rv_ M_ hq_ => ?_)
      obtain ⟨rfl, rfl⟩ := hq_
      refine E_iload_n (pc := 71) rfl dX2_addTally_71 ?_
      refine E_iadd (pc := 72) dX2_addTally_72 ?_
      rw [wy_add]
      refine E_dup2 (pc := 73) rfl rfl dX2_addTally_73 ?_
      refine R_jald (pc := 74) (j := wy (h + 1) to) dX2_addTally_74 (ent_st hc.2.2.1) rfl (wy_lt hto) (by decide) ?_
      refine E_iload (pc := 75) rfl dX2_addTally_75 ?_
      refine N_if_eq (pc := 77) 87 dX2_addTally_77 (by decide) (by omega) (fun g4 => ?_) (fun g4 => ?_)
      · refine E_lload (pc := 87) rfl dX2_addTally_87 ?_
        refine E_lor (pc := 89) dX2_addTally_89 ?_
        refine R_jast (pc := 90) (j := wy (h + 1) to) dX2_addTally_90 (ent_st hc.2.2.1) rfl (wy_lt hto) (by decide) ?_
        refine E_return (pc := 91) rfl dX2_addTally_91 ?_
        first | (exfalso; omega) | (refine ⟨rfl, ?_⟩; rw [if_pos g1, bit_ne.mpr g2]; rfl) | (refine ⟨rfl, ?_⟩; rw [if_pos g1, bit_f.mpr g2]; rfl) | (refine ⟨rfl, ?_⟩; rw [if_neg (by omega), decide_eq_true g3]; rfl) | (refine ⟨rfl, ?_⟩; rw [if_neg (by omega), decide_eq_false g3]; rfl)
      · refine E_lload (pc := 80) rfl dX2_addTally_80 ?_
        refine E_iconst (pc := 82) 1 rfl dX2_addTally_82 ?_
        refine E_lshl (pc := 83) dX2_addTally_83 ?_
        refine E_goto (pc := 84) 89 (by decide) dX2_addTally_84 ?_
        refine E_lor (pc := 89) dX2_addTally_89 ?_
        refine R_jast (pc := 90) (j := wy (h + 1) to) dX2_addTally_90 (ent_st hc.2.2.1) rfl (wy_lt hto) (by decide) ?_
        refine E_return (pc := 91) rfl dX2_addTally_91 ?_
        first | (exfalso; omega) | (refine ⟨rfl, ?_⟩; rw [if_pos g1, bit_ne.mpr g2]; rfl) | (refine ⟨rfl, ?_⟩; rw [if_pos g1, bit_f.mpr g2]; rfl) | (refine ⟨rfl, ?_⟩; rw [if_neg (by omega), decide_eq_true g3]; rfl) | (refine ⟨rfl, ?_⟩; rw [if_neg (by omega), decide_eq_false g3]; rfl)
    · refine E_iconst (pc := 41) 1 rfl dX2_addTally_41 ?_
      refine E_goto (pc := 42) 46 (by decide) dX2_addTally_42 ?_
      refine E_istore (pc := 46) (L2 := [_, _, _, _, _, _, _, _, _]) rfl rfl dX2_addTally_46 ?_
      refine E_aload_n (pc := 48) rfl dX2_addTally_48 ?_
      refine R_getR (pc := 49) (b := c + 2) f2_15 dX2_addTally_49 (ent_st hc.1) (by decide) rfl rfl ?_
      refine E_iload_n (pc := 52) rfl dX2_addTally_52 ?_
      refine E_callS (pc := 53) (As := [_]) (fc := (0, 0)) s2_113 oX2_layerOf dX2_addTally_53 rfl rfl (Nat.le_of_ble_eq_true rfl) rfl rfl (by decide) (c_X2_layerOf (h := h)) (fun rv_ M_ hq_ => ?_)
      obtain ⟨rfl, rfl⟩ := hq_
      refine E_iload_n (pc := 56) rfl dX2_addTally_56 ?_
      refine E_iadd (pc := 57) dX2_addTally_57 ?_
      rw [wy_add]
      refine R_jald (pc := 58) (j := wy h fr) dX2_addTally_58 (ent_st hc.2.2.1) rfl (wy_lt hfr) (by decide) ?_
      refine E_lstore (pc := 59) (L2 := [_, _, _, _, _, _, _, _, _]) rfl rfl dX2_addTally_59 ?_
      refine E_aload_n (pc := 61) rfl dX2_addTally_61 ?_
      refine R_getR (pc := 62) (b := c + 2) f2_15 dX2_addTally_62 (ent_st hc.1) (by decide) rfl rfl ?_
      refine E_iload_n (pc := 65) rfl dX2_addTally_65 ?_
      refine E_iconst (pc := 66) 1 rfl dX2_addTally_66 ?_
      refine E_iadd (pc := 67) dX2_addTally_67 ?_
      rw [nI_add]
      refine E_callS (pc := 68) (As := [_]) (fc := (0, 0)) s2_113 oX2_layerOf dX2_addTally_68 rfl rfl (Nat.le_of_ble_eq_true rfl) rfl rfl (by decide) (c_X2_layerOf (h := (h + 1))) (fun rv_ M_ hq_ => ?_)
      obtain ⟨rfl, rfl⟩ := hq_
      refine E_iload_n (pc := 71) rfl dX2_addTally_71 ?_
      refine E_iadd (pc := 72) dX2_addTally_72 ?_
      rw [wy_add]
      refine E_dup2 (pc := 73) rfl rfl dX2_addTally_73 ?_
      refine R_jald (pc := 74) (j := wy (h + 1) to) dX2_addTally_74 (ent_st hc.2.2.1) rfl (wy_lt hto) (by decide) ?_
      refine E_iload (pc := 75) rfl dX2_addTally_75 ?_
      refine N_if_eq (pc := 77) 87 dX2_addTally_77 (by decide) (by omega) (fun g4 => ?_) (fun g4 => ?_)
      · refine E_lload (pc := 87) rfl dX2_addTally_87 ?_
        refine E_lor (pc := 89) dX2_addTally_89 ?_
        refine R_jast (pc := 90) (j := wy (h + 1) to) dX2_addTally_90 (ent_st hc.2.2.1) rfl (wy_lt hto) (by decide) ?_
        refine E_return (pc := 91) rfl dX2_addTally_91 ?_
        first | (exfalso; omega) | (refine ⟨rfl, ?_⟩; rw [if_pos g1, bit_ne.mpr g2]; rfl) | (refine ⟨rfl, ?_⟩; rw [if_pos g1, bit_f.mpr g2]; rfl) | (refine ⟨rfl, ?_⟩; rw [if_neg (by omega), decide_eq_true g3]; rfl) | (refine ⟨rfl, ?_⟩; rw [if_neg (by omega), decide_eq_false g3]; rfl)
      · refine E_lload (pc := 80) rfl dX2_addTally_80 ?_
        refine E_iconst (pc := 82) 1 rfl dX2_addTally_82 ?_
        refine E_lshl (pc := 83) dX2_addTally_83 ?_
        refine E_goto (pc := 84) 89 (by decide) dX2_addTally_84 ?_
        refine E_lor (pc := 89) dX2_addTally_89 ?_
        refine R_jast (pc := 90) (j := wy (h + 1) to) dX2_addTally_90 (ent_st hc.2.2.1) rfl (wy_lt hto) (by decide) ?_
        refine E_return (pc := 91) rfl dX2_addTally_91 ?_
        first | (exfalso; omega) | (refine ⟨rfl, ?_⟩; rw [if_pos g1, bit_ne.mpr g2]; rfl) | (refine ⟨rfl, ?_⟩; rw [if_pos g1, bit_f.mpr g2]; rfl) | (refine ⟨rfl, ?_⟩; rw [if_neg (by omega), decide_eq_true g3]; rfl) | (refine ⟨rfl, ?_⟩; rw [if_neg (by omega), decide_eq_false g3]; rfl)
  · refine E_iload (pc := 9) rfl dX2_addTally_9 ?_
    refine E_aload_n (pc := 11) rfl dX2_addTally_11 ?_
    refine V_getI (pc := 12) f2_35 dX2_addTally_12 (ent_st hc.1) (by decide) rfl (hb) ?_
    refine E_ishr (pc := 15) dX2_addTally_15 ?_
    rw [nI_shr (by omega) (by omega)]
    refine E_iconst (pc := 16) 1 rfl dX2_addTally_16 ?_
    refine E_iand (pc := 17) dX2_addTally_17 ?_
    rw [and1]
    refine N_if_eq (pc := 18) 25 dX2_addTally_18 (by decide) (by omega) (fun g2 => ?_) (fun g2 => ?_)
    · refine E_iconst (pc := 25) 0 rfl dX2_addTally_25 ?_
      refine E_goto (pc := 26) 46 (by decide) dX2_addTally_26 ?_
      refine E_istore (pc := 46) (L2 := [_, _, _, _, _, _, _, _, _]) rfl rfl dX2_addTally_46 ?_
      refine E_aload_n (pc := 48) rfl dX2_addTally_48 ?_
      refine R_getR (pc := 49) (b := c + 2) f2_15 dX2_addTally_49 (ent_st hc.1) (by decide) rfl rfl ?_
      refine E_iload_n (pc := 52) rfl dX2_addTally_52 ?_
      refine E_callS (pc := 53) (As := [_]) (fc := (0, 0)) s2_113 oX2_layerOf dX2_addTally_53 rfl rfl (Nat.le_of_ble_eq_true rfl) rfl rfl (by decide) (c_X2_layerOf (h := h)) (fun rv_ M_ hq_ => ?_)
      obtain ⟨rfl, rfl⟩ := hq_
      refine E_iload_n (pc := 56) rfl dX2_addTally_56 ?_
      refine E_iadd (pc := 57) dX2_addTally_57 ?_
      rw [wy_add]
      refine R_jald (pc := 58) (j := wy h fr) dX2_addTally_58 (ent_st hc.2.2.1) rfl (wy_lt hfr) (by decide) ?_
      refine E_lstore (pc := 59) (L2 := [_, _, _, _, _, _, _, _, _]) rfl rfl dX2_addTally_59 ?_
      refine E_aload_n (pc := 61) rfl dX2_addTally_61 ?_
      refine R_getR (pc := 62) (b := c + 2) f2_15 dX2_addTally_62 (ent_st hc.1) (by decide) rfl rfl ?_
      refine E_iload_n (pc := 65) rfl dX2_addTally_65 ?_
      refine E_iconst (pc := 66) 1 rfl dX2_addTally_66 ?_
      refine E_iadd (pc := 67) dX2_addTally_67 ?_
      rw [nI_add]
      refine E_callS (pc := 68) (As := [_]) (fc := (0, 0)) s2_113 oX2_layerOf dX2_addTally_68 rfl rfl (Nat.le_of_ble_eq_true rfl) rfl rfl (by decide) (c_X2_layerOf (h := (h + 1))) (fun rv_ M_ hq_ => ?_)
      obtain ⟨rfl, rfl⟩ := hq_
      refine E_iload_n (pc := 71) rfl dX2_addTally_71 ?_
      refine E_iadd (pc := 72) dX2_addTally_72 ?_
      rw [wy_add]
      refine E_dup2 (pc := 73) rfl rfl dX2_addTally_73 ?_
      refine R_jald (pc := 74) (j := wy (h + 1) to) dX2_addTally_74 (ent_st hc.2.2.1) rfl (wy_lt hto) (by decide) ?_
      refine E_iload (pc := 75) rfl dX2_addTally_75 ?_
      refine N_if_eq (pc := 77) 87 dX2_addTally_77 (by decide) (by omega) (fun g4 => ?_) (fun g4 => ?_)
      · refine E_lload (pc := 87) rfl dX2_addTally_87 ?_
        refine E_lor (pc := 89) dX2_addTally_89 ?_
        refine R_jast (pc := 90) (j := wy (h + 1) to) dX2_addTally_90 (ent_st hc.2.2.1) rfl (wy_lt hto) (by decide) ?_
        refine E_return (pc := 91) rfl dX2_addTally_91 ?_
        first | (exfalso; omega) | (refine ⟨rfl, ?_⟩; rw [if_pos g1, bit_ne.mpr g2]; rfl) | (refine ⟨rfl, ?_⟩; rw [if_pos g1, bit_f.mpr g2]; rfl) | (refine ⟨rfl, ?_⟩; rw [if_neg (by omega), decide_eq_true g3]; rfl) | (refine ⟨rfl, ?_⟩; rw [if_neg (by omega), decide_eq_false g3]; rfl)
      · refine E_lload (pc := 80) rfl dX2_addTally_80 ?_
        refine E_iconst (pc := 82) 1 rfl dX2_addTally_82 ?_
        refine E_lshl (pc := 83) dX2_addTally_83 ?_
        refine E_goto (pc := 84) 89 (by decide) dX2_addTally_84 ?_
        refine E_lor (pc := 89) dX2_addTally_89 ?_
        refine R_jast (pc := 90) (j := wy (h + 1) to) dX2_addTally_90 (ent_st hc.2.2.1) rfl (wy_lt hto) (by decide) ?_
        refine E_return (pc := 91) rfl dX2_addTally_91 ?_
        first | (exfalso; omega) | (refine ⟨rfl, ?_⟩; rw [if_pos g1, bit_ne.mpr g2]; rfl) | (refine ⟨rfl, ?_⟩; rw [if_pos g1, bit_f.mpr g2]; rfl) | (refine ⟨rfl, ?_⟩; rw [if_neg (by omega), decide_eq_true g3]; rfl) | (refine ⟨rfl, ?_⟩; rw [if_neg (by omega), decide_eq_false g3]; rfl)
    · refine E_iconst (pc := 21) 1 rfl dX2_addTally_21 ?_
      refine E_goto (pc := 22) 46 (by decide) dX2_addTally_22 ?_
      refine E_istore (pc := 46) (L2 := [_, _, _, _, _, _, _, _, _]) rfl rfl dX2_addTally_46 ?_
      refine E_aload_n (pc := 48) rfl dX2_addTally_48 ?_
      refine R_getR (pc := 49) (b := c + 2) f2_15 dX2_addTally_49 (ent_st hc.1) (by decide) rfl rfl ?_
      refine E_iload_n (pc := 52) rfl dX2_addTally_52 ?_
      refine E_callS (pc := 53) (As := [_]) (fc := (0, 0)) s2_113 oX2_layerOf dX2_addTally_53 rfl rfl (Nat.le_of_ble_eq_true rfl) rfl rfl (by decide) (c_X2_layerOf (h := h)) (fun rv_ M_ hq_ => ?_)
      obtain ⟨rfl, rfl⟩ := hq_
      refine E_iload_n (pc := 56) rfl dX2_addTally_56 ?_
      refine E_iadd (pc := 57) dX2_addTally_57 ?_
      rw [wy_add]
      refine R_jald (pc := 58) (j := wy h fr) dX2_addTally_58 (ent_st hc.2.2.1) rfl (wy_lt hfr) (by decide) ?_
      refine E_lstore (pc := 59) (L2 := [_, _, _, _, _, _, _, _, _]) rfl rfl dX2_addTally_59 ?_
      refine E_aload_n (pc := 61) rfl dX2_addTally_61 ?_
      refine R_getR (pc := 62) (b := c + 2) f2_15 dX2_addTally_62 (ent_st hc.1) (by decide) rfl rfl ?_
      refine E_iload_n (pc := 65) rfl dX2_addTally_65 ?_
      refine E_iconst (pc := 66) 1 rfl dX2_addTally_66 ?_
      refine E_iadd (pc := 67) dX2_addTally_67 ?_
      rw [nI_add]
      refine E_callS (pc := 68) (As := [_]) (fc := (0, 0)) s2_113 oX2_layerOf dX2_addTally_68 rfl rfl (Nat.le_of_ble_eq_true rfl) rfl rfl (by decide) (c_X2_layerOf (h := (h + 1))) (fun rv_ M_ hq_ => ?_)
      obtain ⟨rfl, rfl⟩ := hq_
      refine E_iload_n (pc := 71) rfl dX2_addTally_71 ?_
      refine E_iadd (pc := 72) dX2_addTally_72 ?_
      rw [wy_add]
      refine E_dup2 (pc := 73) rfl rfl dX2_addTally_73 ?_
      refine R_jald (pc := 74) (j := wy (h + 1) to) dX2_addTally_74 (ent_st hc.2.2.1) rfl (wy_lt hto) (by decide) ?_
      refine E_iload (pc := 75) rfl dX2_addTally_75 ?_
      refine N_if_eq (pc := 77) 87 dX2_addTally_77 (by decide) (by omega) (fun g4 => ?_) (fun g4 => ?_)
      · refine E_lload (pc := 87) rfl dX2_addTally_87 ?_
        refine E_lor (pc := 89) dX2_addTally_89 ?_
        refine R_jast (pc := 90) (j := wy (h + 1) to) dX2_addTally_90 (ent_st hc.2.2.1) rfl (wy_lt hto) (by decide) ?_
        refine E_return (pc := 91) rfl dX2_addTally_91 ?_
        first | (exfalso; omega) | (refine ⟨rfl, ?_⟩; rw [if_pos g1, bit_ne.mpr g2]; rfl) | (refine ⟨rfl, ?_⟩; rw [if_pos g1, bit_f.mpr g2]; rfl) | (refine ⟨rfl, ?_⟩; rw [if_neg (by omega), decide_eq_true g3]; rfl) | (refine ⟨rfl, ?_⟩; rw [if_neg (by omega), decide_eq_false g3]; rfl)
      · refine E_lload (pc := 80) rfl dX2_addTally_80 ?_
        refine E_iconst (pc := 82) 1 rfl dX2_addTally_82 ?_
        refine E_lshl (pc := 83) dX2_addTally_83 ?_
        refine E_goto (pc := 84) 89 (by decide) dX2_addTally_84 ?_
        refine E_lor (pc := 89) dX2_addTally_89 ?_
        refine R_jast (pc := 90) (j := wy (h + 1) to) dX2_addTally_90 (ent_st hc.2.2.1) rfl (wy_lt hto) (by decide) ?_
        refine E_return (pc := 91) rfl dX2_addTally_91 ?_
        first | (exfalso; omega) | (refine ⟨rfl, ?_⟩; rw [if_pos g1, bit_ne.mpr g2]; rfl) | (refine ⟨rfl, ?_⟩; rw [if_pos g1, bit_f.mpr g2]; rfl) | (refine ⟨rfl, ?_⟩; rw [if_neg (by omega), decide_eq_true g3]; rfl) | (refine ⟨rfl, ?_⟩; rw [if_neg (by omega), decide_eq_false g3]; rfl)
theorem c_X0_flagsAfter {G : GP} {σ : ST} {a h fl ch br du : Nat} (ha : AS a) (hh : h < 12) (hch : ch < 7) (hbr : σ.1 (a + 6) (h * 7 + ch) = nI br) (hdu : σ.1 (a + 7) h = nI du) (hfl : fl < 4) (hbr4 : br < 4) (hdu4 : du < 4) : E G mX0_flagsAfter (0, 0) 0 [.ref a, .int (nI fl), .int (nI h), .int (nI ch), D0] [] (mem σ) (fun rv M' => rv = some (.int (if (fl ||| br) &&& du = du then nI (fl ||| br) else -1)) ∧ M' = mem σ) := by
  refine E_iload_n (pc := 0) rfl dX0_flagsAfter_0 ?_
  refine E_aload_n (pc := 1) rfl dX0_flagsAfter_1 ?_
  refine R_getR (pc := 2) (b := a + 6) f0_27 dX0_flagsAfter_2 (ent_st ha.1) (by decide) rfl rfl ?_
  refine E_iload_n (pc := 5) rfl dX0_flagsAfter_5 ?_
  refine E_bipush (pc := 6) (nI 7) (by decide) dX0_flagsAfter_6 ?_
  refine E_imul (pc := 8) dX0_flagsAfter_8 ?_
  rw [nI_mul]
  refine E_iload_n (pc := 9) rfl dX0_flagsAfter_9 ?_
  refine E_iadd (pc := 10) dX0_flagsAfter_10 ?_
  rw [nI_add]
  refine V_iald (pc := 11) (j := h * 7 + ch) dX0_flagsAfter_11 (ent_st ha.2.2.2.2.2.2.1) (by first | rfl | simp only [nI_mul, nI_add]) (by omega) (by decide) (hbr) ?_
  refine E_ior (pc := 12) dX0_flagsAfter_12 ?_
  rw [nI_or]
  refine E_istore (pc := 13) (L2 := [_, _, _, _, _]) rfl rfl dX0_flagsAfter_13 ?_
  have hor : fl ||| br < 4 := Nat.or_lt_two_pow (n := 2) hfl hbr4
  have han : (fl ||| br) &&& du < 4 := Nat.and_lt_two_pow (n := 2) _ hdu4
  refine E_iload (pc := 15) rfl dX0_flagsAfter_15 ?_
  refine E_aload_n (pc := 17) rfl dX0_flagsAfter_17 ?_
  refine R_getR (pc := 18) (b := a + 7) f0_30 dX0_flagsAfter_18 (ent_st ha.1) (by decide) rfl rfl ?_
  refine E_iload_n (pc := 21) rfl dX0_flagsAfter_21 ?_
  refine V_iald (pc := 22) (j := h) dX0_flagsAfter_22 (ent_st ha.2.2.2.2.2.2.2) rfl (by omega) (by decide) (hdu) ?_
  refine E_iand (pc := 23) dX0_flagsAfter_23 ?_
  rw [nI_and]
  refine E_aload_n (pc := 24) rfl dX0_flagsAfter_24 ?_
  refine R_getR (pc := 25) (b := a + 7) f0_30 dX0_flagsAfter_25 (ent_st ha.1) (by decide) rfl rfl ?_
  refine E_iload_n (pc := 28) rfl dX0_flagsAfter_28 ?_
  refine V_iald (pc := 29) (j := h) dX0_flagsAfter_29 (ent_st ha.2.2.2.2.2.2.2) rfl (by omega) (by decide) (hdu) ?_
  refine N_icmp_ne (pc := 30) 38 dX0_flagsAfter_30 (by decide) (by omega) (by omega) (fun hx => ?_) (fun hx => ?_)
  · refine E_im1 (pc := 38) dX0_flagsAfter_38 ?_
    refine E_ireturn (pc := 39) rfl rfl dX0_flagsAfter_39 ?_
    first | (rw [if_pos hx]; exact ⟨rfl, rfl⟩) | (rw [if_neg hx]; exact ⟨rfl, rfl⟩)
  · refine E_iload (pc := 33) rfl dX0_flagsAfter_33 ?_
    refine E_goto (pc := 35) 39 (by decide) dX0_flagsAfter_35 ?_
    refine E_ireturn (pc := 39) rfl rfl dX0_flagsAfter_39 ?_
    first | (rw [if_pos hx]; exact ⟨rfl, rfl⟩) | (rw [if_neg hx]; exact ⟨rfl, rfl⟩)
theorem c_X0_mayChoose {G : GP} {σ : ST} {a h ch cs : Nat} (ha : AS a) (hh : h < 12) (hch : ch < 7) (hcs : σ.1 (a + 4) h = nI cs) (hcs2 : cs < 2 ^ 31) : E G mX0_mayChoose (0, 0) 0 [.ref a, .int (nI h), .int (nI ch)] [] (mem σ) (fun rv M' => rv = some (.int (b2 (bit cs ch))) ∧ M' = mem σ) := by
  refine E_aload_n (pc := 0) rfl dX0_mayChoose_0 ?_
  refine R_getR (pc := 1) (b := a + 4) f0_21 dX0_mayChoose_1 (ent_st ha.1) (by decide) rfl rfl ?_
  refine E_iload_n (pc := 4) rfl dX0_mayChoose_4 ?_
  refine V_iald (pc := 5) (j := h) dX0_mayChoose_5 (ent_st ha.2.2.2.2.1) rfl (by omega) (by decide) (hcs) ?_
  refine E_iload_n (pc := 6) rfl dX0_mayChoose_6 ?_
  refine E_ishr (pc := 7) dX0_mayChoose_7 ?_
  rw [nI_shr (by omega) (by omega)]
  refine E_iconst (pc := 8) 1 rfl dX0_mayChoose_8 ?_
  refine E_iand (pc := 9) dX0_mayChoose_9 ?_
  rw [and1]
  refine N_if_eq (pc := 10) 17 dX0_mayChoose_10 (by decide) (by omega) (fun hx => ?_) (fun hx => ?_)
  · refine E_iconst (pc := 17) 0 rfl dX0_mayChoose_17 ?_
    refine E_ireturn (pc := 18) rfl (by decide) dX0_mayChoose_18 ?_
    first | exact ⟨b2_eq1 (bit_ne.mpr hx), rfl⟩ | exact ⟨b2_eq0 (bit_f.mpr hx), rfl⟩
  · refine E_iconst (pc := 13) 1 rfl dX0_mayChoose_13 ?_
    refine E_goto (pc := 14) 18 (by decide) dX0_mayChoose_14 ?_
    refine E_ireturn (pc := 18) rfl (by decide) dX0_mayChoose_18 ?_
    first | exact ⟨b2_eq1 (bit_ne.mpr hx), rfl⟩ | exact ⟨b2_eq0 (bit_f.mpr hx), rfl⟩
theorem c_X2_surely {G : GP} {σ : ST} {c h b m : Nat} (hc : CU c) (hh : h < 12) (hb : b < 32) (hm : σ.1 (c + 4) h = nI m) (hm2 : m < 2 ^ 31) : E G mX2_surely (0, 0) 0 [.ref c, .int (nI b), .int (nI h)] [] (mem σ) (fun rv M' => rv = some (.int (b2 (bit m b))) ∧ M' = mem σ) := by
  refine E_aload_n (pc := 0) rfl dX2_surely_0 ?_
  refine R_getR (pc := 1) (b := c + 4) f2_45 dX2_surely_1 (ent_st hc.1) (by decide) rfl rfl ?_
  refine E_iload_n (pc := 4) rfl dX2_surely_4 ?_
  refine V_iald (pc := 5) (j := h) dX2_surely_5 (ent_st hc.2.2.2.2.1) rfl (by omega) (by decide) (hm) ?_
  refine E_iload_n (pc := 6) rfl dX2_surely_6 ?_
  refine E_ishr (pc := 7) dX2_surely_7 ?_
  rw [nI_shr (by omega) (by omega)]
  refine E_iconst (pc := 8) 1 rfl dX2_surely_8 ?_
  refine E_iand (pc := 9) dX2_surely_9 ?_
  rw [and1]
  refine N_if_eq (pc := 10) 17 dX2_surely_10 (by decide) (by omega) (fun hx => ?_) (fun hx => ?_)
  · refine E_iconst (pc := 17) 0 rfl dX2_surely_17 ?_
    refine E_ireturn (pc := 18) rfl (by decide) dX2_surely_18 ?_
    first | exact ⟨b2_eq1 (bit_ne.mpr hx), rfl⟩ | exact ⟨b2_eq0 (bit_f.mpr hx), rfl⟩
  · refine E_iconst (pc := 13) 1 rfl dX2_surely_13 ?_
    refine E_goto (pc := 14) 18 (by decide) dX2_surely_14 ?_
    refine E_ireturn (pc := 18) rfl (by decide) dX2_surely_18 ?_
    first | exact ⟨b2_eq1 (bit_ne.mpr hx), rfl⟩ | exact ⟨b2_eq0 (bit_f.mpr hx), rfl⟩
theorem c_X0_allows {G : GP} {σ : ST} {a h t r so ns va : Nat} (ha : AS a) (hh : h < 12) (hr : r < 8) (h1 : σ.1 (a + 1) h = nI so) (h2 : σ.1 (a + 2) h = nI ns) (h3 : σ.1 (a + 3) h = nI va) (ht : t < 2 ^ 20) (hso : so < 2 ^ 20) (hns : ns < 2 ^ 20) (hva : va < 2 ^ 20) : E G mX0_allows (0, 0) 0 [.ref a, .int (nI h), .int (nI t), .int (nI r)] [] (mem σ) (fun rv M' => rv = some (.int (b2 (decide (t &&& so = so) && (decide (t &&& ns = 0) && bit va r)))) ∧ M' = mem σ) := by
  have a1 : t &&& so < 2 ^ 20 := Nat.and_lt_two_pow _ hso
  have a2 : t &&& ns < 2 ^ 20 := Nat.and_lt_two_pow _ hns
  refine E_iload_n (pc := 0) rfl dX0_allows_0 ?_
  refine E_aload_n (pc := 1) rfl dX0_allows_1 ?_
  refine R_getR (pc := 2) (b := a + 1) f0_9 dX0_allows_2 (ent_st ha.1) (by decide) rfl rfl ?_
  refine E_iload_n (pc := 5) rfl dX0_allows_5 ?_
  refine V_iald (pc := 6) (j := h) dX0_allows_6 (ent_st ha.2.1) rfl (by omega) (by decide) (h1) ?_
  refine E_iand (pc := 7) dX0_allows_7 ?_
  rw [nI_and]
  refine E_aload_n (pc := 8) rfl dX0_allows_8 ?_
  refine R_getR (pc := 9) (b := a + 1) f0_9 dX0_allows_9 (ent_st ha.1) (by decide) rfl rfl ?_
  refine E_iload_n (pc := 12) rfl dX0_allows_12 ?_
  refine V_iald (pc := 13) (j := h) dX0_allows_13 (ent_st ha.2.1) rfl (by omega) (by decide) (h1) ?_
  refine N_icmp_ne (pc := 14) 45 dX0_allows_14 (by decide) (by omega) (by omega) (fun g1 => ?_) (fun g1 => ?_)
  · refine E_iconst (pc := 45) 0 rfl dX0_allows_45 ?_
    refine E_ireturn (pc := 46) rfl (by decide) dX0_allows_46 ?_
    first | (refine ⟨b2_eq0 ?_, rfl⟩; simp [g1]; done) | (refine ⟨b2_eq0 ?_, rfl⟩; simp [g2]; done) | (refine ⟨b2_eq0 ?_, rfl⟩; simp [bit_f.mpr g3]; done) | (refine ⟨b2_eq1 ?_, rfl⟩; simp [g1, g2, bit_ne.mpr g3]; done)
  · refine E_iload_n (pc := 17) rfl dX0_allows_17 ?_
    refine E_aload_n (pc := 18) rfl dX0_allows_18 ?_
    refine R_getR (pc := 19) (b := a + 2) f0_15 dX0_allows_19 (ent_st ha.1) (by decide) rfl rfl ?_
    refine E_iload_n (pc := 22) rfl dX0_allows_22 ?_
    refine V_iald (pc := 23) (j := h) dX0_allows_23 (ent_st ha.2.2.1) rfl (by omega) (by decide) (h2) ?_
    refine E_iand (pc := 24) dX0_allows_24 ?_
    rw [nI_and]
    refine N_if_ne (pc := 25) 45 dX0_allows_25 (by decide) (by omega) (fun g2 => ?_) (fun g2 => ?_)
    · refine E_iconst (pc := 45) 0 rfl dX0_allows_45 ?_
      refine E_ireturn (pc := 46) rfl (by decide) dX0_allows_46 ?_
      first | (refine ⟨b2_eq0 ?_, rfl⟩; simp [g1]; done) | (refine ⟨b2_eq0 ?_, rfl⟩; simp [g2]; done) | (refine ⟨b2_eq0 ?_, rfl⟩; simp [bit_f.mpr g3]; done) | (refine ⟨b2_eq1 ?_, rfl⟩; simp [g1, g2, bit_ne.mpr g3]; done)
    · refine E_aload_n (pc := 28) rfl dX0_allows_28 ?_
      refine R_getR (pc := 29) (b := a + 3) f0_18 dX0_allows_29 (ent_st ha.1) (by decide) rfl rfl ?_
      refine E_iload_n (pc := 32) rfl dX0_allows_32 ?_
      refine V_iald (pc := 33) (j := h) dX0_allows_33 (ent_st ha.2.2.2.1) rfl (by omega) (by decide) (h3) ?_
      refine E_iload_n (pc := 34) rfl dX0_allows_34 ?_
      refine E_ishr (pc := 35) dX0_allows_35 ?_
      rw [nI_shr (by omega) (by omega)]
      refine E_iconst (pc := 36) 1 rfl dX0_allows_36 ?_
      refine E_iand (pc := 37) dX0_allows_37 ?_
      rw [and1]
      refine N_if_eq (pc := 38) 45 dX0_allows_38 (by decide) (by omega) (fun g3 => ?_) (fun g3 => ?_)
      · refine E_iconst (pc := 45) 0 rfl dX0_allows_45 ?_
        refine E_ireturn (pc := 46) rfl (by decide) dX0_allows_46 ?_
        first | (refine ⟨b2_eq0 ?_, rfl⟩; simp [g1]; done) | (refine ⟨b2_eq0 ?_, rfl⟩; simp [g2]; done) | (refine ⟨b2_eq0 ?_, rfl⟩; simp [bit_f.mpr g3]; done) | (refine ⟨b2_eq1 ?_, rfl⟩; simp [g1, g2, bit_ne.mpr g3]; done)
      · refine E_iconst (pc := 41) 1 rfl dX0_allows_41 ?_
        refine E_goto (pc := 42) 46 (by decide) dX0_allows_42 ?_
        refine E_ireturn (pc := 46) rfl (by decide) dX0_allows_46 ?_
        first | (refine ⟨b2_eq0 ?_, rfl⟩; simp [g1]; done) | (refine ⟨b2_eq0 ?_, rfl⟩; simp [g2]; done) | (refine ⟨b2_eq0 ?_, rfl⟩; simp [bit_f.mpr g3]; done) | (refine ⟨b2_eq1 ?_, rfl⟩; simp [g1, g2, bit_ne.mpr g3]; done)
