/-! ===== counting, looks, prices ===== -/
def cntK (kd : Nat → Nat) (k : Nat) : Nat → Nat
  | 0 => 0
  | n + 1 => cntK kd k n + if kd n = k then 1 else 0
theorem cntK_le (kd : Nat → Nat) (k n : Nat) : cntK kd k n ≤ n := by
  induction n with
  | zero => exact Nat.le_refl _
  | succ n ih =>
    unfold cntK
    split <;> omega
/-- the kinds of a world's things -/
def KD (σ : ST) (w : Nat) (kd : Nat → Nat) (t : Nat) : Prop := σ.1 w 0 = nI t ∧ t ≤ 10 ∧ ∀ i, i < t → σ.1 (w + 1) i = nI (kd i) ∧ kd i < 4
theorem c_X10_countOf {G : GP} {σ : ST} {w k t : Nat} {kd : Nat → Nat} (hw : WO w) (hK : KD σ w kd t) (hk4 : k < 4) : E G mX10_countOf (0, 0) 0 [.ref w, .int (nI k), D0, D0] [] (mem σ) (fun rv M' => rv = some (.int (nI (cntK kd k t))) ∧ M' = mem σ) := by
  have h10 := hK.2.1
  have key : ∀ (n i r : Nat), n + i = t + 1 → i ≤ t → r = cntK kd k i → E G mX10_countOf (0, 0) 4 [.ref w, .int (nI k), .int (nI r), .int (nI i)] [] (mem σ) (fun rv M' => rv = some (.int (nI (cntK kd k t))) ∧ M' = mem σ) := by
    intro n
    induction n with
    | zero => intro i r hi hle; omega
    | succ n ih =>
      intro i r hi hle hr
      have hrl : r ≤ 10 := by rw [hr]; have := cntK_le kd k i; omega
      refine E_iload_n (pc := 4) rfl dX10_countOf_4 ?_
      refine E_aload_n (pc := 5) rfl dX10_countOf_5 ?_
      refine V_getI (pc := 6) f10_9 dX10_countOf_6 (ent_st hw.1) (by decide) rfl (hK.1) ?_
      refine N_icmp_ge (pc := 9) 31 dX10_countOf_9 (by decide) (by omega) (by omega) (fun h1_ => ?_) (fun h1_ => ?_)
      · refine E_iload_n (pc := 31) rfl dX10_countOf_31 ?_
        refine E_ireturn (pc := 32) rfl rfl dX10_countOf_32 ?_
        obtain rfl : i = t := by omega
        exact ⟨by rw [hr], rfl⟩
      · have h4 := (hK.2.2 i (by omega)).2
        refine E_aload_n (pc := 12) rfl dX10_countOf_12 ?_
        refine R_getR (pc := 13) (b := w + 1) f10_24 dX10_countOf_13 (ent_st hw.1) (by decide) rfl rfl ?_
        refine E_iload_n (pc := 16) rfl dX10_countOf_16 ?_
        refine V_iald (pc := 17) (j := i) dX10_countOf_17 (ent_st hw.2.1) rfl (by omega) (by decide) ((hK.2.2 (i) (by omega)).1) ?_
        refine E_iload_n (pc := 18) rfl dX10_countOf_18 ?_
        refine N_icmp_ne (pc := 19) 25 dX10_countOf_19 (by decide) (by omega) (by omega) (fun hx => ?_) (fun hx => ?_)
        · refine E_iinc (pc := 25) (v := nI (i + 1)) (L2 := [_, _, _, _]) rfl (nI_inc (i) 1) rfl rfl dX10_countOf_25 ?_
          refine E_goto (pc := 28) 4 (by decide) dX10_countOf_28 ?_
          first | exact ih (i + 1) _ (by omega) (by omega) (by rw [cntK, if_pos hx, hr]) | exact ih (i + 1) _ (by omega) (by omega) (by rw [cntK, if_neg hx, hr]; rfl)
        · refine E_iinc (pc := 22) (v := nI (r + 1)) (L2 := [_, _, _, _]) rfl (nI_inc (r) 1) rfl rfl dX10_countOf_22 ?_
          refine E_iinc (pc := 25) (v := nI (i + 1)) (L2 := [_, _, _, _]) rfl (nI_inc (i) 1) rfl rfl dX10_countOf_25 ?_
          refine E_goto (pc := 28) 4 (by decide) dX10_countOf_28 ?_
          first | exact ih (i + 1) _ (by omega) (by omega) (by rw [cntK, if_pos hx, hr]) | exact ih (i + 1) _ (by omega) (by omega) (by rw [cntK, if_neg hx, hr]; rfl)
  refine E_iconst (pc := 0) 0 rfl dX10_countOf_0 ?_
  refine E_istore_n (pc := 1) (L2 := [_, _, _, _]) rfl rfl dX10_countOf_1 ?_
  refine E_iconst (pc := 2) 0 rfl dX10_countOf_2 ?_
  refine E_istore_n (pc := 3) (L2 := [_, _, _, _]) rfl rfl dX10_countOf_3 ?_
  exact key (t + 1) 0 0 (by omega) (by omega) rfl
theorem c_X10_freeLooks {G : GP} {σ : ST} {w t : Nat} {kd : Nat → Nat} (hw : WO w) (hK : KD σ w kd t) : E G mX10_freeLooks (1, 23) 0 [.ref w] [] (mem σ) (fun rv M' => rv = some (.int (nI (1 <<< cntK kd 0 t))) ∧ M' = mem σ) := by
  refine E_iconst (pc := 0) 1 rfl dX10_freeLooks_0 ?_
  refine E_aload_n (pc := 1) rfl dX10_freeLooks_1 ?_
  refine E_iconst (pc := 2) 0 rfl dX10_freeLooks_2 ?_
  refine E_callV (pc := 3) (As := [_]) (fc := (0, 0)) s10_73_10 oX10_countOf dX10_freeLooks_3 (mem_ob (ent_st hw.1)) rfl rfl (Nat.le_of_ble_eq_true rfl) rfl rfl (by decide) (c_X10_countOf (k := 0) hw hK (by omega)) (fun rv_ M_ hq_ => ?_)
  obtain ⟨rfl, rfl⟩ := hq_
  have h0 := cntK_le kd 0 t
  have h10 := hK.2.1
  refine E_ishl (pc := 6) dX10_freeLooks_6 ?_
  rw [nI_shl (by omega)]
  refine E_ireturn (pc := 7) rfl rfl dX10_freeLooks_7 ?_
  exact ⟨rfl, rfl⟩
theorem c_X10_lowStates {G : GP} {σ : ST} {w t : Nat} {kd : Nat → Nat} (hw : WO w) (hK : KD σ w kd t) : E G mX10_lowStates (1, 23) 0 [.ref w] [] (mem σ) (fun rv M' => rv = some (.int (nI ((if cntK kd 3 t = 0 then 1 else 8) <<< cntK kd 1 t))) ∧ M' = mem σ) := by
  refine E_aload_n (pc := 0) rfl dX10_lowStates_0 ?_
  refine E_iconst (pc := 1) 3 rfl dX10_lowStates_1 ?_
  refine E_callV (pc := 2) (As := [_]) (fc := (0, 0)) s10_73_10 oX10_countOf dX10_lowStates_2 (mem_ob (ent_st hw.1)) rfl rfl (Nat.le_of_ble_eq_true rfl) rfl rfl (by decide) (c_X10_countOf (k := 3) hw hK (by omega)) (fun rv_ M_ hq_ => ?_)
  obtain ⟨rfl, rfl⟩ := hq_
  have h0 := cntK_le kd 3 t
  have h1 := cntK_le kd 1 t
  have h10 := hK.2.1
  refine N_if_ne (pc := 5) 12 dX10_lowStates_5 (by decide) (by omega) (fun hx => ?_) (fun hx => ?_)
  · refine E_bipush (pc := 12) (nI 8) (by decide) dX10_lowStates_12 ?_
    refine E_aload_n (pc := 14) rfl dX10_lowStates_14 ?_
    refine E_iconst (pc := 15) 1 rfl dX10_lowStates_15 ?_
    refine E_callV (pc := 16) (As := [_]) (fc := (0, 0)) s10_73_10 oX10_countOf dX10_lowStates_16 (mem_ob (ent_st hw.1)) rfl rfl (Nat.le_of_ble_eq_true rfl) rfl rfl (by decide) (c_X10_countOf (k := 1) hw hK (by omega)) (fun rv_ M_ hq_ => ?_)
    obtain ⟨rfl, rfl⟩ := hq_
    refine E_ishl (pc := 19) dX10_lowStates_19 ?_
    rw [nI_shl (by omega)]
    refine E_ireturn (pc := 20) rfl rfl dX10_lowStates_20 ?_
    first | (rw [if_pos hx]; exact ⟨rfl, rfl⟩) | (rw [if_neg hx]; exact ⟨rfl, rfl⟩)
  · refine E_iconst (pc := 8) 1 rfl dX10_lowStates_8 ?_
    refine E_goto (pc := 9) 14 (by decide) dX10_lowStates_9 ?_
    refine E_aload_n (pc := 14) rfl dX10_lowStates_14 ?_
    refine E_iconst (pc := 15) 1 rfl dX10_lowStates_15 ?_
    refine E_callV (pc := 16) (As := [_]) (fc := (0, 0)) s10_73_10 oX10_countOf dX10_lowStates_16 (mem_ob (ent_st hw.1)) rfl rfl (Nat.le_of_ble_eq_true rfl) rfl rfl (by decide) (c_X10_countOf (k := 1) hw hK (by omega)) (fun rv_ M_ hq_ => ?_)
    obtain ⟨rfl, rfl⟩ := hq_
    refine E_ishl (pc := 19) dX10_lowStates_19 ?_
    rw [nI_shl (by omega)]
    refine E_ireturn (pc := 20) rfl rfl dX10_lowStates_20 ?_
    first | (rw [if_pos hx]; exact ⟨rfl, rfl⟩) | (rw [if_neg hx]; exact ⟨rfl, rfl⟩)
theorem c_X0_costOf {G : GP} {σ : ST} {a h ch hn tl pr : Nat} (ha : AS a) (hh : h < 12) (hch : ch < 7) (h1 : σ.1 2 1 = nI hn) (hn6 : hn ≤ 6) (h2 : σ.1 (a + 5) h = nI tl) (htl : tl < 2 ^ 20) (h3 : ch < hn → σ.1 (2 + 57 + 6 * ch) 4 = nI pr) : E G mX0_costOf (0, 0) 0 [.ref a, .int (nI h), .int (nI ch), D0] [] (mem σ) (fun rv M' => rv = some (.int (nI (if hn ≤ ch then 0 else if bit tl ch then 0 else pr))) ∧ M' = mem σ) := by
  refine E_iload_n (pc := 0) rfl dX0_costOf_0 ?_
  refine E_aload_n (pc := 1) rfl dX0_costOf_1 ?_
  refine R_getR (pc := 2) (b := 2) f0_37 dX0_costOf_2 (ent_st ha.1) (by decide) rfl rfl ?_
  refine V_getI (pc := 5) f0_47 dX0_costOf_5 (ent_st WO2.1) (by decide) rfl (h1) ?_
  refine N_icmp_ge (pc := 8) 24 dX0_costOf_8 (by decide) (by omega) (by omega) (fun g8 => ?_) (fun g8 => ?_)
  · refine E_iconst (pc := 24) 1 rfl dX0_costOf_24 ?_
    refine E_goto (pc := 25) 29 (by decide) dX0_costOf_25 ?_
    refine E_istore_n (pc := 29) (L2 := [_, _, _, _]) rfl rfl dX0_costOf_29 ?_
    refine E_iload_n (pc := 30) rfl dX0_costOf_30 ?_
    refine K_if_eq_f (pc := 31) 38 dX0_costOf_31 (by decide) (by decide) ?_
    refine E_iconst (pc := 34) 0 rfl dX0_costOf_34 ?_
    refine E_goto (pc := 35) 50 (by decide) dX0_costOf_35 ?_
    refine E_ireturn (pc := 50) rfl rfl dX0_costOf_50 ?_
    first | (rw [if_pos g8]; exact ⟨rfl, rfl⟩) | (rw [if_neg (Nat.not_le.mpr g8), if_pos (bit_ne.mpr g21)]; exact ⟨rfl, rfl⟩) | (rw [if_neg (Nat.not_le.mpr g8), bit_f.mpr g21]; exact ⟨rfl, rfl⟩)
  · refine E_aload_n (pc := 11) rfl dX0_costOf_11 ?_
    refine R_getR (pc := 12) (b := a + 5) f0_24 dX0_costOf_12 (ent_st ha.1) (by decide) rfl rfl ?_
    refine E_iload_n (pc := 15) rfl dX0_costOf_15 ?_
    refine V_iald (pc := 16) (j := h) dX0_costOf_16 (ent_st ha.2.2.2.2.2.1) rfl (by omega) (by decide) (h2) ?_
    refine E_iload_n (pc := 17) rfl dX0_costOf_17 ?_
    refine E_ishr (pc := 18) dX0_costOf_18 ?_
    rw [nI_shr (by omega) (by omega)]
    refine E_iconst (pc := 19) 1 rfl dX0_costOf_19 ?_
    refine E_iand (pc := 20) dX0_costOf_20 ?_
    rw [and1]
    refine N_if_eq (pc := 21) 28 dX0_costOf_21 (by decide) (by omega) (fun g21 => ?_) (fun g21 => ?_)
    · refine E_iconst (pc := 28) 0 rfl dX0_costOf_28 ?_
      refine E_istore_n (pc := 29) (L2 := [_, _, _, _]) rfl rfl dX0_costOf_29 ?_
      refine E_iload_n (pc := 30) rfl dX0_costOf_30 ?_
      refine K_if_eq_t (pc := 31) 38 dX0_costOf_31 rfl (by decide) ?_
      refine E_aload_n (pc := 38) rfl dX0_costOf_38 ?_
      refine R_getR (pc := 39) (b := 2) f0_37 dX0_costOf_39 (ent_st ha.1) (by decide) rfl rfl ?_
      refine R_getR (pc := 42) (b := 6) f0_92 dX0_costOf_42 (ent_st WO2.1) (by decide) rfl rfl ?_
      refine E_iload_n (pc := 45) rfl dX0_costOf_45 ?_
      refine R_rald (C := "") (pc := 46) (j := ch) (b := (2 + 57 + 6 * ch)) dX0_costOf_46 (ent_st WO2.2.2.2.2.1) (by decide) rfl (by omega) (by decide) (rng_at (by omega)) ?_
      refine V_getI (pc := 47) f0_96 dX0_costOf_47 (ent_st (LA_w 2 (Or.inl rfl) ch (by omega)).1) (by decide) rfl (h3 (by omega)) ?_
      refine E_ireturn (pc := 50) rfl rfl dX0_costOf_50 ?_
      first | (rw [if_pos g8]; exact ⟨rfl, rfl⟩) | (rw [if_neg (Nat.not_le.mpr g8), if_pos (bit_ne.mpr g21)]; exact ⟨rfl, rfl⟩) | (rw [if_neg (Nat.not_le.mpr g8), bit_f.mpr g21]; exact ⟨rfl, rfl⟩)
    · refine E_iconst (pc := 24) 1 rfl dX0_costOf_24 ?_
      refine E_goto (pc := 25) 29 (by decide) dX0_costOf_25 ?_
      refine E_istore_n (pc := 29) (L2 := [_, _, _, _]) rfl rfl dX0_costOf_29 ?_
      refine E_iload_n (pc := 30) rfl dX0_costOf_30 ?_
      refine K_if_eq_f (pc := 31) 38 dX0_costOf_31 (by decide) (by decide) ?_
      refine E_iconst (pc := 34) 0 rfl dX0_costOf_34 ?_
      refine E_goto (pc := 35) 50 (by decide) dX0_costOf_35 ?_
      refine E_ireturn (pc := 50) rfl rfl dX0_costOf_50 ?_
      first | (rw [if_pos g8]; exact ⟨rfl, rfl⟩) | (rw [if_neg (Nat.not_le.mpr g8), if_pos (bit_ne.mpr g21)]; exact ⟨rfl, rfl⟩) | (rw [if_neg (Nat.not_le.mpr g8), bit_f.mpr g21]; exact ⟨rfl, rfl⟩)
def tr (σ : ST) (l : Nat) : Nat := (σ.1 195 l).toNatClampNeg
def TrOK (σ : ST) : Prop := ∀ l, l < 1024 → σ.1 195 l = nI (tr σ l) ∧ tr σ l < 2 ^ 20
def lk (σ : ST) (c i : Nat) : Nat := (σ.1 (c + 3) i).toNatClampNeg
theorem shr10 {a : Nat} (h : a < 2 ^ 20) : nI a >>> (nI 10 &&& 31) = nI (a / 1024) := by
  rw [nI_shr (by omega) (by decide), Nat.shiftRight_eq_div_pow]
theorem c_X2_goesOnAsOne {G : GP} {σ : ST} {c look fi co : Nat} {xs : Nat → Nat} (hc : CU c) (hlk : look < 1024) (hfi : fi ≤ co) (hco : co ≤ 1024) (hx : ∀ i, i < co → σ.1 (c + 3) i = nI (xs i) ∧ xs i < 1024) (hT : TrOK σ) : E G mX2_goesOnAsOne (0, 0) 0 [.ref c, .int (nI look), .int (nI fi), .int (nI co), D0] [] (mem σ) (fun rv M' => rv = some (.int (b2 (anyB (co - fi) (fun j => decide (tr σ (xs (fi + j)) / 1024 = tr σ look / 1024))))) ∧ M' = mem σ) := by
  have key : ∀ (n i : Nat), n + i = co - fi + 1 → i ≤ co - fi → (∀ j, j < i → (fun j => decide (tr σ (xs (fi + j)) / 1024 = tr σ look / 1024)) j = false) → E G mX2_goesOnAsOne (0, 0) 3 [.ref c, .int (nI look), .int (nI fi), .int (nI co), .int (nI (fi + i))] [] (mem σ) (fun rv M' => rv = some (.int (b2 (anyB (co - fi) (fun j => decide (tr σ (xs (fi + j)) / 1024 = tr σ look / 1024))))) ∧ M' = mem σ) := by
    intro n
    induction n with
    | zero => intro i hi hle; omega
    | succ n ih =>
      intro i hi hle hinv
      refine E_iload (pc := 3) rfl dX2_goesOnAsOne_3 ?_
      refine E_iload_n (pc := 5) rfl dX2_goesOnAsOne_5 ?_
      refine N_icmp_ge (pc := 6) 44 dX2_goesOnAsOne_6 (by decide) (by omega) (by omega) (fun h1_ => ?_) (fun h1_ => ?_)
      · refine E_iconst (pc := 44) 0 rfl dX2_goesOnAsOne_44 ?_
        refine E_ireturn (pc := 45) rfl (by decide) dX2_goesOnAsOne_45 ?_
        obtain rfl : i = co - fi := by omega
        exact ⟨b2_eq0 (anyB_f hinv), rfl⟩
      · have hb1 := (hx (fi + i) (by omega)).2
        refine E_aload_n (pc := 9) rfl dX2_goesOnAsOne_9 ?_
        refine R_getR (pc := 10) (b := 195) f2_61 dX2_goesOnAsOne_10 (ent_st hc.1) (by decide) rfl rfl ?_
        refine E_aload_n (pc := 13) rfl dX2_goesOnAsOne_13 ?_
        refine R_getR (pc := 14) (b := c + 3) f2_19 dX2_goesOnAsOne_14 (ent_st hc.1) (by decide) rfl rfl ?_
        refine E_iload (pc := 17) rfl dX2_goesOnAsOne_17 ?_
        refine V_iald (pc := 19) (j := (fi + i)) dX2_goesOnAsOne_19 (ent_st hc.2.2.2.1) rfl (by omega) (by decide) ((hx ((fi + i)) (by omega)).1) ?_
        refine V_iald (pc := 20) (j := (xs ((fi + i)))) dX2_goesOnAsOne_20 (ent_st TR195) rfl (by omega) (by decide) ((hT ((xs ((fi + i)))) (by omega)).1) ?_
        refine E_bipush (pc := 21) (nI 10) (by decide) dX2_goesOnAsOne_21 ?_
        refine E_ishr (pc := 23) dX2_goesOnAsOne_23 ?_
        rw [shr10 (hT _ (by omega)).2]
        refine E_aload_n (pc := 24) rfl dX2_goesOnAsOne_24 ?_
        refine R_getR (pc := 25) (b := 195) f2_61 dX2_goesOnAsOne_25 (ent_st hc.1) (by decide) rfl rfl ?_
        refine E_iload_n (pc := 28) rfl dX2_goesOnAsOne_28 ?_
        refine V_iald (pc := 29) (j := look) dX2_goesOnAsOne_29 (ent_st TR195) rfl (by omega) (by decide) ((hT (look) (by omega)).1) ?_
        refine E_bipush (pc := 30) (nI 10) (by decide) dX2_goesOnAsOne_30 ?_
        refine E_ishr (pc := 32) dX2_goesOnAsOne_32 ?_
        rw [shr10 (hT _ (by omega)).2]
        have hb2 := (hT (xs (fi + i)) (by omega)).2
        have hb3 := (hT look (by omega)).2
        refine N_icmp_ne (pc := 33) 38 dX2_goesOnAsOne_33 (by decide) (by omega) (by omega) (fun g33 => ?_) (fun g33 => ?_)
        · refine E_iinc (pc := 38) (v := nI ((fi + i) + 1)) (L2 := [_, _, _, _, _]) rfl (nI_inc ((fi + i)) 1) rfl rfl dX2_goesOnAsOne_38 ?_
          refine E_goto (pc := 41) 3 (by decide) dX2_goesOnAsOne_41 ?_
          refine ih (i + 1) (by omega) (by omega) (fun j hj => ?_)
          by_cases e : j = i
          · subst e; exact decide_eq_false g33
          · exact hinv j (by omega)
        · refine E_iconst (pc := 36) 1 rfl dX2_goesOnAsOne_36 ?_
          refine E_ireturn (pc := 37) rfl (by decide) dX2_goesOnAsOne_37 ?_
          exact ⟨b2_eq1 ((anyB_iff _ _).mpr ⟨i, by omega, decide_eq_true g33⟩), rfl⟩
  refine E_iload_n (pc := 0) rfl dX2_goesOnAsOne_0 ?_
  refine E_istore (pc := 1) (L2 := [_, _, _, _, _]) rfl rfl dX2_goesOnAsOne_1 ?_
  exact key (co - fi + 1) 0 (by omega) (by omega) (fun j hj => by omega)
def dropF (σ : ST) (c h S : Nat) : ST := (fun x => if x = c + 1 then fun y => if h * 1024 ≤ y ∧ y < h * 1024 + S ∧ σ.2.1 (c + 2) (wy h (y - h * 1024)) = 0 then nI 1048576 else σ.1 (c + 1) y else σ.1 x, σ.2)
theorem I_drop (σ : ST) (c h S x y : Nat) : (dropF σ c h S).1 x y = if x = c + 1 ∧ h * 1024 ≤ y ∧ y < h * 1024 + S ∧ σ.2.1 (c + 2) (wy h (y - h * 1024)) = 0 then nI 1048576 else σ.1 x y := by
  unfold dropF
  by_cases e : x = c + 1
  · subst e
    by_cases h2 : h * 1024 ≤ y ∧ y < h * 1024 + S ∧ σ.2.1 (c + 2) (wy h (y - h * 1024)) = 0 <;> simp [h2]
  · simp [e]
theorem dropF_0 (σ : ST) (c h : Nat) : dropF σ c h 0 = σ := ST_ext (fun x y => by rw [I_drop, if_neg]; omega) rfl
theorem dropF_y (σ : ST) (c h i : Nat) (hz : σ.2.1 (c + 2) (wy h i) = 0) : setI (dropF σ c h i) (c + 1) (h * 1024 + i) (nI 1048576) = dropF σ c h (i + 1) := by
  refine ST_ext (fun x y => ?_) rfl
  rw [I_setI, I_drop, I_drop]
  by_cases e : x = c + 1
  · subst e
    by_cases h2 : y = h * 1024 + i
    · subst h2
      have e3 : h * 1024 + i - h * 1024 = i := by omega
      simp [e3, hz]
    · simp only [h2, and_false, if_false, true_and]
      by_cases h3 : h * 1024 ≤ y ∧ y < h * 1024 + i ∧ σ.2.1 (c + 2) (wy h (y - h * 1024)) = 0
      · rw [if_pos h3, if_pos ⟨h3.1, by omega, h3.2.2⟩]
      · rw [if_neg h3, if_neg (fun q => h3 ⟨q.1, by omega, q.2.2⟩)]
  · simp [e]
theorem dropF_n (σ : ST) (c h i : Nat) (hz : ¬ σ.2.1 (c + 2) (wy h i) = 0) : dropF σ c h i = dropF σ c h (i + 1) := by
  refine ST_ext (fun x y => ?_) rfl
  rw [I_drop, I_drop]
  by_cases h3 : x = c + 1 ∧ h * 1024 ≤ y ∧ y < h * 1024 + i ∧ σ.2.1 (c + 2) (wy h (y - h * 1024)) = 0
  · rw [if_pos h3, if_pos ⟨h3.1, h3.2.1, by omega, h3.2.2.2⟩]
  · rw [if_neg h3, if_neg]
    rintro ⟨q1, q2, q3, q4⟩
    by_cases e : y = h * 1024 + i
    · subst e
      rw [show h * 1024 + i - h * 1024 = i by omega] at q4
      exact hz q4
    · exact h3 ⟨q1, q2, by omega, q4⟩
theorem lcmp0 {x y : Int64} (h : lg_cmp x y = 0) : x = y := by
  unfold lg_cmp at h
  split at h
  · exact absurd h (by decide)
  · split at h
    · assumption
    · exact absurd h (by decide)
theorem lcmp1 {x y : Int64} (h : ¬ lg_cmp x y = 0) : ¬ x = y := by
  intro e
  subst e
  apply h
  unfold lg_cmp
  simp
theorem c_X2_dropUnkept {G : GP} {σ : ST} {c h S : Nat} (hc : CU c) (hS : σ.1 c 10 = nI S) (hS1 : S ≤ 1024) (hh : h ≤ 12) : E G mX2_dropUnkept (1, 20) 0 [.ref c, .int (nI h), D0, D0] [] (mem σ) (fun rv M' => rv = none ∧ M' = mem (dropF σ c h S)) := by
  have key : ∀ (n i : Nat), n + i = S + 1 → i ≤ S → E G mX2_dropUnkept (1, 20) 7 [.ref c, .int (nI h), .int (nI (h % 2 * 1024)), .int (nI i)] [] (mem (dropF σ c h i)) (fun rv M' => rv = none ∧ M' = mem (dropF σ c h S)) := by
    intro n
    induction n with
    | zero => intro i hi hle; omega
    | succ n ih =>
      intro i hi hle
      refine E_iload_n (pc := 7) rfl dX2_dropUnkept_7 ?_
      refine E_aload_n (pc := 8) rfl dX2_dropUnkept_8 ?_
      refine V_getI (pc := 9) f2_32 dX2_dropUnkept_9 (ent_st hc.1) (by decide) rfl (((I_drop σ c h i c 10).trans (if_neg (by omega))).trans (hS)) ?_
      refine N_icmp_ge (pc := 12) 48 dX2_dropUnkept_12 (by decide) (by omega) (by omega) (fun h1_ => ?_) (fun h1_ => ?_)
      · refine E_return (pc := 48) rfl dX2_dropUnkept_48 ?_
        obtain rfl : i = S := by omega
        exact ⟨rfl, rfl⟩
      · refine E_aload_n (pc := 15) rfl dX2_dropUnkept_15 ?_
        refine R_getR (pc := 16) (b := c + 2) f2_15 dX2_dropUnkept_16 (ent_st hc.1) (by decide) rfl rfl ?_
        refine E_iload_n (pc := 19) rfl dX2_dropUnkept_19 ?_
        refine E_iload_n (pc := 20) rfl dX2_dropUnkept_20 ?_
        refine E_iadd (pc := 21) dX2_dropUnkept_21 ?_
        rw [nI_add]
        refine R_jald (pc := 22) (j := wy h i) dX2_dropUnkept_22 (ent_st hc.2.2.1) rfl (wy_lt (by omega)) (by decide) ?_
        refine E_lconst (pc := 23) 0 rfl dX2_dropUnkept_23 ?_
        refine E_lcmp (pc := 24) dX2_dropUnkept_24 ?_
        refine E_if_ne (pc := 25) 42 dX2_dropUnkept_25 (by decide) (fun g25 => ?_) (fun g25 => ?_)
        · refine E_iinc (pc := 42) (v := nI (i + 1)) (L2 := [_, _, _, _]) rfl (nI_inc (i) 1) rfl rfl dX2_dropUnkept_42 ?_
          refine E_goto (pc := 45) 7 (by decide) dX2_dropUnkept_45 ?_
          first | (rw [dropF_y σ c h i (lcmp0 g25)]; exact ih (i + 1) (by omega) (by omega)) | (rw [dropF_n σ c h i (lcmp1 g25)]; exact ih (i + 1) (by omega) (by omega))
        · refine E_aload_n (pc := 28) rfl dX2_dropUnkept_28 ?_
          refine R_getR (pc := 29) (b := c + 1) f2_9 dX2_dropUnkept_29 (ent_st hc.1) (by decide) rfl rfl ?_
          refine E_iload_n (pc := 32) rfl dX2_dropUnkept_32 ?_
          refine E_sipush (pc := 33) (nI 1024) (by decide) dX2_dropUnkept_33 ?_
          refine E_imul (pc := 36) dX2_dropUnkept_36 ?_
          rw [nI_mul]
          refine E_iload_n (pc := 37) rfl dX2_dropUnkept_37 ?_
          refine E_iadd (pc := 38) dX2_dropUnkept_38 ?_
          rw [nI_add]
          refine E_ldc (pc := 39) (v := nI 1048576) q2_93 dX2_dropUnkept_39 ?_
          refine R_iast (pc := 41) (j := h * 1024 + i) dX2_dropUnkept_41 (ent_st hc.2.1) (by first | rfl | simp only [nI_mul, nI_add]) (by omega) (by decide) ?_
          refine E_iinc (pc := 42) (v := nI (i + 1)) (L2 := [_, _, _, _]) rfl (nI_inc (i) 1) rfl rfl dX2_dropUnkept_42 ?_
          refine E_goto (pc := 45) 7 (by decide) dX2_dropUnkept_45 ?_
          first | (rw [dropF_y σ c h i (lcmp0 g25)]; exact ih (i + 1) (by omega) (by omega)) | (rw [dropF_n σ c h i (lcmp1 g25)]; exact ih (i + 1) (by omega) (by omega))
  refine E_iload_n (pc := 0) rfl dX2_dropUnkept_0 ?_
  refine E_callS (pc := 1) (As := [_]) (fc := (0, 0)) s2_113 oX2_layerOf dX2_dropUnkept_1 rfl rfl (Nat.le_of_ble_eq_true rfl) rfl rfl (by decide) (c_X2_layerOf (h := h)) (fun rv_ M_ hq_ => ?_)
  obtain ⟨rfl, rfl⟩ := hq_
  refine E_istore_n (pc := 4) (L2 := [_, _, _, _]) rfl rfl dX2_dropUnkept_4 ?_
  refine E_iconst (pc := 5) 0 rfl dX2_dropUnkept_5 ?_
  refine E_istore_n (pc := 6) (L2 := [_, _, _, _]) rfl rfl dX2_dropUnkept_6 ?_
  have := key (S + 1) 0 (by omega) (by omega)
  rw [dropF_0] at this
  exact this
