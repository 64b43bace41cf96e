/-! ===== the looks that an hour of a walk can have ===== -/
/-- an array begins with a list of small numbers -/
def wrL (σ : ST) (a : Nat) (xs : List Nat) : ST := (fun x => if x = a then fun y => if y < xs.length then nI (xs.getD y 0) else σ.1 a y else σ.1 x, σ.2)
theorem I_wrL (σ : ST) (a : Nat) (xs : List Nat) (x y : Nat) : (wrL σ a xs).1 x y = if x = a ∧ y < xs.length then nI (xs.getD y 0) else σ.1 x y := by
  unfold wrL
  by_cases h : x = a
  · subst h
    by_cases h2 : y < xs.length <;> simp [h2]
  · simp [h]
theorem I_wrL_ne (σ : ST) {a : Nat} (xs : List Nat) {x y : Nat} (h : x ≠ a) : (wrL σ a xs).1 x y = σ.1 x y := by rw [I_wrL, if_neg (fun q => h q.1)]
theorem wrL_0 (σ : ST) (a : Nat) : wrL σ a [] = σ := ST_ext (fun x y => by rw [I_wrL, if_neg (by simp)]) rfl
theorem wrL_app (σ : ST) (a : Nat) (xs : List Nat) (v : Nat) : setI (wrL σ a xs) a xs.length (nI v) = wrL σ a (xs ++ [v]) := by
  refine ST_ext (fun x y => ?_) rfl
  rw [I_setI, I_wrL, I_wrL]
  by_cases e : x = a
  · subst e
    by_cases e2 : y = xs.length
    · subst e2; simp [List.getD_eq_getElem?_getD]
    · simp only [e2, and_false, if_false, true_and, List.length_append, List.length_cons, List.length_nil]
      by_cases h3 : y < xs.length
      · rw [if_pos h3, if_pos (by omega)]
        simp [List.getD_eq_getElem?_getD, List.getElem?_append_left h3]
      · rw [if_neg h3, if_neg (by omega)]
  · simp [e]
def rch (σ : ST) (c h low F : Nat) : Bool := anyB F (fun fl => decide (σ.1 (c + 1) (h * 1024 + (fl * 256 + low)) < nI 1048576))
theorem c_reach {G : GP} {σ τ : ST} {c h low F : Nat} (hc : CU c) (hF : τ.1 c 9 = nI F) (hF4 : F ≤ 4) (hh : h ≤ 12) (hlow : low < 256) (he : ∀ y, τ.1 (c + 1) y = σ.1 (c + 1) y) : E G mX2_isReached (0, 0) 0 [.ref c, .int (nI h), .int (nI low), D0] [] (mem τ) (fun rv M' => rv = some (.int (b2 (rch σ c h low F))) ∧ M' = mem τ) := by
  have := c_X2_isReached (G := G) hc hF hF4 hh hlow
  simp only [he] at this
  exact this
def alw (so ns va t r : Nat) : Bool := decide (t &&& so = so) && (decide (t &&& ns = 0) && bit va r)
def asOne (σ : ST) (s : List Nat) (look : Nat) : Bool := anyB s.length (fun j => decide (tr σ (s.getD j 0) / 1024 = tr σ look / 1024))
def selF (σ : ST) (ps so ns va r low : Nat) : Nat → List Nat
  | 0 => []
  | n + 1 => if alw so ns va (tr σ (n * 256 + low)) r && (decide (¬ ps = 0) || !asOne σ (selF σ ps so ns va r low n) (n * 256 + low)) then selF σ ps so ns va r low n ++ [n * 256 + low] else selF σ ps so ns va r low n
def glF (σ : ST) (c h ps so ns va K F FR : Nat) : Nat → List Nat
  | 0 => []
  | l + 1 => glF σ c h ps so ns va K F FR l ++ (if rch σ c h l F then selF σ ps so ns va (l >>> K) l FR else [])
theorem selF_len (σ : ST) (ps so ns va r low n : Nat) : (selF σ ps so ns va r low n).length ≤ n := by
  induction n with
  | zero => exact Nat.le_refl _
  | succ n ih =>
    unfold selF
    split
    · simp; omega
    · omega
theorem selF_mem (σ : ST) (ps so ns va r low n x : Nat) (h : x ∈ selF σ ps so ns va r low n) : ∃ j, j < n ∧ x = j * 256 + low := by
  induction n with
  | zero => cases h
  | succ n ih =>
    unfold selF at h
    split at h
    · rcases List.mem_append.mp h with h | h
      · obtain ⟨j, h1, h2⟩ := ih h
        exact ⟨j, by omega, h2⟩
      · exact ⟨n, by omega, by simpa using h⟩
    · obtain ⟨j, h1, h2⟩ := ih h
      exact ⟨j, by omega, h2⟩
theorem glF_len (σ : ST) (c h ps so ns va K F FR l : Nat) : (glF σ c h ps so ns va K F FR l).length ≤ FR * l := by
  induction l with
  | zero => simp [glF]
  | succ l ih =>
    unfold glF
    rw [List.length_append, Nat.mul_succ]
    split
    · have := selF_len σ ps so ns va (l >>> K) l FR
      omega
    · simp; omega
theorem glF_mem (σ : ST) (c h ps so ns va K F FR l x : Nat) (hx : x ∈ glF σ c h ps so ns va K F FR l) : ∃ j low, j < FR ∧ low < l ∧ x = j * 256 + low := by
  induction l with
  | zero => cases hx
  | succ l ih =>
    unfold glF at hx
    rcases List.mem_append.mp hx with hx | hx
    · obtain ⟨j, low, h1, h2, h3⟩ := ih hx
      exact ⟨j, low, h1, by omega, h3⟩
    · split at hx
      · obtain ⟨j, h1, h2⟩ := selF_mem _ _ _ _ _ _ _ _ _ hx
        exact ⟨j, l, h1, by omega, h2⟩
      · cases hx
theorem c_asOne {G : GP} {σ τ : ST} {c look : Nat} {acc s : List Nat} (hc : CU c) (hlk : look < 1024) (hco : (acc ++ s).length ≤ 1024) (hm : ∀ x ∈ acc ++ s, x < 1024) (he : τ = wrL σ (c + 3) (acc ++ s)) (hc3 : c + 3 ≠ 195) (hT : TrOK σ) : E G mX2_goesOnAsOne (0, 0) 0 [.ref c, .int (nI look), .int (nI acc.length), .int (nI (acc ++ s).length), D0] [] (mem τ) (fun rv M' => rv = some (.int (b2 (asOne σ s look))) ∧ M' = mem τ) := by
  have htr : ∀ l, tr τ l = tr σ l := fun l => by unfold tr; rw [he, I_wrL_ne σ _ (fun q => hc3 q.symm)]
  have hT' : TrOK τ := fun l hl => by
    rw [htr, he, I_wrL_ne σ _ (fun q => hc3 q.symm)]
    exact hT l hl
  have hx : ∀ i, i < (acc ++ s).length → τ.1 (c + 3) i = nI ((acc ++ s).getD i 0) ∧ (acc ++ s).getD i 0 < 1024 := fun i hi => by
    refine ⟨by rw [he, I_wrL, if_pos ⟨rfl, hi⟩], ?_⟩
    rw [List.getD_eq_getElem?_getD, List.getElem?_eq_getElem hi]
    exact hm _ (List.getElem_mem hi)
  have := c_X2_goesOnAsOne (G := G) hc hlk (fi := acc.length) (by simp) hco hx hT'
  have e : anyB ((acc ++ s).length - acc.length) (fun j => decide (tr τ ((acc ++ s).getD (acc.length + j) 0) / 1024 = tr τ look / 1024)) = asOne σ s look := by
    unfold asOne
    rw [List.length_append, Nat.add_sub_cancel_left]
    congr 1
    funext j
    rw [htr, htr, List.getD_eq_getElem?_getD, List.getD_eq_getElem?_getD, List.getElem?_append_right (by omega), Nat.add_sub_cancel_left]
  rw [e] at this
  exact this
theorem c_X2_gatherLooks {G : GP} {σ : ST} {c h ps so ns va K F FR LW t : Nat} {kd : Nat → Nat} (hc : CU c) (hh : h < 12) (hps : ps < 3) (hKD : KD σ 2 kd t) (hFR : 1 <<< cntK kd 0 t = FR) (hFR4 : FR ≤ 4) (hLW : σ.1 c 8 = nI LW) (hLW2 : LW ≤ 256) (hF : σ.1 c 9 = nI F) (hF4 : F ≤ 4) (hK : σ.1 c 7 = nI K) (hK5 : K ≤ 5) (hlo8 : ∀ low, low < LW → low >>> K < 8) (hT : TrOK σ) (h1 : σ.1 (c + 8 + 1) h = nI so) (h2 : σ.1 (c + 8 + 2) h = nI ns) (h3 : σ.1 (c + 8 + 3) h = nI va) (hso : so < 2 ^ 20) (hns : ns < 2 ^ 20) (hva : va < 2 ^ 20) (hc195 : c + 3 ≠ 195) : E G mX2_gatherLooks (2, 43) 0 [.ref c, .int (nI ps), .int (nI h), D0, D0, D0, D0, D0, D0] [] (mem σ) (fun rv M' => rv = some (.int (nI (glF σ c h ps so ns va K F FR LW).length)) ∧ M' = mem (wrL σ (c + 3) (glF σ c h ps so ns va K F FR LW))) := by
  have key : ∀ (n i : Nat), n + i = LW + 1 → i ≤ LW → ∀ v6 v7 v8 : Value, E G mX2_gatherLooks (2, 43) 14 [.ref c, .int (nI ps), .int (nI h), .int (nI FR), .int (nI (glF σ c h ps so ns va K F FR i).length), .int (nI i), v6, v7, v8] [] (mem (wrL σ (c + 3) (glF σ c h ps so ns va K F FR i))) (fun rv M' => rv = some (.int (nI (glF σ c h ps so ns va K F FR LW).length)) ∧ M' = mem (wrL σ (c + 3) (glF σ c h ps so ns va K F FR LW))) := by
    intro n
    induction n with
    | zero => intro i hi hle; omega
    | succ n ih =>
      intro i hi hle v6 v7 v8
      have hgb := glF_len σ c h ps so ns va K F FR i
      refine E_iload (pc := 14) rfl dX2_gatherLooks_14 ?_
      refine E_aload_n (pc := 16) rfl dX2_gatherLooks_16 ?_
      refine V_getI (pc := 17) f2_26 dX2_gatherLooks_17 (ent_st hc.1) (by decide) rfl ((I_wrL_ne σ _ (by omega)).trans hLW) ?_
      refine N_icmp_ge (pc := 20) 125 dX2_gatherLooks_20 (by decide) (by omega) (by omega) (fun h1_ => ?_) (fun h1_ => ?_)
      · refine E_iload (pc := 125) rfl dX2_gatherLooks_125 ?_
        refine E_ireturn (pc := 127) rfl rfl dX2_gatherLooks_127 ?_
        obtain rfl : i = LW := by omega
        exact ⟨rfl, rfl⟩
      · refine E_aload_n (pc := 23) rfl dX2_gatherLooks_23 ?_
        refine E_iload_n (pc := 24) rfl dX2_gatherLooks_24 ?_
        refine E_iload (pc := 25) rfl dX2_gatherLooks_25 ?_
        refine E_callV (pc := 27) (As := [_, _]) (fc := (0, 0)) s2_147_2 oX2_isReached dX2_gatherLooks_27 (mem_ob (ent_st hc.1)) rfl rfl (Nat.le_of_ble_eq_true rfl) rfl rfl (by decide) (c_reach (σ := σ) hc ((I_wrL_ne σ _ (by omega)).trans hF) hF4 (by omega) (by omega) (fun y => I_wrL_ne σ _ (by omega))) (fun rv_ M_ hq_ => ?_)
        obtain ⟨rfl, rfl⟩ := hq_
        refine B_if_ne (pc := 30) 36 dX2_gatherLooks_30 (by decide) (fun g30 => ?_) (fun g30 => ?_)
        · refine E_iload (pc := 36) rfl dX2_gatherLooks_36 ?_
          refine E_istore (pc := 38) (L2 := [_, _, _, _, _, _, _, _, _]) rfl rfl dX2_gatherLooks_38 ?_
          refine E_iconst (pc := 40) 0 rfl dX2_gatherLooks_40 ?_
          refine E_istore (pc := 41) (L2 := [_, _, _, _, _, _, _, _, _]) rfl rfl dX2_gatherLooks_41 ?_
          have hgl := glF_len σ c h ps so ns va K F FR i
          have hacm : ∀ x ∈ glF σ c h ps so ns va K F FR i, x < 1024 := by
            intro x hx
            obtain ⟨q, low, h1, h2, h3⟩ := glF_mem _ _ _ _ _ _ _ _ _ _ _ _ hx
            omega
          have hFRi : FR * i ≤ FR * 255 := Nat.mul_le_mul_left _ (by omega)
          have hFR255 : FR * 255 ≤ 1020 := by omega
          generalize hacc : glF σ c h ps so ns va K F FR i = acc at *
          have inner : ∀ (n2 j : Nat), n2 + j = FR + 1 → j ≤ FR → ∀ v8 : Value, E G mX2_gatherLooks (2, 43) 43 [.ref c, .int (nI ps), .int (nI h), .int (nI FR), .int (nI (acc ++ selF σ ps so ns va (i >>> K) i j).length), .int (nI i), .int (nI acc.length), .int (nI j), v8] [] (mem (wrL σ (c + 3) (acc ++ selF σ ps so ns va (i >>> K) i j))) (fun rv M' => rv = some (.int (nI (glF σ c h ps so ns va K F FR LW).length)) ∧ M' = mem (wrL σ (c + 3) (glF σ c h ps so ns va K F FR LW))) := by
            intro n2
            induction n2 with
            | zero => intro j hj hle2; omega
            | succ n2 ih2 =>
              intro j hj hle2 v8
              refine E_iload (pc := 43) rfl dX2_gatherLooks_43 ?_
              refine E_iload_n (pc := 45) rfl dX2_gatherLooks_45 ?_
              refine N_icmp_ge (pc := 46) 119 dX2_gatherLooks_46 (by decide) (by omega) (by omega) (fun h1_ => ?_) (fun h1_ => ?_)
              · refine E_iinc (pc := 119) (v := nI (i + 1)) (L2 := [_, _, _, _, _, _, _, _, _]) rfl (nI_inc (i) 1) rfl rfl dX2_gatherLooks_119 ?_
                refine E_goto (pc := 122) 14 (by decide) dX2_gatherLooks_122 ?_
                obtain rfl : j = FR := by omega
                have hg : acc ++ selF σ ps so ns va (i >>> K) i j = glF σ c h ps so ns va K F j (i + 1) := by rw [← hacc]; show _ = glF σ c h ps so ns va K F j i ++ _; rw [if_pos g30]
                rw [hg]
                exact ih (i + 1) (by omega) (by omega) _ _ _
              · have hsl := selF_len σ ps so ns va (i >>> K) i j
                have hal : (acc ++ selF σ ps so ns va (i >>> K) i j).length < 1024 := by simp; omega
                have hmem : ∀ x ∈ acc ++ selF σ ps so ns va (i >>> K) i j, x < 1024 := by
                  intro x hx
                  rcases List.mem_append.mp hx with hx | hx
                  · exact hacm x hx
                  · obtain ⟨q, h1, h2⟩ := selF_mem _ _ _ _ _ _ _ _ _ hx
                    omega
                refine E_iload (pc := 49) rfl dX2_gatherLooks_49 ?_
                refine E_bipush (pc := 51) (nI 8) (by decide) dX2_gatherLooks_51 ?_
                refine E_ishl (pc := 53) dX2_gatherLooks_53 ?_
                rw [nI_shl (by omega)]
                refine E_iload (pc := 54) rfl dX2_gatherLooks_54 ?_
                refine E_ior (pc := 56) dX2_gatherLooks_56 ?_
                rw [sh8 (by omega)]
                refine E_istore (pc := 57) (L2 := [_, _, _, _, _, _, _, _, _]) rfl rfl dX2_gatherLooks_57 ?_
                refine E_aload_n (pc := 59) rfl dX2_gatherLooks_59 ?_
                refine R_getR (pc := 60) (b := c + 8) f2_72 dX2_gatherLooks_60 (ent_st hc.1) (by decide) rfl rfl ?_
                refine E_iload_n (pc := 63) rfl dX2_gatherLooks_63 ?_
                refine E_aload_n (pc := 64) rfl dX2_gatherLooks_64 ?_
                refine R_getR (pc := 65) (b := 195) f2_61 dX2_gatherLooks_65 (ent_st hc.1) (by decide) rfl rfl ?_
                refine E_iload (pc := 68) rfl dX2_gatherLooks_68 ?_
                refine V_iald (pc := 70) (j := (j * 256 + i)) dX2_gatherLooks_70 (ent_st TR195) rfl (by omega) (by decide) ((I_wrL_ne σ _ (by omega)).trans (hT ((j * 256 + i)) (by omega)).1) ?_
                refine E_iload (pc := 71) rfl dX2_gatherLooks_71 ?_
                refine E_aload_n (pc := 73) rfl dX2_gatherLooks_73 ?_
                refine V_getI (pc := 74) f2_22 dX2_gatherLooks_74 (ent_st hc.1) (by decide) rfl ((I_wrL_ne σ _ (by omega)).trans hK) ?_
                refine E_ishr (pc := 77) dX2_gatherLooks_77 ?_
                rw [nI_shr (by omega) (by omega)]
                refine E_callV (pc := 78) (As := [_, _, _]) (fc := (0, 0)) s2_150_0 oX0_allows dX2_gatherLooks_78 (mem_ob (ent_st hc.2.2.2.2.2.2.2.2.1)) rfl rfl (Nat.le_of_ble_eq_true rfl) rfl rfl (by decide) (c_X0_allows (a := c + 8) hc.2.2.2.2.2.2.2.2 hh (hlo8 i (by omega)) ((I_wrL_ne σ _ (by omega)).trans h1) ((I_wrL_ne σ _ (by omega)).trans h2) ((I_wrL_ne σ _ (by omega)).trans h3) (hT (j * 256 + i) (by omega)).2 hso hns hva) (fun rv_ M_ hq_ => ?_)
                obtain ⟨rfl, rfl⟩ := hq_
                refine B_if_eq (pc := 81) 113 dX2_gatherLooks_81 (by decide) (fun g81 => ?_) (fun g81 => ?_)
                · have hN : selF σ ps so ns va (i >>> K) i (j + 1) = selF σ ps so ns va (i >>> K) i j := by
                    show (if _ then _ else _) = _
                    rw [if_neg]
                    first | (have g81x : alw so ns va (tr σ (j * 256 + i)) (i >>> K) = false := g81; rw [g81x, Bool.false_and]; exact Bool.false_ne_true) | (have g81x : alw so ns va (tr σ (j * 256 + i)) (i >>> K) = true := g81; rw [g81x, Bool.true_and, g98, decide_eq_false (fun q => q g85)]; decide)
                  refine E_iinc (pc := 113) (v := nI (j + 1)) (L2 := [_, _, _, _, _, _, _, _, _]) rfl (nI_inc (j) 1) rfl rfl dX2_gatherLooks_113 ?_
                  refine E_goto (pc := 116) 43 (by decide) dX2_gatherLooks_116 ?_
                  have hsy : acc ++ selF σ ps so ns va (i >>> K) i j = acc ++ selF σ ps so ns va (i >>> K) i (j + 1) := by rw [hN]
                  rw [hsy]
                  exact ih2 (j + 1) (by omega) (by omega) _
                · refine E_iload_n (pc := 84) rfl dX2_gatherLooks_84 ?_
                  refine N_if_ne (pc := 85) 101 dX2_gatherLooks_85 (by decide) (by omega) (fun g85 => ?_) (fun g85 => ?_)
                  · have hY : selF σ ps so ns va (i >>> K) i (j + 1) = selF σ ps so ns va (i >>> K) i j ++ [j * 256 + i] := by
                      show (if _ then _ else _) = _
                      rw [if_pos]
                      have g81x : alw so ns va (tr σ (j * 256 + i)) (i >>> K) = true := g81
                      rw [g81x, Bool.true_and, Bool.or_eq_true]
                      first | exact Or.inl (decide_eq_true g85) | (right; rw [g98]; rfl)
                    refine E_aload_n (pc := 101) rfl dX2_gatherLooks_101 ?_
                    refine R_getR (pc := 102) (b := c + 3) f2_19 dX2_gatherLooks_102 (ent_st hc.1) (by decide) rfl rfl ?_
                    refine E_iload (pc := 105) rfl dX2_gatherLooks_105 ?_
                    refine E_iload (pc := 107) rfl dX2_gatherLooks_107 ?_
                    refine R_iast (pc := 109) (j := (acc ++ selF σ ps so ns va (i >>> K) i j).length) dX2_gatherLooks_109 (ent_st hc.2.2.2.1) rfl (by omega) (by decide) ?_
                    refine E_iinc (pc := 110) (v := nI ((acc ++ selF σ ps so ns va (i >>> K) i j).length + 1)) (L2 := [_, _, _, _, _, _, _, _, _]) rfl (nI_inc ((acc ++ selF σ ps so ns va (i >>> K) i j).length) 1) rfl rfl dX2_gatherLooks_110 ?_
                    refine E_iinc (pc := 113) (v := nI (j + 1)) (L2 := [_, _, _, _, _, _, _, _, _]) rfl (nI_inc (j) 1) rfl rfl dX2_gatherLooks_113 ?_
                    refine E_goto (pc := 116) 43 (by decide) dX2_gatherLooks_116 ?_
                    refine eqM (wrL_app σ (c + 3) _ _) ?_
                    have hsy : acc ++ selF σ ps so ns va (i >>> K) i j ++ [j * 256 + i] = acc ++ selF σ ps so ns va (i >>> K) i (j + 1) := by rw [hY]; simp
                    rw [hsy]
                    have hl2 : (acc ++ selF σ ps so ns va (i >>> K) i j).length + 1 = (acc ++ selF σ ps so ns va (i >>> K) i (j + 1)).length := by rw [← hsy]; simp [Nat.add_assoc]
                    rw [hl2]
                    exact ih2 (j + 1) (by omega) (by omega) _
                  · refine E_aload_n (pc := 88) rfl dX2_gatherLooks_88 ?_
                    refine E_iload (pc := 89) rfl dX2_gatherLooks_89 ?_
                    refine E_iload (pc := 91) rfl dX2_gatherLooks_91 ?_
                    refine E_iload (pc := 93) rfl dX2_gatherLooks_93 ?_
                    refine E_callV (pc := 95) (As := [_, _, _]) (fc := (0, 0)) s2_154_2 oX2_goesOnAsOne dX2_gatherLooks_95 (mem_ob (ent_st hc.1)) rfl rfl (Nat.le_of_ble_eq_true rfl) rfl rfl (by decide) (c_asOne (σ := σ) hc (by omega) (by omega) hmem rfl (by omega) hT) (fun rv_ M_ hq_ => ?_)
                    obtain ⟨rfl, rfl⟩ := hq_
                    refine B_if_ne (pc := 98) 113 dX2_gatherLooks_98 (by decide) (fun g98 => ?_) (fun g98 => ?_)
                    · have hN : selF σ ps so ns va (i >>> K) i (j + 1) = selF σ ps so ns va (i >>> K) i j := by
                        show (if _ then _ else _) = _
                        rw [if_neg]
                        first | (have g81x : alw so ns va (tr σ (j * 256 + i)) (i >>> K) = false := g81; rw [g81x, Bool.false_and]; exact Bool.false_ne_true) | (have g81x : alw so ns va (tr σ (j * 256 + i)) (i >>> K) = true := g81; rw [g81x, Bool.true_and, g98, decide_eq_false (fun q => q g85)]; decide)
                      refine E_iinc (pc := 113) (v := nI (j + 1)) (L2 := [_, _, _, _, _, _, _, _, _]) rfl (nI_inc (j) 1) rfl rfl dX2_gatherLooks_113 ?_
                      refine E_goto (pc := 116) 43 (by decide) dX2_gatherLooks_116 ?_
                      have hsy : acc ++ selF σ ps so ns va (i >>> K) i j = acc ++ selF σ ps so ns va (i >>> K) i (j + 1) := by rw [hN]
                      rw [hsy]
                      exact ih2 (j + 1) (by omega) (by omega) _
                    · have hY : selF σ ps so ns va (i >>> K) i (j + 1) = selF σ ps so ns va (i >>> K) i j ++ [j * 256 + i] := by
                        show (if _ then _ else _) = _
                        rw [if_pos]
                        have g81x : alw so ns va (tr σ (j * 256 + i)) (i >>> K) = true := g81
                        rw [g81x, Bool.true_and, Bool.or_eq_true]
                        first | exact Or.inl (decide_eq_true g85) | (right; rw [g98]; rfl)
                      refine E_aload_n (pc := 101) rfl dX2_gatherLooks_101 ?_
                      refine R_getR (pc := 102) (b := c + 3) f2_19 dX2_gatherLooks_102 (ent_st hc.1) (by decide) rfl rfl ?_
                      refine E_iload (pc := 105) rfl dX2_gatherLooks_105 ?_
                      refine E_iload (pc := 107) rfl dX2_gatherLooks_107 ?_
                      refine R_iast (pc := 109) (j := (acc ++ selF σ ps so ns va (i >>> K) i j).length) dX2_gatherLooks_109 (ent_st hc.2.2.2.1) rfl (by omega) (by decide) ?_
                      refine E_iinc (pc := 110) (v := nI ((acc ++ selF σ ps so ns va (i >>> K) i j).length + 1)) (L2 := [_, _, _, _, _, _, _, _, _]) rfl (nI_inc ((acc ++ selF σ ps so ns va (i >>> K) i j).length) 1) rfl rfl dX2_gatherLooks_110 ?_
                      refine E_iinc (pc := 113) (v := nI (j + 1)) (L2 := [_, _, _, _, _, _, _, _, _]) rfl (nI_inc (j) 1) rfl rfl dX2_gatherLooks_113 ?_
                      refine E_goto (pc := 116) 43 (by decide) dX2_gatherLooks_116 ?_
                      refine eqM (wrL_app σ (c + 3) _ _) ?_
                      have hsy : acc ++ selF σ ps so ns va (i >>> K) i j ++ [j * 256 + i] = acc ++ selF σ ps so ns va (i >>> K) i (j + 1) := by rw [hY]; simp
                      rw [hsy]
                      have hl2 : (acc ++ selF σ ps so ns va (i >>> K) i j).length + 1 = (acc ++ selF σ ps so ns va (i >>> K) i (j + 1)).length := by rw [← hsy]; simp [Nat.add_assoc]
                      rw [hl2]
                      exact ih2 (j + 1) (by omega) (by omega) _
          have := inner (FR + 1) 0 (by omega) (by omega)
          simp only [selF, List.append_nil] at this
          exact this _
        · refine E_goto (pc := 33) 119 (by decide) dX2_gatherLooks_33 ?_
          refine E_iinc (pc := 119) (v := nI (i + 1)) (L2 := [_, _, _, _, _, _, _, _, _]) rfl (nI_inc (i) 1) rfl rfl dX2_gatherLooks_119 ?_
          refine E_goto (pc := 122) 14 (by decide) dX2_gatherLooks_122 ?_
          have hg : glF σ c h ps so ns va K F FR i = glF σ c h ps so ns va K F FR (i + 1) := by show _ = _ ++ _; rw [g30]; simp
          rw [hg]
          exact ih (i + 1) (by omega) (by omega) _ _ _
  refine E_aload_n (pc := 0) rfl dX2_gatherLooks_0 ?_
  refine R_getR (pc := 1) (b := 2) f2_57 dX2_gatherLooks_1 (ent_st hc.1) (by decide) rfl rfl ?_
  refine E_callV (pc := 4) (As := []) (fc := (1, 23)) s2_144_10 oX10_freeLooks dX2_gatherLooks_4 (mem_ob (ent_st WO2.1)) rfl rfl (Nat.le_of_ble_eq_true rfl) rfl rfl (by decide) (c_X10_freeLooks (w := 2) WO2 hKD) (fun rv_ M_ hq_ => ?_)
  obtain ⟨rfl, rfl⟩ := hq_
  rw [hFR]
  refine E_istore_n (pc := 7) (L2 := [_, _, _, _, _, _, _, _, _]) rfl rfl dX2_gatherLooks_7 ?_
  refine E_iconst (pc := 8) 0 rfl dX2_gatherLooks_8 ?_
  refine E_istore (pc := 9) (L2 := [_, _, _, _, _, _, _, _, _]) rfl rfl dX2_gatherLooks_9 ?_
  refine E_iconst (pc := 11) 0 rfl dX2_gatherLooks_11 ?_
  refine E_istore (pc := 12) (L2 := [_, _, _, _, _, _, _, _, _]) rfl rfl dX2_gatherLooks_12 ?_
  have := key (LW + 1) 0 (by omega) (by omega)
  rw [show glF σ c h ps so ns va K F FR 0 = [] from rfl, wrL_0] at this
  exact this _ _ _
