/-! ===== a walk over an hour ===== -/
theorem meetF_off (σ : ST) (c h look next ch price low br du K ps b : Nat) : ∀ n, Off c (meetF σ c h look next ch price low br du K ps b n) σ
  | 0 => Off.rf c σ
  | n + 1 => (stepF_off ..).tr (meetF_off σ c h look next ch price low br du K ps b n)
theorem meetF_cost {σ : ST} {c h look next ch price low br du K ps b : Nat} (hk : CostOK σ c) (hh : h < 12) (hbr : br < 4) (hn : next < 256) : ∀ n, n ≤ 4 → CostOK (meetF σ c h look next ch price low br du K ps b n) c
  | 0, _ => hk
  | n + 1, hn4 => stepF_cost (meetF_cost hk hh hbr hn n (by omega)) hh (Nat.or_lt_two_pow (n := 2) (by omega) hbr) hn
def nxn (σ : ST) (j : Nat) : Nat := (σ.1 196 j).toNatClampNeg
def NxOK (σ : ST) : Prop := ∀ j, j < 7168 → σ.1 196 j = -1 ∨ (σ.1 196 j = nI (nxn σ j) ∧ nxn σ j < 256)
/-- a choice's steps from the looks xs, one by one -/
def rowW (σ : ST) (c h ch price br du K ps b F : Nat) (xs : List Nat) (τ : ST) : Nat → ST
  | 0 => τ
  | j + 1 => if σ.1 196 (xs.getD j 0 * 7 + ch) = -1 then rowW σ c h ch price br du K ps b F xs τ j
    else meetF (rowW σ c h ch price br du K ps b F xs τ j) c h (xs.getD j 0) (nxn σ (xs.getD j 0 * 7 + ch)) ch price (xs.getD j 0 % 256) br du K ps b F
def pcost (hn tl : Nat) (pr : Nat → Nat) (ch : Nat) : Nat := if hn ≤ ch then 0 else if bit tl ch then 0 else pr ch
def walkW (σ : ST) (c h cs hn tl : Nat) (pr br : Nat → Nat) (du K ps b F : Nat) (xs : List Nat) : Nat → ST
  | 0 => wrL σ (c + 3) xs
  | n + 1 => if bit cs n then rowW σ c h n (pcost hn tl pr n) (br n) du K ps b F xs (walkW σ c h cs hn tl pr br du K ps b F xs n) xs.length else walkW σ c h cs hn tl pr br du K ps b F xs n
theorem pcost_lt {hn tl : Nat} {pr : Nat → Nat} {ch : Nat} (h : ch < hn → pr ch < 100) : pcost hn tl pr ch < 100 := by
  unfold pcost
  split
  · omega
  · split
    · omega
    · exact h (by omega)
theorem c_X2_walk {G : GP} {σ : ST} {c h ps so ns va K F FR LW t cs hn tl du b : Nat} {pr br kd : Nat → Nat} {xs : List Nat} (hc : CU c) (hcc : c = 197 ∨ c = 213) (hh : h < 12) (hps : ps < 3) (hKD : KD σ 2 kd t) (hFR : 1 <<< cntK kd 0 t = FR) (hFR4 : FR ≤ 4) (hLW : σ.1 c 8 = nI LW) (hLW2 : LW ≤ 256) (hF : σ.1 c 9 = nI F) (hF4 : F ≤ 4) (hK : σ.1 c 7 = nI K) (hK5 : K ≤ 5) (hlo8 : ∀ low, low < LW → low >>> K < 8) (hT : TrOK σ) (hN : NxOK σ) (h1 : σ.1 (c + 8 + 1) h = nI so) (h2 : σ.1 (c + 8 + 2) h = nI ns) (h3 : σ.1 (c + 8 + 3) h = nI va) (hso : so < 2 ^ 20) (hns : ns < 2 ^ 20) (hva : va < 2 ^ 20) (hcs : σ.1 (c + 8 + 4) h = nI cs) (hcs2 : cs < 2 ^ 31) (htl : σ.1 (c + 8 + 5) h = nI tl) (htl2 : tl < 2 ^ 20) (hbr : ∀ ch, ch < 7 → σ.1 (c + 8 + 6) (h * 7 + ch) = nI (br ch) ∧ br ch < 4) (hdu : σ.1 (c + 8 + 7) h = nI du) (hdu4 : du < 4) (hhn : σ.1 2 1 = nI hn) (hn6 : hn ≤ 6) (hpr : ∀ ch, ch < hn → σ.1 (2 + 57 + 6 * ch) 4 = nI (pr ch) ∧ pr ch < 100) (hb : σ.1 c 11 = nI b) (hb16 : b < 16) (hsh : ∀ fr, (fr % 256) >>> K < 32) (hk0 : CostOK σ c) (hxl : glF σ c h ps so ns va K F FR LW = xs) : E G mX2_walk (3, 83) 0 [.ref c, .int (nI ps), .int (nI h), D0, D0, D0, D0, D0] [] (mem σ) (fun rv M' => rv = none ∧ M' = mem (walkW σ c h cs hn tl pr br du K ps b F xs 7)) := by
  have hxs : ∀ j, j < xs.length → xs.getD j 0 < 1024 := by
    intro j hj
    rw [List.getD_eq_getElem?_getD, List.getElem?_eq_getElem hj]
    have hmm : xs[j] ∈ glF σ c h ps so ns va K F FR LW := by rw [hxl]; exact List.getElem_mem hj
    obtain ⟨q, low, q1, q2, q3⟩ := glF_mem _ _ _ _ _ _ _ _ _ _ _ _ hmm
    show xs[j] < 1024
    omega
  have hxl4 : xs.length ≤ 1024 := by
    have := glF_len σ c h ps so ns va K F FR LW
    have h5 := Nat.mul_le_mul hFR4 hLW2
    rw [hxl] at this
    omega
  have key : ∀ (n i : Nat) (ρ : ST), n + i = 7 + 1 → i ≤ 7 → ρ = walkW σ c h cs hn tl pr br du K ps b F xs i → Off c ρ (wrL σ (c + 3) xs) → CostOK ρ c → ∀ v5 v6 v7 : Value, E G mX2_walk (3, 83) 10 [.ref c, .int (nI ps), .int (nI h), .int (nI xs.length), .int (nI i), v5, v6, v7] [] (mem ρ) (fun rv M' => rv = none ∧ M' = mem (walkW σ c h cs hn tl pr br du K ps b F xs 7)) := by
    intro n
    induction n with
    | zero => intro i ρ hi hle; omega
    | succ n ih =>
      intro i ρ hi hle hρ hO hk v5 v6 v7
      have hp100 : pcost hn tl pr i < 100 := pcost_lt (fun q => (hpr i q).2)
      refine E_iload (pc := 10) rfl dX2_walk_10 ?_
      refine E_bipush (pc := 12) (nI 7) (by decide) dX2_walk_12 ?_
      refine N_icmp_ge (pc := 14) 111 dX2_walk_14 (by decide) (by omega) (by omega) (fun h1_ => ?_) (fun h1_ => ?_)
      · refine E_return (pc := 111) rfl dX2_walk_111 ?_
        obtain rfl : i = 7 := by omega
        exact ⟨rfl, by rw [hρ]⟩
      · refine E_aload_n (pc := 17) rfl dX2_walk_17 ?_
        refine R_getR (pc := 18) (b := c + 8) f2_72 dX2_walk_18 (ent_st hc.1) (by decide) rfl rfl ?_
        refine E_iload_n (pc := 21) rfl dX2_walk_21 ?_
        refine E_iload (pc := 22) rfl dX2_walk_22 ?_
        refine E_callV (pc := 24) (As := [_, _]) (fc := (0, 0)) s2_134_0 oX0_mayChoose dX2_walk_24 (mem_ob (ent_st hc.2.2.2.2.2.2.2.2.1)) rfl rfl (Nat.le_of_ble_eq_true rfl) rfl rfl (by decide) (c_X0_mayChoose (a := c + 8) hc.2.2.2.2.2.2.2.2 hh (by omega) ((hO.1 _ _ (by omega)).trans ((I_wrL_ne σ _ (by omega)).trans hcs)) hcs2) (fun rv_ M_ hq_ => ?_)
        obtain ⟨rfl, rfl⟩ := hq_
        refine B_if_ne (pc := 27) 33 dX2_walk_27 (by decide) (fun g27 => ?_) (fun g27 => ?_)
        · refine E_aload_n (pc := 33) rfl dX2_walk_33 ?_
          refine R_getR (pc := 34) (b := c + 8) f2_72 dX2_walk_34 (ent_st hc.1) (by decide) rfl rfl ?_
          refine E_iload_n (pc := 37) rfl dX2_walk_37 ?_
          refine E_iload (pc := 38) rfl dX2_walk_38 ?_
          refine E_callV (pc := 40) (As := [_, _]) (fc := (0, 0)) s2_137_0 oX0_costOf dX2_walk_40 (mem_ob (ent_st hc.2.2.2.2.2.2.2.2.1)) rfl rfl (Nat.le_of_ble_eq_true rfl) rfl rfl (by decide) (c_X0_costOf (a := c + 8) (pr := pr i) hc.2.2.2.2.2.2.2.2 hh (by omega) ((hO.1 _ _ (by omega)).trans ((I_wrL_ne σ _ (by omega)).trans hhn)) hn6 ((hO.1 _ _ (by omega)).trans ((I_wrL_ne σ _ (by omega)).trans htl)) htl2 (fun q => (hO.1 _ _ (by omega)).trans ((I_wrL_ne σ _ (by omega)).trans (hpr i q).1))) (fun rv_ M_ hq_ => ?_)
          obtain ⟨rfl, rfl⟩ := hq_
          refine E_istore (pc := 43) (L2 := [_, _, _, _, _, _, _, _]) rfl rfl dX2_walk_43 ?_
          refine E_iconst (pc := 45) 0 rfl dX2_walk_45 ?_
          refine E_istore (pc := 46) (L2 := [_, _, _, _, _, _, _, _]) rfl rfl dX2_walk_46 ?_
          have inner : ∀ (n2 j : Nat) (τ : ST), n2 + j = xs.length + 1 → j ≤ xs.length → τ = rowW σ c h i (pcost hn tl pr i) (br i) du K ps b F xs ρ j → Off c τ (wrL σ (c + 3) xs) → CostOK τ c → ∀ v7 : Value, E G mX2_walk (3, 83) 48 [.ref c, .int (nI ps), .int (nI h), .int (nI xs.length), .int (nI i), .int (nI (pcost hn tl pr i)), .int (nI j), v7] [] (mem τ) (fun rv M' => rv = none ∧ M' = mem (walkW σ c h cs hn tl pr br du K ps b F xs 7)) := by
            intro n2
            induction n2 with
            | zero => intro j τ hj hle2; omega
            | succ n2 ih2 =>
              intro j τ hj hle2 hτ hO hk v7
              refine E_iload (pc := 48) rfl dX2_walk_48 ?_
              refine E_iload_n (pc := 50) rfl dX2_walk_50 ?_
              refine N_icmp_ge (pc := 51) 105 dX2_walk_51 (by decide) (by omega) (by omega) (fun h1_ => ?_) (fun h1_ => ?_)
              · obtain rfl : j = xs.length := by omega
                have hg : walkW σ c h cs hn tl pr br du K ps b F xs (i + 1) = τ := by
                  show (if _ then _ else _) = _
                  rw [if_pos g27, hτ, hρ]
                refine eqM hg.symm ?_
                refine E_iinc (pc := 105) (v := nI (i + 1)) (L2 := [_, _, _, _, _, _, _, _]) rfl (nI_inc (i) 1) rfl rfl dX2_walk_105 ?_
                refine E_goto (pc := 108) 10 (by decide) dX2_walk_108 ?_
                exact ih (i + 1) _ (by omega) (by omega) rfl (by rw [hg]; exact hO) (by rw [hg]; exact hk) _ _ _
              · have hx1 : xs.getD j 0 < 1024 := hxs _ (by omega)
                have hnxj := hN (xs.getD j 0 * 7 + i) (by omega)
                refine E_aload_n (pc := 54) rfl dX2_walk_54 ?_
                refine R_getR (pc := 55) (b := 196) f2_64 dX2_walk_55 (ent_st hc.1) (by decide) rfl rfl ?_
                refine E_aload_n (pc := 58) rfl dX2_walk_58 ?_
                refine R_getR (pc := 59) (b := c + 3) f2_19 dX2_walk_59 (ent_st hc.1) (by decide) rfl rfl ?_
                refine E_iload (pc := 62) rfl dX2_walk_62 ?_
                refine V_iald (pc := 64) (j := j) dX2_walk_64 (ent_st hc.2.2.2.1) rfl (by omega) (by decide) ((hO.1 _ _ (by omega)).trans ((I_wrL σ _ _ _ _).trans (if_pos ⟨rfl, by omega⟩))) ?_
                refine E_bipush (pc := 65) (nI 7) (by decide) dX2_walk_65 ?_
                refine E_imul (pc := 67) dX2_walk_67 ?_
                rw [nI_mul]
                refine E_iload (pc := 68) rfl dX2_walk_68 ?_
                refine E_iadd (pc := 70) dX2_walk_70 ?_
                rw [nI_add]
                by_cases hm1 : σ.1 196 (xs.getD j 0 * 7 + i) = -1
                · refine V_iald (pc := 71) (j := xs.getD j 0 * 7 + i) dX2_walk_71 (ent_st NX196) rfl (by omega) (by decide) ((hO.1 _ _ (by omega)).trans ((I_wrL_ne σ _ (by omega)).trans hm1)) ?_
                  refine E_istore (pc := 72) (L2 := [_, _, _, _, _, _, _, _]) rfl rfl dX2_walk_72 ?_
                  refine E_iload (pc := 74) rfl dX2_walk_74 ?_
                  refine E_im1 (pc := 76) dX2_walk_76 ?_
                  refine K_icmp_eq_t (pc := 77) 99 dX2_walk_77 rfl (by decide) ?_
                  refine E_iinc (pc := 99) (v := nI (j + 1)) (L2 := [_, _, _, _, _, _, _, _]) rfl (nI_inc (j) 1) rfl rfl dX2_walk_99 ?_
                  refine E_goto (pc := 102) 48 (by decide) dX2_walk_102 ?_
                  have hs : rowW σ c h i (pcost hn tl pr i) (br i) du K ps b F xs ρ (j + 1) = τ := by
                    show (if _ then _ else _) = _
                    rw [if_pos hm1, hτ]
                  refine eqM hs.symm ?_
                  exact ih2 (j + 1) _ (by omega) (by omega) rfl (by rw [hs]; exact hO) (by rw [hs]; exact hk) _
                · have hnx := hnxj.resolve_left hm1
                  refine V_iald (pc := 71) (j := xs.getD j 0 * 7 + i) dX2_walk_71 (ent_st NX196) rfl (by omega) (by decide) ((hO.1 _ _ (by omega)).trans ((I_wrL_ne σ _ (by omega)).trans hnx.1)) ?_
                  refine E_istore (pc := 72) (L2 := [_, _, _, _, _, _, _, _]) rfl rfl dX2_walk_72 ?_
                  refine E_iload (pc := 74) rfl dX2_walk_74 ?_
                  refine E_im1 (pc := 76) dX2_walk_76 ?_
                  refine K_icmp_eq_f (pc := 77) 99 dX2_walk_77 (nI_m1 (by omega)) (by decide) ?_
                  refine E_aload_n (pc := 80) rfl dX2_walk_80 ?_
                  refine E_iload_n (pc := 81) rfl dX2_walk_81 ?_
                  refine E_iload_n (pc := 82) rfl dX2_walk_82 ?_
                  refine E_aload_n (pc := 83) rfl dX2_walk_83 ?_
                  refine R_getR (pc := 84) (b := c + 3) f2_19 dX2_walk_84 (ent_st hc.1) (by decide) rfl rfl ?_
                  refine E_iload (pc := 87) rfl dX2_walk_87 ?_
                  refine V_iald (pc := 89) (j := j) dX2_walk_89 (ent_st hc.2.2.2.1) rfl (by omega) (by decide) ((hO.1 _ _ (by omega)).trans ((I_wrL σ _ _ _ _).trans (if_pos ⟨rfl, by omega⟩))) ?_
                  refine E_iload (pc := 90) rfl dX2_walk_90 ?_
                  refine E_iload (pc := 92) rfl dX2_walk_92 ?_
                  refine E_iload (pc := 94) rfl dX2_walk_94 ?_
                  refine E_callV (pc := 96) (As := [_, _, _, _, _, _]) (fc := (2, 50)) s2_140_2 oX2_meet dX2_walk_96 (mem_ob (ent_st hc.1)) rfl rfl (Nat.le_of_ble_eq_true rfl) rfl rfl (by decide) (c_X2_meet (c := c) (h := h) (look := xs.getD j 0) (next := nxn σ (xs.getD j 0 * 7 + i)) (low := xs.getD j 0 % 256) (br := br i) (du := du) (K := K) (b := b) (sd := tr σ (xs.getD j 0)) hc hh (by omega) rfl hnx.2 (by omega) hp100 hps ((hO.1 _ _ (by omega)).trans ((I_wrL_ne σ _ (by omega)).trans hF)) hF4 ((hO.1 _ _ (by omega)).trans ((I_wrL_ne σ _ (by omega)).trans hK)) hK5 ((hO.1 _ _ (by omega)).trans ((I_wrL_ne σ _ (by omega)).trans hb)) hb16 ((hO.1 _ _ (by omega)).trans ((I_wrL_ne σ _ (by omega)).trans (hT _ (by omega)).1)) (by have := (hT (xs.getD j 0) (by omega)).2; omega) ((hO.1 _ _ (by omega)).trans ((I_wrL_ne σ _ (by omega)).trans (hbr i (by omega)).1)) ((hO.1 _ _ (by omega)).trans ((I_wrL_ne σ _ (by omega)).trans hdu)) (hbr i (by omega)).2 hdu4 hsh (by omega) hk) (fun rv_ M_ hq_ => ?_)
                  obtain ⟨rfl, rfl⟩ := hq_
                  refine E_iinc (pc := 99) (v := nI (j + 1)) (L2 := [_, _, _, _, _, _, _, _]) rfl (nI_inc (j) 1) rfl rfl dX2_walk_99 ?_
                  refine E_goto (pc := 102) 48 (by decide) dX2_walk_102 ?_
                  have hs : rowW σ c h i (pcost hn tl pr i) (br i) du K ps b F xs ρ (j + 1) = meetF τ c h (xs.getD j 0) (nxn σ (xs.getD j 0 * 7 + i)) i (pcost hn tl pr i) (xs.getD j 0 % 256) (br i) du K ps b F := by
                    show (if _ then _ else _) = _
                    rw [if_neg hm1, hτ]
                  refine eqM hs.symm ?_
                  exact ih2 (j + 1) _ (by omega) (by omega) rfl (by rw [hs]; exact (meetF_off ..).tr hO) (by rw [hs]; exact meetF_cost hk hh (hbr i (by omega)).2 hnx.2 F hF4) _
          exact inner (xs.length + 1) 0 ρ (by omega) (by omega) rfl hO hk _
        · refine E_goto (pc := 30) 105 (by decide) dX2_walk_30 ?_
          refine E_iinc (pc := 105) (v := nI (i + 1)) (L2 := [_, _, _, _, _, _, _, _]) rfl (nI_inc (i) 1) rfl rfl dX2_walk_105 ?_
          refine E_goto (pc := 108) 10 (by decide) dX2_walk_108 ?_
          have hg : walkW σ c h cs hn tl pr br du K ps b F xs (i + 1) = ρ := by
            show (if _ then _ else _) = _
            rw [if_neg (by rw [g27]; exact Bool.false_ne_true), hρ]
          refine eqM hg.symm ?_
          exact ih (i + 1) _ (by omega) (by omega) rfl (by rw [hg]; exact hO) (by rw [hg]; exact hk) _ _ _
  refine E_aload_n (pc := 0) rfl dX2_walk_0 ?_
  refine E_iload_n (pc := 1) rfl dX2_walk_1 ?_
  refine E_iload_n (pc := 2) rfl dX2_walk_2 ?_
  refine E_callV (pc := 3) (As := [_, _]) (fc := (2, 43)) s2_131_2 oX2_gatherLooks dX2_walk_3 (mem_ob (ent_st hc.1)) rfl rfl (Nat.le_of_ble_eq_true rfl) rfl rfl (by decide) (c_X2_gatherLooks (c := c) (so := so) (ns := ns) (va := va) hc hh hps hKD hFR hFR4 hLW hLW2 hF hF4 hK hK5 hlo8 hT h1 h2 h3 hso hns hva (by omega)) (fun rv_ M_ hq_ => ?_)
  obtain ⟨rfl, rfl⟩ := hq_
  refine E_istore_n (pc := 6) (L2 := [_, _, _, _, _, _, _, _]) rfl rfl dX2_walk_6 ?_
  refine E_iconst (pc := 7) 0 rfl dX2_walk_7 ?_
  refine E_istore (pc := 8) (L2 := [_, _, _, _, _, _, _, _]) rfl rfl dX2_walk_8 ?_
  rw [hxl]
  exact key 8 0 _ (by omega) (by omega) rfl (Off.rf _ _) (hk0.same (fun j => I_wrL_ne σ _ (by omega))) _ _ _
