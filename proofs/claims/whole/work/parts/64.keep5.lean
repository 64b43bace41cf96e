section
/-! ===== keepBest, all of it; what is so ===== -/
variable {A : AW} {σ : ST} {d S h : Nat} {x : Nat × Nat}
theorem WV_12 (a : AOK A) (i : Nat) : (i % 256 < LW A ∧ KPc A S x 12 (stc A (i % 256) (i / 256)) → WV A S x 12 i = 1) ∧ (¬ (i % 256 < LW A ∧ KPc A S x 12 (stc A (i % 256) (i / 256))) → WV A S x 12 i = 0) := by
  refine ⟨fun w => ?_, fun w => (WV_z a (Nat.le_refl _)).mpr w⟩
  unfold WV
  rw [if_pos w.1]
  show (if _ then 1 else 0) = 1
  exact if_pos w.2
theorem CF_LE (a : AOK A) (hL : LE A S x < NV) (i : Nat) : CF A S x 12 i = LE A S x ↔ i % 256 < LW A ∧ KPc A S x 12 (stc A (i % 256) (i / 256)) := by
  have hle := LE_le a hL
  have e := KP12_p (I := 2 ^ cK A 1) (EG_v (x := x) (S := S) a) (stc A (i % 256) (i / 256))
  have hF := FP_99 (A := A) (S := S) (x := x) (h := 12) (s := stc A (i % 256) (i / 256)) a
  unfold CF
  by_cases hl : i % 256 < LW A
  · rw [if_pos hl]
    constructor
    · intro q
      refine ⟨hl, e.mp ⟨?_, hL⟩⟩
      show FP A S x 12 (stc A (i % 256) (i / 256)) = LE A S x
      unfold cF at q
      split at q
      · exact q
      · omega
    · rintro ⟨-, w⟩
      have q : FP A S x 12 (stc A (i % 256) (i / 256)) = LE A S x := (e.mpr w).1
      unfold cF
      rw [if_pos (by omega), q]
  · rw [if_neg hl]
    exact ⟨fun q => by omega, fun q => absurd q.1 hl⟩
theorem sm_supp {g : Nat → Nat} {n k : Nat} (hk : k ≤ n) (h0 : ∀ i, k ≤ i → i < n → g i = 0) : sm n g = sm k g := by
  induction n with
  | zero => have : k = 0 := by omega
            subst this; rfl
  | succ n ih =>
    by_cases e : k = n + 1
    · subst e; rfl
    · rw [sm, ih (by omega) (fun i h1 h2 => h0 i h1 (by omega)), h0 n (by omega) (by omega)]
      rfl
theorem NB_0 (a : AOK A) {s : Nat} (hs : ¬ s < 2 ^ cK A 1) : NB A S x 12 s = 0 := by
  have e := Nb_pos (E := EG A S x) (I := 2 ^ cK A 1) (gl := glS A S) (EG_ok a) 12 (by omega) s
  by_cases w : NB A S x 12 s = 0
  · exact w
  · have k := e.mp (Nat.pos_of_ne_zero w)
    have hf : Fw (EG A S x) (2 ^ cK A 1) 0 s < NV := by
      have h1 : Fw (EG A S x) (2 ^ cK A 1) 0 s + _ = _ := k.1
      have h2 := k.2
      omega
    unfold Fw at hf
    rw [if_neg hs] at hf
    exact absurd hf (Nat.lt_irrefl _)
theorem cnt_ix (a : AOK A) : sm (nSt A S) (WV A S x 0) = sm 1024 (NB A S x 12) := by
  have hn := nSt_le (S := S) a
  have hK := K32 a
  have hPL : 2 ^ cK A 1 ≤ LW A := by unfold LW RR; split <;> omega
  have hLW := LW_256 a
  have hsn : 2 ^ cK A 1 ≤ nSt A S := by rw [nSt_eq]; omega
  rw [sm_supp (n := 1024) (k := 2 ^ cK A 1) (by omega) (fun i h1 _ => NB_0 a (by omega)), sm_supp (n := nSt A S) (k := 2 ^ cK A 1) hsn]
  · refine sm_congr fun i hi => ?_
    unfold WV
    rw [show i % 256 = i by omega, if_pos (by omega), show i / 256 = 0 by omega]
    congr 1
    unfold stc
    rw [Nat.mod_eq_of_lt hi, Nat.div_eq_of_lt hi]
    omega
  · intro i h1 _
    unfold WV
    split
    · rename_i hl
      refine NB_0 a (fun q => ?_)
      have := (st_0 a hl).mp q
      omega
    · rfl
theorem t_keepBest (a : AOK A) (hd : d = 197 ∨ d = 213) {first : Nat} (hf : first ≤ 11) (c : CR 2 A σ) (t : TB A σ) (fn : FND d A S x σ) (hL : LE A S x < NV) : ∃ s, f_X2_keepBest d (nI first) σ = some s ∧ Fr (fun y => d ≤ y ∧ y ≤ d + 7) σ s ∧ KPT d A S x first s := by
  obtain ⟨g, f, hcost, h12, h13⟩ := fn
  rw [if_pos hL] at h12
  have hn := nSt_le (S := S) a
  have hle := LE_le a hL
  unfold f_X2_keepBest
  -- the last hour
  have L1 : ∃ s, f_X2_keepBest_2 d (fun x1_8 s9 => f_X2_keepBest_89 d (fun x1_17 s18 => f_X2_keepBest_146 d FU x1_17 (nI 0) s18) FU x1_8 (nI 11) s9) FU (nI first) (nI 0) σ = f_X2_keepBest_89 d (fun x1_17 s18 => f_X2_keepBest_146 d FU x1_17 (nI 0) s18) FU (nI first) (nI 11) s ∧ (Fr (fun y => y = d + 1 ∨ y = d + 2) σ s ∧ (∀ j, j < 12288 → s.1 (d + 1) j = σ.1 (d + 1) j) ∧ (∀ j, j < nSt A S → s.1 (d + 1) (12288 + j) = nI (CK A S x 12 j)) ∧ (∀ j, nSt A S ≤ j → s.1 (d + 1) (12288 + j) = σ.1 (d + 1) (12288 + j)) ∧ ∀ j, j < nSt A S → s.2.1 (d + 2) (12 % 2 * 1024 + j) = lN (cap (WV A S x 12 j))) := by
    refine loopE (fun n i s => f_X2_keepBest_2 d (fun x1_8 s9 => f_X2_keepBest_89 d (fun x1_17 s18 => f_X2_keepBest_146 d FU x1_17 (nI 0) s18) FU x1_8 (nI 11) s9) n (nI first) (nI i) s) (nSt A S) (fun i s => Fr (fun y => y = d + 1 ∨ y = d + 2) σ s ∧ (∀ j, j < 12288 → s.1 (d + 1) j = σ.1 (d + 1) j) ∧ (∀ j, j < i → s.1 (d + 1) (12288 + j) = nI (CK A S x 12 j)) ∧ (∀ j, i ≤ j → s.1 (d + 1) (12288 + j) = σ.1 (d + 1) (12288 + j)) ∧ ∀ j, j < i → s.2.1 (d + 2) (12 % 2 * 1024 + j) = lN (cap (WV A S x 12 j))) (fun s => f_X2_keepBest_89 d (fun x1_17 s18 => f_X2_keepBest_146 d FU x1_17 (nI 0) s18) FU (nI first) (nI 11) s) ?_ ?_ FU 0 σ (by rw [FU_eq]; omega) (Nat.zero_le _) ⟨Fr.rf _ _, fun j _ => rfl, fun j hj => by omega, fun j _ => rfl, fun j hj => by omega⟩
    · rintro n i s hi ⟨hF, v1, v2, v3, v4⟩ Q hQ
      have f10 : s.1 d 10 = nI (nSt A S) := by rw [hF.I (by omega), nSt_eq]; exact f.2.2.2
      have f12 : s.1 d 12 = nI (LE A S x) := by rw [hF.I (by omega)]; exact h12
      have hix : 12288 + i < 13312 := by omega
      have hjx : 12 % 2 * 1024 + i < 2048 := by omega
      have hc0 := hcost 12 i (by omega) hi
      have e12 : s.1 (d + 1) (12288 + i) = nI (CF A S x 12 i) := (v3 i (Nat.le_refl _)).trans hc0
      have hcf := CF_ok (S := S) (x := x) (h := 12) a (by omega) i
      have upd : ∀ (z : Int32) (w : Int64), z = nI (CK A S x 12 i) → w = lN (cap (WV A S x 12 i)) → Q (setJ (setI s (d + 1) (12288 + i) z) (d + 2) (12 % 2 * 1024 + i) w) := by
        intro z w hz hw
        refine hQ _ ⟨(hF.tr (Fr_setI (Or.inl rfl))).tr (Fr_setJ (Or.inr rfl)), fun j hj => ?_, fun j hj => ?_, fun j hj => ?_, fun j hj => ?_⟩
        · rw [I_setJ, I_ne (Or.inr (by omega))]; exact v1 j hj
        · rw [I_setJ]
          by_cases e : j = i
          · subst e; rw [I_at]; exact hz
          · rw [I_ne (Or.inr (by omega))]; exact v2 j (by omega)
        · rw [I_setJ, I_ne (Or.inr (by omega))]; exact v3 j (by omega)
        · by_cases e : j = i
          · subst e; rw [J_at]; exact hw
          · rw [J_ne (Or.inr (by omega)), J_setI]; exact v4 j (by omega)
      show ∃ y, f_X2_keepBest_2 d _ (n + 1) (nI first) (nI i) s = f_X2_keepBest_2 d _ n (nI first) (nI (i + 1)) y ∧ _
      rw [f_X2_keepBest_2]
      by_cases w : CF A S x 12 i = LE A S x
      · have k := (CF_LE a hL i).mp w
        have e12' : s.1 (d + 1) (12288 + i) = nI (LE A S x) := by rw [e12, w]
        have hck : nI (LE A S x) = nI (CK A S x 12 i) := by rw [← w, CK_t k, CF, if_pos k.1]; unfold cF; rw [if_pos (KP_FP a (by omega) k.2).1]
        have hwv : (1 : Int64) = lN (cap (WV A S x 12 i)) := by rw [(WV_12 a i).1 k]; rfl
        simp (disch := omega) only [bind_s, bd2_s, rdT_ok, ixR_ok, wrT_none, pfI_s, pfJ_s, pfZ_0, pfZ_1, zr_b2, nl_n, nl_s, nI_add, nI_mul, nI_sub, nI_shlm, nI_shrd, nI_or8, nI_or8r, nI_or5r, nI_and255, nI_and31, nI_and7, nI_and1, nI_andK, nI_clr, Nat.one_mul, nI_eqz, nI_eqq, nI_ltq, nI_ltz, nI_zlt, nI_nm1, nI_m2, m1_z, m1_lt0, m1_m1, b2_z, nI1_z, nI0_z, tb_0, tb_1, ite_nI, I_at, I_ne, J_at, J_ne, J_setI, I_setJ, ↓reduceIte, ltN_T, ltN_F, eqN_T, eqN_F, pow8, pow5, b2_f0, b2_t0, reduceCtorEq, Bool.false_eq_true, Bool.true_eq_false, eq_self, false_and, true_and, and_false, and_true, not_false_eq_true, not_true_eq_false, f10]
        rw [rdI_ok hix (by decide), e12']
        simp (disch := omega) only [bind_s, bd2_s, rdT_ok, ixR_ok, wrT_none, pfI_s, pfJ_s, pfZ_0, pfZ_1, zr_b2, nl_n, nl_s, nI_add, nI_mul, nI_sub, nI_shlm, nI_shrd, nI_or8, nI_or8r, nI_or5r, nI_and255, nI_and31, nI_and7, nI_and1, nI_andK, nI_clr, Nat.one_mul, nI_eqz, nI_eqq, nI_ltq, nI_ltz, nI_zlt, nI_nm1, nI_m2, m1_z, m1_lt0, m1_m1, b2_z, nI1_z, nI0_z, tb_0, tb_1, ite_nI, I_at, I_ne, J_at, J_ne, J_setI, I_setJ, ↓reduceIte, ltN_T, ltN_F, eqN_T, eqN_F, pow8, pow5, b2_f0, b2_t0, reduceCtorEq, Bool.false_eq_true, Bool.true_eq_false, eq_self, false_and, true_and, and_false, and_true, not_false_eq_true, not_true_eq_false, f12, f_X2_keepBest_34, f_X2_keepBest_57, f_X2_layerOf]
        rw [rdI_ok hix (by decide), e12']
        simp (disch := omega) only [bind_s, bd2_s, rdT_ok, ixR_ok, wrT_none, pfI_s, pfJ_s, pfZ_0, pfZ_1, zr_b2, nl_n, nl_s, nI_add, nI_mul, nI_sub, nI_shlm, nI_shrd, nI_or8, nI_or8r, nI_or5r, nI_and255, nI_and31, nI_and7, nI_and1, nI_andK, nI_clr, Nat.one_mul, nI_eqz, nI_eqq, nI_ltq, nI_ltz, nI_zlt, nI_nm1, nI_m2, m1_z, m1_lt0, m1_m1, b2_z, nI1_z, nI0_z, tb_0, tb_1, ite_nI, I_at, I_ne, J_at, J_ne, J_setI, I_setJ, ↓reduceIte, ltN_T, ltN_F, eqN_T, eqN_F, pow8, pow5, b2_f0, b2_t0, reduceCtorEq, Bool.false_eq_true, Bool.true_eq_false, eq_self, false_and, true_and, and_false, and_true, not_false_eq_true, not_true_eq_false]
        rw [wrI_ok hix (by decide)]
        simp (disch := omega) only [bind_s, bd2_s, rdT_ok, ixR_ok, wrT_none, pfI_s, pfJ_s, pfZ_0, pfZ_1, zr_b2, nl_n, nl_s, nI_add, nI_mul, nI_sub, nI_shlm, nI_shrd, nI_or8, nI_or8r, nI_or5r, nI_and255, nI_and31, nI_and7, nI_and1, nI_andK, nI_clr, Nat.one_mul, nI_eqz, nI_eqq, nI_ltq, nI_ltz, nI_zlt, nI_nm1, nI_m2, m1_z, m1_lt0, m1_m1, b2_z, nI1_z, nI0_z, tb_0, tb_1, ite_nI, I_at, I_ne, J_at, J_ne, J_setI, I_setJ, ↓reduceIte, ltN_T, ltN_F, eqN_T, eqN_F, pow8, pow5, b2_f0, b2_t0, reduceCtorEq, Bool.false_eq_true, Bool.true_eq_false, eq_self, false_and, true_and, and_false, and_true, not_false_eq_true, not_true_eq_false]
        rw [wrJ_ok hjx (by decide)]
        simp (disch := omega) only [bind_s, bd2_s, rdT_ok, ixR_ok, wrT_none, pfI_s, pfJ_s, pfZ_0, pfZ_1, zr_b2, nl_n, nl_s, nI_add, nI_mul, nI_sub, nI_shlm, nI_shrd, nI_or8, nI_or8r, nI_or5r, nI_and255, nI_and31, nI_and7, nI_and1, nI_andK, nI_clr, Nat.one_mul, nI_eqz, nI_eqq, nI_ltq, nI_ltz, nI_zlt, nI_nm1, nI_m2, m1_z, m1_lt0, m1_m1, b2_z, nI1_z, nI0_z, tb_0, tb_1, ite_nI, I_at, I_ne, J_at, J_ne, J_setI, I_setJ, ↓reduceIte, ltN_T, ltN_F, eqN_T, eqN_F, pow8, pow5, b2_f0, b2_t0, reduceCtorEq, Bool.false_eq_true, Bool.true_eq_false, eq_self, false_and, true_and, and_false, and_true, not_false_eq_true, not_true_eq_false]
        exact ⟨_, rfl, upd _ _ hck hwv⟩
      · have k : ¬ (i % 256 < LW A ∧ KPc A S x 12 (stc A (i % 256) (i / 256))) := fun q => w ((CF_LE a hL i).mpr q)
        have hck : nI 1048576 = nI (CK A S x 12 i) := by rw [CK_f k]
        have hwv : (0 : Int64) = lN (cap (WV A S x 12 i)) := by rw [(WV_12 a i).2 k]; rfl
        simp (disch := omega) only [bind_s, bd2_s, rdT_ok, ixR_ok, wrT_none, pfI_s, pfJ_s, pfZ_0, pfZ_1, zr_b2, nl_n, nl_s, nI_add, nI_mul, nI_sub, nI_shlm, nI_shrd, nI_or8, nI_or8r, nI_or5r, nI_and255, nI_and31, nI_and7, nI_and1, nI_andK, nI_clr, Nat.one_mul, nI_eqz, nI_eqq, nI_ltq, nI_ltz, nI_zlt, nI_nm1, nI_m2, m1_z, m1_lt0, m1_m1, b2_z, nI1_z, nI0_z, tb_0, tb_1, ite_nI, I_at, I_ne, J_at, J_ne, J_setI, I_setJ, ↓reduceIte, ltN_T, ltN_F, eqN_T, eqN_F, pow8, pow5, b2_f0, b2_t0, reduceCtorEq, Bool.false_eq_true, Bool.true_eq_false, eq_self, false_and, true_and, and_false, and_true, not_false_eq_true, not_true_eq_false, f10]
        rw [rdI_ok hix (by decide), e12]
        simp (disch := omega) only [bind_s, bd2_s, rdT_ok, ixR_ok, wrT_none, pfI_s, pfJ_s, pfZ_0, pfZ_1, zr_b2, nl_n, nl_s, nI_add, nI_mul, nI_sub, nI_shlm, nI_shrd, nI_or8, nI_or8r, nI_or5r, nI_and255, nI_and31, nI_and7, nI_and1, nI_andK, nI_clr, Nat.one_mul, nI_eqz, nI_eqq, nI_ltq, nI_ltz, nI_zlt, nI_nm1, nI_m2, m1_z, m1_lt0, m1_m1, b2_z, nI1_z, nI0_z, tb_0, tb_1, ite_nI, I_at, I_ne, J_at, J_ne, J_setI, I_setJ, ↓reduceIte, ltN_T, ltN_F, eqN_T, eqN_F, pow8, pow5, b2_f0, b2_t0, reduceCtorEq, Bool.false_eq_true, Bool.true_eq_false, eq_self, false_and, true_and, and_false, and_true, not_false_eq_true, not_true_eq_false, f12, w, f_X2_keepBest_34, f_X2_keepBest_57, f_X2_layerOf]
        rw [wrI_ok hix (by decide)]
        simp (disch := omega) only [bind_s, bd2_s, rdT_ok, ixR_ok, wrT_none, pfI_s, pfJ_s, pfZ_0, pfZ_1, zr_b2, nl_n, nl_s, nI_add, nI_mul, nI_sub, nI_shlm, nI_shrd, nI_or8, nI_or8r, nI_or5r, nI_and255, nI_and31, nI_and7, nI_and1, nI_andK, nI_clr, Nat.one_mul, nI_eqz, nI_eqq, nI_ltq, nI_ltz, nI_zlt, nI_nm1, nI_m2, m1_z, m1_lt0, m1_m1, b2_z, nI1_z, nI0_z, tb_0, tb_1, ite_nI, I_at, I_ne, J_at, J_ne, J_setI, I_setJ, ↓reduceIte, ltN_T, ltN_F, eqN_T, eqN_F, pow8, pow5, b2_f0, b2_t0, reduceCtorEq, Bool.false_eq_true, Bool.true_eq_false, eq_self, false_and, true_and, and_false, and_true, not_false_eq_true, not_true_eq_false]
        rw [wrJ_ok hjx (by decide)]
        simp (disch := omega) only [bind_s, bd2_s, rdT_ok, ixR_ok, wrT_none, pfI_s, pfJ_s, pfZ_0, pfZ_1, zr_b2, nl_n, nl_s, nI_add, nI_mul, nI_sub, nI_shlm, nI_shrd, nI_or8, nI_or8r, nI_or5r, nI_and255, nI_and31, nI_and7, nI_and1, nI_andK, nI_clr, Nat.one_mul, nI_eqz, nI_eqq, nI_ltq, nI_ltz, nI_zlt, nI_nm1, nI_m2, m1_z, m1_lt0, m1_m1, b2_z, nI1_z, nI0_z, tb_0, tb_1, ite_nI, I_at, I_ne, J_at, J_ne, J_setI, I_setJ, ↓reduceIte, ltN_T, ltN_F, eqN_T, eqN_F, pow8, pow5, b2_f0, b2_t0, reduceCtorEq, Bool.false_eq_true, Bool.true_eq_false, eq_self, false_and, true_and, and_false, and_true, not_false_eq_true, not_true_eq_false]
        exact ⟨_, rfl, upd _ _ hck hwv⟩
    · rintro n s ⟨hF, -, -, -, -⟩
      have f10 : s.1 d 10 = nI (nSt A S) := by rw [hF.I (by omega), nSt_eq]; exact f.2.2.2
      show f_X2_keepBest_2 d _ (n + 1) (nI first) (nI (nSt A S)) s = _
      rw [f_X2_keepBest_2]
      simp (disch := omega) only [bind_s, bd2_s, rdI_ok, rdJ_ok, rdT_ok, ixR_ok, wrI_ok, wrJ_ok, wrT_none, pfI_s, pfJ_s, pfZ_0, pfZ_1, zr_b2, nl_n, nl_s, nI_add, nI_mul, nI_sub, nI_shlm, nI_shrd, nI_or8, nI_or8r, nI_or5r, nI_and255, nI_and31, nI_and7, nI_and1, nI_andK, nI_clr, Nat.one_mul, nI_eqz, nI_eqq, nI_ltq, nI_ltz, nI_zlt, nI_nm1, nI_m2, m1_z, m1_lt0, m1_m1, b2_z, nI1_z, nI0_z, tb_0, tb_1, ite_nI, I_at, I_ne, J_at, J_ne, J_setI, I_setJ, ↓reduceIte, ltN_T, ltN_F, eqN_T, eqN_F, pow8, pow5, b2_f0, b2_t0, reduceCtorEq, Bool.false_eq_true, Bool.true_eq_false, eq_self, false_and, true_and, and_false, and_true, not_false_eq_true, not_true_eq_false, f10]
  obtain ⟨s1, e1, F1, v1, v2, v3, v4⟩ := L1
  rw [e1]
  obtain ⟨s2, e2, F2, w2, w3, w4⟩ := t_keep89 (first := first) (S := S) (x := x) a hd hf (CR_fr a c F1 (fun y hy => by omega)) (TB_fr t F1 (fun y hy => by omega)) (GX_fr g F1 (fun y hy => by omega)) (FD_fr f F1 (by omega)) (fun h i h1 h2 => by rw [v1 _ (show h * 1024 + i < 12288 from row_lt (h := 12) h1 (Nat.lt_of_lt_of_le h2 hn))]; exact hcost h i (by omega) h2) (fun i hi => v2 i hi) v4 (k := fun x1_17 s18 => f_X2_keepBest_146 d FU x1_17 (nI 0) s18)
  rw [e2]
  have F12 : Fr (fun y => d + 1 ≤ y ∧ y ≤ d + 7) σ s2 := (F1.mono (fun y hy => by omega)).tr F2
  have g2 := GX_fr g F12 (fun y hy => by omega)
  have f2 := FD_fr f F12 (by omega)
  have b12 : s2.1 d 12 = nI (LE A S x) := by rw [F12.I (by omega)]; exact h12
  have b13 : s2.2.1 d 13 = 0 := by rw [F12.J (by omega)]; exact h13
  by_cases h0 : first = 0
  · subst h0
    have L2 : ∃ s, f_X2_keepBest_146 d FU (nI 0) (nI 0) s2 = some s ∧ (Fr (fun y => y = d) s2 s ∧ s.1 = s2.1 ∧ s.2.1 d 13 = lN (cap (sm (nSt A S) (WV A S x 0)))) := by
      refine loopE (fun n i s => f_X2_keepBest_146 d n (nI 0) (nI i) s) (nSt A S) (fun i s => Fr (fun y => y = d) s2 s ∧ s.1 = s2.1 ∧ s.2.1 d 13 = lN (cap (sm i (WV A S x 0)))) (fun s => some s) ?_ ?_ FU 0 s2 (by rw [FU_eq]; omega) (Nat.zero_le _) ⟨Fr.rf _ _, rfl, by rw [b13]; rfl⟩
      · rintro n i s hi ⟨hF, e, v⟩ Q hQ
        have f10 : s.1 d 10 = nI (nSt A S) := by rw [e, nSt_eq]; exact f2.2.2.2
        have wi : s.2.1 (d + 2) (0 % 2 * 1024 + i) = lN (cap (WV A S x 0 i)) := by rw [hF.J (by omega)]; exact w3 i hi
        have hjx : 0 % 2 * 1024 + i < 2048 := by omega
        have hc := lN_cap (cap_le (sm i (WV A S x 0))) (cap_le (WV A S x 0 i))
        show ∃ y, f_X2_keepBest_146 d (n + 1) (nI 0) (nI i) s = f_X2_keepBest_146 d n (nI 0) (nI (i + 1)) y ∧ _
        rw [f_X2_keepBest_146]
        unfold f_X2_layerOf
        simp (disch := omega) only [bind_s, bd2_s, rdT_ok, ixR_ok, wrT_none, pfI_s, pfJ_s, pfZ_0, pfZ_1, zr_b2, nl_n, nl_s, nI_add, nI_mul, nI_sub, nI_shlm, nI_shrd, nI_or8, nI_or8r, nI_or5r, nI_and255, nI_and31, nI_and7, nI_and1, nI_andK, nI_clr, Nat.one_mul, nI_eqz, nI_eqq, nI_ltq, nI_ltz, nI_zlt, nI_nm1, nI_m2, m1_z, m1_lt0, m1_m1, b2_z, nI1_z, nI0_z, tb_0, tb_1, ite_nI, I_at, I_ne, J_at, J_ne, J_setI, I_setJ, ↓reduceIte, ltN_T, ltN_F, eqN_T, eqN_F, pow8, pow5, b2_f0, b2_t0, reduceCtorEq, Bool.false_eq_true, Bool.true_eq_false, eq_self, false_and, true_and, and_false, and_true, not_false_eq_true, not_true_eq_false, f10]
        rw [rdJ_ok hjx (by decide), wi]
        simp (disch := omega) only [bind_s, bd2_s, rdT_ok, ixR_ok, wrT_none, pfI_s, pfJ_s, pfZ_0, pfZ_1, zr_b2, nl_n, nl_s, nI_add, nI_mul, nI_sub, nI_shlm, nI_shrd, nI_or8, nI_or8r, nI_or5r, nI_and255, nI_and31, nI_and7, nI_and1, nI_andK, nI_clr, Nat.one_mul, nI_eqz, nI_eqq, nI_ltq, nI_ltz, nI_zlt, nI_nm1, nI_m2, m1_z, m1_lt0, m1_m1, b2_z, nI1_z, nI0_z, tb_0, tb_1, ite_nI, I_at, I_ne, J_at, J_ne, J_setI, I_setJ, ↓reduceIte, ltN_T, ltN_F, eqN_T, eqN_F, pow8, pow5, b2_f0, b2_t0, reduceCtorEq, Bool.false_eq_true, Bool.true_eq_false, eq_self, false_and, true_and, and_false, and_true, not_false_eq_true, not_true_eq_false, v, hc]
        refine ⟨_, rfl, hQ _ ⟨hF.tr (Fr_setJ rfl), by rw [I_setJ]; exact e, ?_⟩⟩
        rw [J_at, cap_add]
        rfl
      · rintro n s ⟨hF, e, -⟩
        have f10 : s.1 d 10 = nI (nSt A S) := by rw [e, nSt_eq]; exact f2.2.2.2
        show f_X2_keepBest_146 d (n + 1) (nI 0) (nI (nSt A S)) s = _
        rw [f_X2_keepBest_146]
        simp (disch := omega) only [bind_s, bd2_s, rdI_ok, rdJ_ok, rdT_ok, ixR_ok, wrI_ok, wrJ_ok, wrT_none, pfI_s, pfJ_s, pfZ_0, pfZ_1, zr_b2, nl_n, nl_s, nI_add, nI_mul, nI_sub, nI_shlm, nI_shrd, nI_or8, nI_or8r, nI_or5r, nI_and255, nI_and31, nI_and7, nI_and1, nI_andK, nI_clr, Nat.one_mul, nI_eqz, nI_eqq, nI_ltq, nI_ltz, nI_zlt, nI_nm1, nI_m2, m1_z, m1_lt0, m1_m1, b2_z, nI1_z, nI0_z, tb_0, tb_1, ite_nI, I_at, I_ne, J_at, J_ne, J_setI, I_setJ, ↓reduceIte, ltN_T, ltN_F, eqN_T, eqN_F, pow8, pow5, b2_f0, b2_t0, reduceCtorEq, Bool.false_eq_true, Bool.true_eq_false, eq_self, false_and, true_and, and_false, and_true, not_false_eq_true, not_true_eq_false, f10]
    obtain ⟨s3, e3, F3, i3, j3⟩ := L2
    refine ⟨s3, e3, (F12.mono (fun y hy => by omega)).tr (F3.mono (fun y hy => by omega)), GX_fr g2 F3 (fun y hy => by omega), ?_, fun h i h1 h2 h3 => ?_, ?_, fun h h1 h2 => ?_, fun _ => ?_⟩
    · obtain ⟨q1, q2, q3, q4⟩ := f2
      exact ⟨by rw [i3]; exact q1, by rw [i3]; exact q2, by rw [i3]; exact q3, by rw [i3]; exact q4⟩
    · rw [i3]; exact w2 h i h1 h2 h3
    · rw [i3]; exact b12
    · exact NT_eq (w4 h h1 h2) (by rw [i3]) (by rw [i3]) (by rw [i3]) (by rw [i3])
    · rw [j3, cnt_ix a]
  · refine ⟨s2, ?_, F12.mono (fun y hy => by omega), g2, f2, w2, b12, w4, fun q => absurd q h0⟩
    show f_X2_keepBest_146 d (19999 + 1) (nI first) (nI 0) s2 = _
    rw [f_X2_keepBest_146]
    simp (disch := omega) only [bind_s, bd2_s, rdI_ok, rdJ_ok, rdT_ok, ixR_ok, wrI_ok, wrJ_ok, wrT_none, pfI_s, pfJ_s, pfZ_0, pfZ_1, zr_b2, nl_n, nl_s, nI_add, nI_mul, nI_sub, nI_shlm, nI_shrd, nI_or8, nI_or8r, nI_or5r, nI_and255, nI_and31, nI_and7, nI_and1, nI_andK, nI_clr, Nat.one_mul, nI_eqz, nI_eqq, nI_ltq, nI_ltz, nI_zlt, nI_nm1, nI_m2, m1_z, m1_lt0, m1_m1, b2_z, nI1_z, nI0_z, tb_0, tb_1, ite_nI, I_at, I_ne, J_at, J_ne, J_setI, I_setJ, ↓reduceIte, ltN_T, ltN_F, eqN_T, eqN_F, pow8, pow5, b2_f0, b2_t0, reduceCtorEq, Bool.false_eq_true, Bool.true_eq_false, eq_self, false_and, true_and, and_false, and_true, not_false_eq_true, not_true_eq_false, h0]
end
