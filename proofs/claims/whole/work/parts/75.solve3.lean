section
/-! ===== the reference solves: all of it ===== -/
variable {A : AW} {σ : ST} {S h : Nat} {x : Nat × Nat}
noncomputable def KS4 : ST → Option (Int32 × ST) := fun s24 => if (s24.1 247 39) = (nI 100000000) then (some ((nI 0), s24)) else (f_X12_solve_304 FU (nI 11) s24)
noncomputable def KS3 : ST → Option (Int32 × ST) := fun s19 => (pfI s19 247 39 (nI 100000000)).bind fun s20 => f_X12_solve_227 KS4 FU (((nI 1) <<< ((s20.1 247 36) &&& 31)) - (nI 1)) (nI 0) s20
noncomputable def KS2 : ST → Option (Int32 × ST) := fun s7 => f_X12_solve_79 KS3 FU (nI 0) s7
noncomputable def KS1 : ST → Option (Int32 × ST) := fun s5 => f_X12_solve_51 KS2 FU (nI 0) s5
theorem solve_K (x1 x2 x3 : Int32) : f_X12_solve x1 x2 x3 σ = (f_X12_makeMoments σ).bind fun s1 => (f_X12_gather x1 x2 x3 s1).bind fun s2 => f_X12_solve_14 KS1 FU (nI 0) s2 := rfl
theorem t_solve14 : ∃ u, f_X12_solve_14 KS1 FU (nI 0) σ = KS1 u ∧ Fs (fun y => y = 276 ∨ y = 277) σ u ∧ ∀ j, j < 13312 → u.1 276 j = nI 100000000 ∧ u.1 277 j = nI 100000000 := by
  refine loopE (fun n i u => f_X12_solve_14 KS1 n (nI i) u) 13312 (fun i u => Fs (fun y => y = 276 ∨ y = 277) σ u ∧ ∀ j, j < i → u.1 276 j = nI 100000000 ∧ u.1 277 j = nI 100000000) KS1 ?_ ?_ FU 0 σ (by rw [FU_eq]; omega) (by omega) ⟨Fs.rf _ _, fun j hj => by omega⟩
  · rintro n i u hi ⟨hF, hv⟩ Q hQ
    show ∃ y, f_X12_solve_14 KS1 (n + 1) (nI i) u = f_X12_solve_14 KS1 n (nI (i + 1)) y ∧ _
    rw [f_X12_solve_14]
    simp (disch := omega) only [bind_s, bd2_s, rdI_ok, rdJ_ok, rdT_ok, ixR_ok, wrI_ok, wrJ_ok, wrT_none, pfI_s, pfJ_s, pfZ_0, pfZ_1, zr_b2, nl_n, nl_s, nI_add, nI_mul, nI_sub, nI_shlm, nI_shrd, nI_or8, nI_or8r, nI_or5r, nI_and255, nI_and31, nI_and7, nI_and1, nI_andK, nI_clr, Nat.one_mul, nI_eqz, nI_eqq, nI_ltq, nI_ltz, nI_zlt, nI_nm1, nI_m2, m1_z, m1_lt0, m1_m1, b2_z, nI1_z, nI0_z, tb_0, tb_1, ite_nI, I_at, I_ne, J_at, J_ne, J_setI, I_setJ, ↓reduceIte, ltN_T, ltN_F, eqN_T, eqN_F, pow8, pow5, b2_f0, b2_t0, reduceCtorEq, Bool.false_eq_true, Bool.true_eq_false, eq_self, false_and, true_and, and_false, and_true, not_false_eq_true, not_true_eq_false]
    refine ⟨_, rfl, hQ _ ⟨(hF.tr (Fs_set (Or.inl rfl) (by omega))).tr (Fs_set (Or.inr rfl) (by omega)), fun j hj => ?_⟩⟩
    by_cases e : j = i
    · subst e
      exact ⟨by rw [I_ne (Or.inl (by omega)), I_at], by rw [I_at]⟩
    · rw [I_ne (Or.inl (by omega)), I_ne (Or.inr e), I_ne (Or.inr e), I_ne (Or.inl (by omega))]
      exact hv j (by omega)
  · rintro n u -
    show f_X12_solve_14 KS1 (n + 1) (nI 13312) u = _
    rw [f_X12_solve_14]
    simp (disch := omega) only [bind_s, bd2_s, rdI_ok, rdJ_ok, rdT_ok, ixR_ok, wrI_ok, wrJ_ok, wrT_none, pfI_s, pfJ_s, pfZ_0, pfZ_1, zr_b2, nl_n, nl_s, nI_add, nI_mul, nI_sub, nI_shlm, nI_shrd, nI_or8, nI_or8r, nI_or5r, nI_and255, nI_and31, nI_and7, nI_and1, nI_andK, nI_clr, Nat.one_mul, nI_eqz, nI_eqq, nI_ltq, nI_ltz, nI_zlt, nI_nm1, nI_m2, m1_z, m1_lt0, m1_m1, b2_z, nI1_z, nI0_z, tb_0, tb_1, ite_nI, I_at, I_ne, J_at, J_ne, J_setI, I_setJ, ↓reduceIte, ltN_T, ltN_F, eqN_T, eqN_F, pow8, pow5, b2_f0, b2_t0, reduceCtorEq, Bool.false_eq_true, Bool.true_eq_false, eq_self, false_and, true_and, and_false, and_true, not_false_eq_true, not_true_eq_false]
theorem t_solve51 (a : AOK A) (b : MB A S x σ) : ∃ u, KS1 σ = KS2 u ∧ Fs (fun y => y = 276) σ u ∧ (∀ j, j < 2 ^ cK A 1 → u.1 276 j = nI 0) ∧ ∀ j, 2 ^ cK A 1 ≤ j → u.1 276 j = σ.1 276 j := by
  have hK := K32 a
  have hK5 := a.2.2.1.2.1
  unfold KS1
  refine loopE (fun n i u => f_X12_solve_51 KS2 n (nI i) u) (2 ^ cK A 1) (fun i u => Fs (fun y => y = 276) σ u ∧ (∀ j, j < i → u.1 276 j = nI 0) ∧ ∀ j, 2 ^ cK A 1 ≤ j → u.1 276 j = σ.1 276 j) KS2 ?_ ?_ FU 0 σ (by rw [FU_eq]; omega) (Nat.zero_le _) ⟨Fs.rf _ _, fun j hj => by omega, fun j _ => rfl⟩
  · rintro n i u hi ⟨hF, hv, ho⟩ Q hQ
    have c28 := (MB_fs b hF (fun y hy => by omega)).2.2.2.2.1
    show ∃ y, f_X12_solve_51 KS2 (n + 1) (nI i) u = f_X12_solve_51 KS2 n (nI (i + 1)) y ∧ _
    rw [f_X12_solve_51]
    simp (disch := omega) only [bind_s, bd2_s, rdI_ok, rdJ_ok, rdT_ok, ixR_ok, wrI_ok, wrJ_ok, wrT_none, pfI_s, pfJ_s, pfZ_0, pfZ_1, zr_b2, nl_n, nl_s, nI_add, nI_mul, nI_sub, nI_shlm, nI_shrd, nI_or8, nI_or8r, nI_or5r, nI_and255, nI_and31, nI_and7, nI_and1, nI_andK, nI_clr, Nat.one_mul, nI_eqz, nI_eqq, nI_ltq, nI_ltz, nI_zlt, nI_nm1, nI_m2, m1_z, m1_lt0, m1_m1, b2_z, nI1_z, nI0_z, tb_0, tb_1, ite_nI, I_at, I_ne, J_at, J_ne, J_setI, I_setJ, ↓reduceIte, ltN_T, ltN_F, eqN_T, eqN_F, pow8, pow5, b2_f0, b2_t0, reduceCtorEq, Bool.false_eq_true, Bool.true_eq_false, eq_self, false_and, true_and, and_false, and_true, not_false_eq_true, not_true_eq_false, c28]
    refine ⟨_, rfl, hQ _ ⟨hF.tr (Fs_set rfl (by omega)), fun j hj => ?_, fun j hj => by rw [I_ne (Or.inr (by omega))]; exact ho j hj⟩⟩
    by_cases e : j = i
    · subst e; rw [I_at]
    · rw [I_ne (Or.inr e)]; exact hv j (by omega)
  · rintro n u ⟨hF, -, -⟩
    have c28 := (MB_fs b hF (fun y hy => by omega)).2.2.2.2.1
    show f_X12_solve_51 KS2 (n + 1) (nI (2 ^ cK A 1)) u = _
    rw [f_X12_solve_51]
    simp (disch := omega) only [bind_s, bd2_s, rdI_ok, rdJ_ok, rdT_ok, ixR_ok, wrI_ok, wrJ_ok, wrT_none, pfI_s, pfJ_s, pfZ_0, pfZ_1, zr_b2, nl_n, nl_s, nI_add, nI_mul, nI_sub, nI_shlm, nI_shrd, nI_or8, nI_or8r, nI_or5r, nI_and255, nI_and31, nI_and7, nI_and1, nI_andK, nI_clr, Nat.one_mul, nI_eqz, nI_eqq, nI_ltq, nI_ltz, nI_zlt, nI_nm1, nI_m2, m1_z, m1_lt0, m1_m1, b2_z, nI1_z, nI0_z, tb_0, tb_1, ite_nI, I_at, I_ne, J_at, J_ne, J_setI, I_setJ, ↓reduceIte, ltN_T, ltN_F, eqN_T, eqN_F, pow8, pow5, b2_f0, b2_t0, reduceCtorEq, Bool.false_eq_true, Bool.true_eq_false, eq_self, false_and, true_and, and_false, and_true, not_false_eq_true, not_true_eq_false, c28]
theorem t_solve79 (a : AOK A) (b : MB A S x σ) (w0 : ∀ s, s < 1024 → σ.1 276 (1024 * 0 + s) = nI (FW A S x 0 s)) (w1 : ∀ j, 1024 ≤ j → j < 13312 → σ.1 276 j = nI 100000000) : ∃ u, KS2 σ = KS3 u ∧ Fs (fun y => y = 276 ∨ (278 ≤ y ∧ y ≤ 281)) σ u ∧ ∀ g s, g ≤ 12 → s < 1024 → u.1 276 (1024 * g + s) = nI (FW A S x g s) := by
  unfold KS2
  refine Exists.elim (loopE (fun n h u => f_X12_solve_79 KS3 n (nI h) u) 12 (fun h u => Fs (fun y => y = 276 ∨ (278 ≤ y ∧ y ≤ 281)) σ u ∧ (∀ g s, g ≤ h → s < 1024 → u.1 276 (1024 * g + s) = nI (FW A S x g s)) ∧ ∀ j, 1024 * (h + 1) ≤ j → j < 13312 → u.1 276 j = nI 100000000) KS3 ?_ ?_ FU 0 σ (by rw [FU_eq]; omega) (by omega) ⟨Fs.rf _ _, fun g s hg hs => ?_, fun j h1 h2 => w1 j (by omega) h2⟩) ?_
  · rintro n h u hh ⟨hF, hv, ho⟩ Q hQ
    have bu := MB_fs b hF (fun y hy => by omega)
    obtain ⟨w, q1, q2, -, q3, q4⟩ := t_fw89 (k := fun x4_17 s18 => f_X12_solve_79 KS3 n (x4_17 + nI 1) s18) a hh bu (fun s hs => hv h s (Nat.le_refl _) hs) (fun t ht => ho _ (by omega) (by omega))
    show ∃ y, f_X12_solve_79 KS3 (n + 1) (nI h) u = f_X12_solve_79 KS3 n (nI (h + 1)) y ∧ _
    rw [f_X12_solve_79, if_pos ((nI_ltI (by omega) (by omega)).mpr hh), q1]
    simp (disch := omega) only [bind_s, bd2_s, rdT_ok, ixR_ok, wrT_none, pfI_s, pfJ_s, pfZ_0, pfZ_1, zr_b2, nl_n, nl_s, nI_add, nI_mul, nI_sub, nI_shlm, nI_shrd, nI_or8, nI_or8r, nI_or5r, nI_and255, nI_and31, nI_and7, nI_and1, nI_andK, nI_clr, Nat.one_mul, nI_eqz, nI_eqq, nI_ltq, nI_ltz, nI_zlt, nI_nm1, nI_m2, m1_z, m1_lt0, m1_m1, b2_z, nI1_z, nI0_z, tb_0, tb_1, ite_nI, I_at, I_ne, J_at, J_ne, J_setI, I_setJ, ↓reduceIte, ltN_T, ltN_F, eqN_T, eqN_F, pow8, pow5, b2_f0, b2_t0, reduceCtorEq, Bool.false_eq_true, Bool.true_eq_false, eq_self, false_and, true_and, and_false, and_true, not_false_eq_true, not_true_eq_false]
    refine ⟨w, rfl, hQ _ ⟨hF.tr q2, fun g s hg hs => ?_, fun j h1 h2 => by rw [q3 j (Or.inr (by omega))]; exact ho j (by omega) h2⟩⟩
    by_cases e : g = h + 1
    · subst e; exact q4 s hs
    · rw [q3 _ (Or.inl (by omega))]; exact hv g s (by omega) hs
  · rintro n u -
    show f_X12_solve_79 KS3 (n + 1) (nI 12) u = _
    rw [f_X12_solve_79, if_neg (by decide)]
  · have : g = 0 := by omega
    subst this
    exact w0 s hs
  · rintro u ⟨e, h1, h2, -⟩
    exact ⟨u, e, h1, h2⟩
theorem t_solve227 (a : AOK A) (h36 : σ.1 247 36 = nI (nS A S)) (v3 : ∀ s, s < 1024 → σ.1 276 (12288 + s) = nI (FW A S x 12 s)) (w7 : ∀ j, j < 13312 → σ.1 277 j = nI 100000000) : ∃ u, KS3 σ = KS4 u ∧ Fs (fun y => y = 277) σ u ∧ (∃ v, u.1 247 39 = nI v ∧ Mn 100000000 (fun y => ∃ s, s < 1024 ∧ glS A S s = true ∧ y = FW A S x 12 s) v) ∧ (∀ s, s < 1024 → u.1 277 (12288 + s) = nI (if glS A S s = true then 0 else 100000000)) ∧ ∀ j, j < 12288 → u.1 277 j = nI 100000000 := by
  have h2 := nS_le (S := S) a
  have hP := Nat.two_pow_pos (nS A S)
  have hS4 := S4 (S := S) a
  have F4 : Fs (fun y => y = 277) σ (setI σ 247 39 (nI 100000000)) := Fs_39
  have j36 : (setI σ 247 39 (nI 100000000)).1 247 36 = nI (nS A S) := by rw [I_ne (Or.inr (by omega))]; exact h36
  have w37 : ∀ j, j < 13312 → (setI σ 247 39 (nI 100000000)).1 277 j = nI 100000000 := fun j hj => by rw [I_ne (Or.inl (by omega))]; exact w7 j hj
  unfold KS3
  simp (disch := omega) only [bind_s, bd2_s, rdT_ok, ixR_ok, wrT_none, pfI_s, pfJ_s, pfZ_0, pfZ_1, zr_b2, nl_n, nl_s, nI_add, nI_mul, nI_sub, nI_shlm, nI_shrd, nI_or8, nI_or8r, nI_or5r, nI_and255, nI_and31, nI_and7, nI_and1, nI_andK, nI_clr, Nat.one_mul, nI_eqz, nI_eqq, nI_ltq, nI_ltz, nI_zlt, nI_nm1, nI_m2, m1_z, m1_lt0, m1_m1, b2_z, nI1_z, nI0_z, tb_0, tb_1, ite_nI, I_at, I_ne, J_at, J_ne, J_setI, I_setJ, ↓reduceIte, ltN_T, ltN_F, eqN_T, eqN_F, pow8, pow5, b2_f0, b2_t0, reduceCtorEq, Bool.false_eq_true, Bool.true_eq_false, eq_self, false_and, true_and, and_false, and_true, not_false_eq_true, not_true_eq_false, h36]
  refine Exists.elim (loopE (fun n i u => f_X12_solve_227 KS4 n (nI (2 ^ nS A S - 1)) (nI i) u) 1024 (fun i u => Fs (fun y => y = 277) σ u ∧ (∃ v, u.1 247 39 = nI v ∧ Mn 100000000 (fun y => ∃ s, s < i ∧ glS A S s = true ∧ y = FW A S x 12 s) v) ∧ (∀ s, s < 1024 → u.1 277 (12288 + s) = nI (if s < i ∧ glS A S s = true then 0 else 100000000)) ∧ ∀ j, j < 12288 → u.1 277 j = nI 100000000) KS4 ?_ ?_ FU 0 (setI σ 247 39 (nI 100000000)) (by rw [FU_eq]; omega) (by omega) ⟨F4, ⟨100000000, by rw [I_at], Mn_emp (fun y q => by obtain ⟨_, q, _⟩ := q; omega)⟩, fun s hs => by rw [if_neg (fun w => by omega)]; exact w37 _ (by omega), fun j hj => w37 j (by omega)⟩) ?_
  · rintro n i u hi ⟨hF, ⟨v, ev, mv⟩, hv, ho⟩ Q hQ
    have ew : u.1 276 (12288 + i) = nI (FW A S x 12 i) := by rw [hF.I (by omega) (by omega)]; exact v3 i hi
    have hvl := mv.1
    have hfl := FW_le (A := A) (S := S) (x := x) 12 i
    have hix : 12288 + i < 13312 := by omega
    have sh : nI i >>> (nI 8 &&& 31) = nI (i / 256) := by rw [nI_shrd (by omega) (by omega)]
    show ∃ y, f_X12_solve_227 KS4 (n + 1) (nI (2 ^ nS A S - 1)) (nI i) u = f_X12_solve_227 KS4 n (nI (2 ^ nS A S - 1)) (nI (i + 1)) y ∧ _
    rw [f_X12_solve_227, if_pos ((nI_ltI (by omega) (by omega)).mpr hi), sh, nI_add]
    by_cases hg : i / 256 = 2 ^ nS A S - 1
    · have hg2 : glS A S i = true := by unfold glS; rw [decide_eq_true hg]
      have mnew := Mn_add (x := FW A S x 12 i) mv (Q := fun y => ∃ s, s < i + 1 ∧ glS A S s = true ∧ y = FW A S x 12 s) (fun y => by
        constructor
        · rintro ⟨s, q1, q2, q3⟩
          by_cases e : s = i
          · subst e; exact Or.inr q3
          · exact Or.inl ⟨s, by omega, q2, q3⟩
        · rintro (⟨s, q1, q2, q3⟩ | q)
          · exact ⟨s, by omega, q2, q3⟩
          · exact ⟨i, by omega, hg2, q⟩)
      generalize FW A S x 12 i = fw at *
      rw [if_pos (congrArg nI hg), nI_add, wrI_ok hix (by decide)]
      simp (disch := omega) only [bind_s, bd2_s, rdT_ok, ixR_ok, wrT_none, pfI_s, pfJ_s, pfZ_0, pfZ_1, zr_b2, nl_n, nl_s, nI_add, nI_mul, nI_sub, nI_shlm, nI_shrd, nI_or8, nI_or8r, nI_or5r, nI_and255, nI_and31, nI_and7, nI_and1, nI_andK, nI_clr, Nat.one_mul, nI_eqz, nI_eqq, nI_ltq, nI_ltz, nI_zlt, nI_nm1, nI_m2, m1_z, m1_lt0, m1_m1, b2_z, nI1_z, nI0_z, tb_0, tb_1, ite_nI, I_at, I_ne, J_at, J_ne, J_setI, I_setJ, ↓reduceIte, ltN_T, ltN_F, eqN_T, eqN_F, pow8, pow5, b2_f0, b2_t0, reduceCtorEq, Bool.false_eq_true, Bool.true_eq_false, eq_self, false_and, true_and, and_false, and_true, not_false_eq_true, not_true_eq_false]
      rw [rdI_ok hix (by decide), I_ne (Or.inl (show (276 : Nat) ≠ 277 by decide)), ew]
      simp (disch := omega) only [bind_s, bd2_s, rdT_ok, ixR_ok, wrT_none, pfI_s, pfJ_s, pfZ_0, pfZ_1, zr_b2, nl_n, nl_s, nI_add, nI_mul, nI_sub, nI_shlm, nI_shrd, nI_or8, nI_or8r, nI_or5r, nI_and255, nI_and31, nI_and7, nI_and1, nI_andK, nI_clr, Nat.one_mul, nI_eqz, nI_eqq, nI_ltq, nI_ltz, nI_zlt, nI_nm1, nI_m2, m1_z, m1_lt0, m1_m1, b2_z, nI1_z, nI0_z, tb_0, tb_1, ite_nI, I_at, I_ne, J_at, J_ne, J_setI, I_setJ, ↓reduceIte, ltN_T, ltN_F, eqN_T, eqN_F, pow8, pow5, b2_f0, b2_t0, reduceCtorEq, Bool.false_eq_true, Bool.true_eq_false, eq_self, false_and, true_and, and_false, and_true, not_false_eq_true, not_true_eq_false, ev]
      refine ⟨_, rfl, hQ _ ⟨(hF.tr (Fs_set rfl (by omega))).tr Fs_39, ⟨_, by rw [I_at], mnew⟩, fun s hs => ?_, fun j hj => ?_⟩⟩
      · rw [I_ne (Or.inl (by omega))]
        by_cases e : s = i
        · subst e; rw [I_at, if_pos ⟨by omega, hg2⟩]
        · rw [I_ne (Or.inr (by omega)), hv s hs]
          congr 1
          by_cases q : s < i ∧ glS A S s = true
          · rw [if_pos q, if_pos ⟨by omega, q.2⟩]
          · rw [if_neg q, if_neg (fun w => q ⟨by omega, w.2⟩)]
      · rw [I_ne (Or.inl (by omega)), I_ne (Or.inr (by omega))]; exact ho j hj
    · have hg2 : ¬ glS A S i = true := by unfold glS; rw [decide_eq_true_iff]; exact hg
      rw [if_neg (fun q => hg ((nI_eq (by omega) (by omega)).mp q)), nI_add]
      refine ⟨u, rfl, hQ _ ⟨hF, ⟨v, ev, Mn_same mv fun y => ?_⟩, fun s hs => ?_, ho⟩⟩
      · constructor
        · rintro ⟨s, q1, q2, q3⟩
          by_cases e : s = i
          · subst e; exact absurd q2 hg2
          · exact ⟨s, by omega, q2, q3⟩
        · rintro ⟨s, q1, q2, q3⟩; exact ⟨s, by omega, q2, q3⟩
      · rw [hv s hs]
        congr 1
        by_cases q : s < i ∧ glS A S s = true
        · rw [if_pos q, if_pos ⟨by omega, q.2⟩]
        · rw [if_neg q, if_neg (fun w => q ⟨?_, w.2⟩)]
          by_cases e : s = i
          · subst e; exact absurd w.2 hg2
          · omega
  · rintro n u -
    show f_X12_solve_227 KS4 (n + 1) _ (nI 1024) u = _
    rw [f_X12_solve_227]
    simp (disch := omega) only [bind_s, bd2_s, rdI_ok, rdJ_ok, rdT_ok, ixR_ok, wrI_ok, wrJ_ok, wrT_none, pfI_s, pfJ_s, pfZ_0, pfZ_1, zr_b2, nl_n, nl_s, nI_add, nI_mul, nI_sub, nI_shlm, nI_shrd, nI_or8, nI_or8r, nI_or5r, nI_and255, nI_and31, nI_and7, nI_and1, nI_andK, nI_clr, Nat.one_mul, nI_eqz, nI_eqq, nI_ltq, nI_ltz, nI_zlt, nI_nm1, nI_m2, m1_z, m1_lt0, m1_m1, b2_z, nI1_z, nI0_z, tb_0, tb_1, ite_nI, I_at, I_ne, J_at, J_ne, J_setI, I_setJ, ↓reduceIte, ltN_T, ltN_F, eqN_T, eqN_F, pow8, pow5, b2_f0, b2_t0, reduceCtorEq, Bool.false_eq_true, Bool.true_eq_false, eq_self, false_and, true_and, and_false, and_true, not_false_eq_true, not_true_eq_false]
  · rintro u ⟨e, q1, q2, q3, q4⟩
    refine ⟨u, e, q1, q2, fun s hs => ?_, q4⟩
    rw [q3 s hs]
    by_cases w : glS A S s = true
    · rw [if_pos ⟨hs, w⟩, if_pos w]
    · rw [if_neg (fun q => w q.2), if_neg w]
theorem nI_ne8 {v : Nat} (h : v < 100000000) : ¬ nI v = nI 100000000 := fun q => by have := (nI_eq (by omega) (by omega)).mp q; omega
theorem t_solveK (a : AOK A) (b : MB A S x σ) : ∃ u, f_X12_solve_14 KS1 FU (nI 0) σ = some (b2 (decide (LE A S x < 100000000)), u) ∧ Fs (fun y => 276 ≤ y ∧ y ≤ 281) σ u ∧ SV A S x u := by
  obtain ⟨u1, e1, F1, v1⟩ := t_solve14 (σ := σ)
  have b1 := MB_fs b F1 (fun y hy => by omega)
  obtain ⟨u2, e2, F2, v2, o2⟩ := t_solve51 a b1
  have b2' := MB_fs b1 F2 (fun y hy => by omega)
  have w0 : ∀ s, s < 1024 → u2.1 276 (1024 * 0 + s) = nI (FW A S x 0 s) := by
    intro s hs
    rw [Nat.mul_zero, Nat.zero_add]
    show _ = nI (if s < 2 ^ cK A 1 then 0 else NV)
    by_cases w : s < 2 ^ cK A 1
    · rw [if_pos w]; exact v2 s w
    · rw [if_neg w, o2 s (by omega)]; exact (v1 s (by omega)).1
  have hK := K32 a
  have w1 : ∀ j, 1024 ≤ j → j < 13312 → u2.1 276 j = nI 100000000 := fun j h1 h2 => by rw [o2 j (by omega)]; exact (v1 j h2).1
  have w7 : ∀ j, j < 13312 → u2.1 277 j = nI 100000000 := fun j h1 => by rw [F2.I (by omega) (by omega)]; exact (v1 j h1).2
  obtain ⟨u3, e3, F3, v3⟩ := t_solve79 a b2' w0 w1
  have b3 := MB_fs b2' F3 (fun y hy => by omega)
  obtain ⟨u4, e4, F4, ⟨v, ev, mv⟩, v5, v6⟩ := t_solve227 (x := x) a b3.2.1.2.1 (fun s hs => v3 12 s (by omega) hs) (fun j hj => by rw [F3.I (by omega) (by omega)]; exact w7 j hj)
  have b4 := MB_fs b3 F4 (fun y hy => by omega)
  have hv : v = LE A S x := by
    refine Mn_un2 (fun y hy => ?_) mv (mn_sp NV (fun y => ∃ s, glS A S s = true ∧ y = Fw (EG A S x) (2 ^ cK A 1) 12 s))
    constructor
    · rintro ⟨s, q1, q2, q3⟩; exact ⟨s, q2, q3⟩
    · rintro ⟨s, q2, rfl⟩
      obtain ⟨-, hs⟩ := FW_v (s := s) (h := 12) a hy
      have := S4 (S := S) a
      exact ⟨s, by omega, q2, rfl⟩
  have r4 : ∀ h s, h ≤ 12 → s < 1024 → u4.1 276 (1024 * h + s) = nI (FW A S x h s) := fun h s h1 h2 => by rw [F4.I (by omega) (by omega)]; exact v3 h s h1 h2
  have FF : Fs (fun y => 276 ≤ y ∧ y ≤ 281) σ u4 := (((F1.mono (fun y hy => by omega)).tr (F2.mono (fun y hy => by omega))).tr (F3.mono (fun y hy => by omega))).tr (F4.mono (fun y hy => by omega))
  have hvl := mv.1
  rw [e1, e2, e3, e4]
  unfold KS4
  by_cases hn : LE A S x < 100000000
  · have hne : ¬ nI v = nI 100000000 := nI_ne8 (by rw [hv]; exact hn)
    rw [ev, if_neg hne]
    obtain ⟨u5, e5, F5, g39, r5⟩ := t_bw304 a b4 r4 (fun s hs => v5 s hs) (fun h s h1 h2 => v6 _ (by omega))
    refine ⟨u5, by rw [e5, decide_eq_true hn]; rfl, FF.tr (F5.mono (fun y hy => by omega)), MB_fs b4 F5 (fun y hy => by omega), fun h s h1 h2 => by rw [F5.I (by omega) (by omega)]; exact r4 h s h1 h2, by rw [g39, ev, hv], fun _ => r5⟩
  · have he : nI v = nI 100000000 := congrArg nI (Nat.le_antisymm hvl (Nat.not_lt.mp (by rw [hv]; exact hn)))
    rw [ev, if_pos he]
    exact ⟨u4, by rw [decide_eq_false hn]; rfl, FF, b4, r4, by rw [ev, hv], fun q => absurd q hn⟩
/-- what stays where the reference reckons -/
def Fz (σ s : ST) : Prop := Fr (fun y => y = 247 ∨ (266 ≤ y ∧ y ≤ 287) ∨ y = 295) σ s ∧ ∀ k, k ≠ 27 → k ≠ 28 → k ≠ 29 → k ≠ 36 → k ≠ 39 → k ≠ 40 → s.1 247 k = σ.1 247 k
theorem Fz.rf (σ : ST) : Fz σ σ := ⟨Fr.rf _ _, fun _ _ _ _ _ _ _ => rfl⟩
theorem Fz.tr {σ s u : ST} (h : Fz σ s) (g : Fz s u) : Fz σ u := ⟨h.1.tr g.1, fun k a b c d e f => (g.2 k a b c d e f).trans (h.2 k a b c d e f)⟩
theorem Fz_s {W : Nat → Prop} {σ s : ST} (h : Fs W σ s) (hW : ∀ y, W y → 266 ≤ y ∧ y ≤ 287) : Fz σ s := ⟨h.1.mono (fun y q => q.elim Or.inl (fun q => Or.inr (Or.inl (hW y q)))), fun k _ _ _ _ a b => h.2 k a b⟩
theorem Fz_m {W : Nat → Prop} {σ s : ST} (h : Fm W σ s) (hW : ∀ y, W y → 266 ≤ y ∧ y ≤ 287) : Fz σ s := ⟨h.1.mono (fun y q => q.elim Or.inl (fun q => Or.inr (Or.inl (hW y q)))), h.2.1⟩
theorem MR_fz {s : ST} (m : MR A σ) (h : Fz σ s) : MR A s := MR_eq m (h.2 0 (by omega) (by omega) (by omega) (by omega) (by omega) (by omega)) (h.2 4 (by omega) (by omega) (by omega) (by omega) (by omega) (by omega)) (h.2 9 (by omega) (by omega) (by omega) (by omega) (by omega) (by omega)) (fun y h1 h2 => (h.1.1 y (by omega)).1)
theorem MB_mk (a : AOK A) {s1 s2 : ST} (m : MR A σ) (F1 : Fm (fun y => 266 ≤ y ∧ y ≤ 269) σ s1) (t1 : TBm A s1) (c1 : CTm A s1) (F2 : Fm (fun y => 270 ≤ y ∧ y ≤ 275) s1 s2) (g2 : GM A S x s2) (h47 : ∀ k, k ≠ 36 → s2.1 247 k = s1.1 247 k) : MB A S x s2 := by
  refine ⟨MR_fm (MR_fm m F1 (fun y hy => by omega)) F2 (fun y hy => by omega), g2, fun mm hm => ?_, ⟨by rw [h47 27 (by omega)]; exact c1.1, by rw [h47 28 (by omega)]; exact c1.2.1, by rw [h47 29 (by omega)]; exact c1.2.2⟩⟩
  obtain ⟨q1, q2⟩ := t1 mm hm
  exact ⟨fun q => by rw [F2.I (by omega) (by omega)]; exact q1 q, fun q => ⟨by rw [F2.I (by omega) (by omega)]; exact (q2 q).1, by rw [F2.I (by omega) (by omega)]; exact (q2 q).2.1, fun b hb => by rw [F2.I (by omega) (by omega)]; exact (q2 q).2.2 b hb⟩⟩
theorem t_solve (a : AOK A) (m : MR A σ) (hS : S < 2 ^ 16) (hx : 12 ≤ x.1) : ∃ u, f_X12_solve (nI S) (-1) (-1) σ = some (b2 (decide (LE A S x < 100000000)), u) ∧ Fz σ u ∧ SV A S x u := by
  obtain ⟨s1, e1, F1, t1, c1⟩ := t_makeMoments a m
  obtain ⟨s2, e2, F2, g2, h47⟩ := t_mgather (x := x) a (MR_fm m F1 (fun y hy => by omega)) hS hx
  obtain ⟨u, e3, F3, sv⟩ := t_solveK a (MB_mk a m F1 t1 c1 F2 g2 h47)
  refine ⟨u, ?_, ((Fz_m F1 (fun y hy => by omega)).tr (Fz_m F2 (fun y hy => by omega))).tr (Fz_s F3 (fun y hy => by omega)), sv⟩
  rw [solve_K]
  simp (disch := omega) only [bind_s, bd2_s, rdI_ok, rdJ_ok, rdT_ok, ixR_ok, wrI_ok, wrJ_ok, wrT_none, pfI_s, pfJ_s, pfZ_0, pfZ_1, zr_b2, nl_n, nl_s, nI_add, nI_mul, nI_sub, nI_shlm, nI_shrd, nI_or8, nI_or8r, nI_or5r, nI_and255, nI_and31, nI_and7, nI_and1, nI_andK, nI_clr, Nat.one_mul, nI_eqz, nI_eqq, nI_ltq, nI_ltz, nI_zlt, nI_nm1, nI_m2, m1_z, m1_lt0, m1_m1, b2_z, nI1_z, nI0_z, tb_0, tb_1, ite_nI, I_at, I_ne, J_at, J_ne, J_setI, I_setJ, ↓reduceIte, ltN_T, ltN_F, eqN_T, eqN_F, pow8, pow5, b2_f0, b2_t0, reduceCtorEq, Bool.false_eq_true, Bool.true_eq_false, eq_self, false_and, true_and, and_false, and_true, not_false_eq_true, not_true_eq_false, e1, e2, e3]
theorem t_solveX (a : AOK A) (m : MR A σ) (hS : S < 2 ^ 16) (hx : x.1 < 12) (hx2 : x.2 < nH A) : ∃ u, f_X12_solve (nI S) (nI x.1) (nI x.2) σ = some (b2 (decide (LE A S x < 100000000)), u) ∧ Fz σ u ∧ SV A S x u := by
  obtain ⟨s1, e1, F1, t1, c1⟩ := t_makeMoments a m
  obtain ⟨s2, e2, F2, g2, h47⟩ := t_mgatherX a (MR_fm m F1 (fun y hy => by omega)) hS hx hx2
  obtain ⟨u, e3, F3, sv⟩ := t_solveK a (MB_mk a m F1 t1 c1 F2 g2 h47)
  refine ⟨u, ?_, ((Fz_m F1 (fun y hy => by omega)).tr (Fz_m F2 (fun y hy => by omega))).tr (Fz_s F3 (fun y hy => by omega)), sv⟩
  rw [solve_K]
  simp (disch := omega) only [bind_s, bd2_s, rdI_ok, rdJ_ok, rdT_ok, ixR_ok, wrI_ok, wrJ_ok, wrT_none, pfI_s, pfJ_s, pfZ_0, pfZ_1, zr_b2, nl_n, nl_s, nI_add, nI_mul, nI_sub, nI_shlm, nI_shrd, nI_or8, nI_or8r, nI_or5r, nI_and255, nI_and31, nI_and7, nI_and1, nI_andK, nI_clr, Nat.one_mul, nI_eqz, nI_eqq, nI_ltq, nI_ltz, nI_zlt, nI_nm1, nI_m2, m1_z, m1_lt0, m1_m1, b2_z, nI1_z, nI0_z, tb_0, tb_1, ite_nI, I_at, I_ne, J_at, J_ne, J_setI, I_setJ, ↓reduceIte, ltN_T, ltN_F, eqN_T, eqN_F, pow8, pow5, b2_f0, b2_t0, reduceCtorEq, Bool.false_eq_true, Bool.true_eq_false, eq_self, false_and, true_and, and_false, and_true, not_false_eq_true, not_true_eq_false, e1, e2, e3]
end
