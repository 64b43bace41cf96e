section
/-! ===== the class finds the least price: hour by hour, and all of it ===== -/
variable {A : AW} {σ : ST} {d S h : Nat} {x : Nat × Nat}
noncomputable def CF (A : AW) (S : Nat) (x : Nat × Nat) (h i : Nat) : Nat := if i % 256 < LW A then cF (FP A S x h (stc A (i % 256) (i / 256))) else 1048576
theorem CF_ok (a : AOK A) (hh : h ≤ 12) (i : Nat) : CF A S x h i = 1048576 ∨ CF A S x h i ≤ 2000 := by
  unfold CF
  split
  · exact cF_FP a hh _
  · left; rfl
theorem CF_at (a : AOK A) {fl low : Nat} (hl : low < LW A) : CF A S x h (fl * 256 + low) = cF (FP A S x h (stc A low fl)) := by
  have := LW_256 a
  unfold CF
  rw [(lk_at (f := fl) (show low < 256 by omega)).1, (lk_at (f := fl) (show low < 256 by omega)).2, if_pos hl]
theorem t_clear (a : AOK A) (hd : d = 197 ∨ d = 213) (hh : h ≤ 12) (f : FD d A S σ) : ∃ s, f_X2_clearCosts d (nI h) σ = some s ∧ Fr (fun y => y = d + 1) σ s ∧ (∀ i, i < nSt A S → s.1 (d + 1) (h * 1024 + i) = nI 1048576) ∧ ∀ j, j < h * 1024 ∨ h * 1024 + nSt A S ≤ j → s.1 (d + 1) j = σ.1 (d + 1) j := by
  have hn := nSt_le (S := S) a
  unfold f_X2_clearCosts
  refine loopE (fun n i s => f_X2_clearCosts_2 d n (nI h) (nI i) s) (nSt A S) (fun i s => Fr (fun y => y = d + 1) σ s ∧ (∀ j, j < i → s.1 (d + 1) (h * 1024 + j) = nI 1048576) ∧ ∀ j, j < h * 1024 ∨ h * 1024 + nSt A S ≤ j → s.1 (d + 1) j = σ.1 (d + 1) j) (fun s => some s) ?_ ?_ FU 0 σ (by rw [FU_eq]; omega) (Nat.zero_le _) ⟨Fr.rf _ _, fun j hj => by omega, fun j _ => rfl⟩
  · rintro n i s hi ⟨hF, hv, ho⟩ Q hQ
    have f10 : s.1 d 10 = nI (nSt A S) := by rw [hF.I (by omega), nSt_eq]; exact f.2.2.2
    have hix : h * 1024 + i < 13312 := by omega
    show ∃ y, f_X2_clearCosts_2 d (n + 1) (nI h) (nI i) s = f_X2_clearCosts_2 d n (nI h) (nI (i + 1)) y ∧ _
    rw [f_X2_clearCosts_2]
    simp (disch := omega) only [bind_s, bd2_s, rdI_ok, rdJ_ok, rdT_ok, ixR_ok, wrI_ok, wrJ_ok, wrT_none, pfI_s, pfJ_s, pfZ_0, pfZ_1, zr_b2, nl_n, nl_s, nI_add, nI_mul, nI_sub, nI_shlm, nI_shrd, nI_or8, nI_or8r, nI_or5r, nI_and255, nI_and31, nI_and7, nI_and1, nI_andK, nI_clr, Nat.one_mul, nI_eqz, nI_eqq, nI_ltq, nI_ltz, nI_zlt, nI_nm1, nI_m2, m1_z, m1_lt0, m1_m1, b2_z, nI1_z, nI0_z, tb_0, tb_1, ite_nI, I_at, I_ne, J_at, J_ne, J_setI, I_setJ, ↓reduceIte, ltN_T, ltN_F, eqN_T, eqN_F, pow8, pow5, b2_f0, b2_t0, reduceCtorEq, Bool.false_eq_true, Bool.true_eq_false, eq_self, false_and, true_and, and_false, and_true, not_false_eq_true, not_true_eq_false, f10]
    refine ⟨_, rfl, hQ _ ⟨hF.tr (Fr_setI rfl), fun j hj => ?_, fun j hj => ?_⟩⟩
    · by_cases e : j = i
      · subst e; rw [I_at]
      · rw [I_ne (Or.inr (by omega))]; exact hv j (by omega)
    · rw [I_ne (Or.inr (by omega))]; exact ho j hj
  · rintro n s ⟨hF, -, -⟩
    have f10 : s.1 d 10 = nI (nSt A S) := by rw [hF.I (by omega), nSt_eq]; exact f.2.2.2
    show f_X2_clearCosts_2 d (n + 1) (nI h) (nI (nSt A S)) s = _
    rw [f_X2_clearCosts_2]
    simp (disch := omega) only [bind_s, bd2_s, rdI_ok, rdJ_ok, rdT_ok, ixR_ok, wrI_ok, wrJ_ok, wrT_none, pfI_s, pfJ_s, pfZ_0, pfZ_1, zr_b2, nl_n, nl_s, nI_add, nI_mul, nI_sub, nI_shlm, nI_shrd, nI_or8, nI_or8r, nI_or5r, nI_and255, nI_and31, nI_and7, nI_and1, nI_andK, nI_clr, Nat.one_mul, nI_eqz, nI_eqq, nI_ltq, nI_ltz, nI_zlt, nI_nm1, nI_m2, m1_z, m1_lt0, m1_m1, b2_z, nI1_z, nI0_z, tb_0, tb_1, ite_nI, I_at, I_ne, J_at, J_ne, J_setI, I_setJ, ↓reduceIte, ltN_T, ltN_F, eqN_T, eqN_F, pow8, pow5, b2_f0, b2_t0, reduceCtorEq, Bool.false_eq_true, Bool.true_eq_false, eq_self, false_and, true_and, and_false, and_true, not_false_eq_true, not_true_eq_false, f10]
theorem t_sizeUp (a : AOK A) (hd : d = 197 ∨ d = 213) (c : CR 2 A σ) (g : σ.1 (d + 8) 8 = nI (nS A S)) : ∃ s, f_X2_sizeUp d σ = some s ∧ Fr (fun y => y = d) σ s ∧ FD d A S s := by
  unfold f_X2_sizeUp
  have h2 := nS_le (S := S) a
  have hP := Nat.two_pow_pos (nS A S)
  have hs4 := S4 (S := S) a
  have F1 : Fr (fun y => y = d) σ (setI σ d 7 (nI (cK A 1))) := Fr_setI rfl
  have c1 := CR_fr a c F1 (fun y hy => by omega)
  simp (disch := omega) only [bind_s, bd2_s, rdI_ok, rdJ_ok, rdT_ok, ixR_ok, wrI_ok, wrJ_ok, wrT_none, pfI_s, pfJ_s, pfZ_0, pfZ_1, zr_b2, nl_n, nl_s, nI_add, nI_mul, nI_sub, nI_shlm, nI_shrd, nI_or8, nI_or8r, nI_or5r, nI_and255, nI_and31, nI_and7, nI_and1, nI_andK, nI_clr, Nat.one_mul, nI_eqz, nI_eqq, nI_ltq, nI_ltz, nI_zlt, nI_nm1, nI_m2, m1_z, m1_lt0, m1_m1, b2_z, nI1_z, nI0_z, tb_0, tb_1, ite_nI, I_at, I_ne, J_at, J_ne, J_setI, I_setJ, ↓reduceIte, ltN_T, ltN_F, eqN_T, eqN_F, pow8, pow5, b2_f0, b2_t0, reduceCtorEq, Bool.false_eq_true, Bool.true_eq_false, eq_self, false_and, true_and, and_false, and_true, not_false_eq_true, not_true_eq_false, t_countOf a c, t_lowStates a c1, g]
  refine ⟨_, rfl, (((F1.tr (Fr_setI rfl)).tr (Fr_setI rfl)).tr (Fr_setI rfl)), ?_, ?_, ?_, ?_⟩
  · simp (disch := omega) only [bind_s, bd2_s, rdI_ok, rdJ_ok, rdT_ok, ixR_ok, wrI_ok, wrJ_ok, wrT_none, pfI_s, pfJ_s, pfZ_0, pfZ_1, zr_b2, nl_n, nl_s, nI_add, nI_mul, nI_sub, nI_shlm, nI_shrd, nI_or8, nI_or8r, nI_or5r, nI_and255, nI_and31, nI_and7, nI_and1, nI_andK, nI_clr, Nat.one_mul, nI_eqz, nI_eqq, nI_ltq, nI_ltz, nI_zlt, nI_nm1, nI_m2, m1_z, m1_lt0, m1_m1, b2_z, nI1_z, nI0_z, tb_0, tb_1, ite_nI, I_at, I_ne, J_at, J_ne, J_setI, I_setJ, ↓reduceIte, ltN_T, ltN_F, eqN_T, eqN_F, pow8, pow5, b2_f0, b2_t0, reduceCtorEq, Bool.false_eq_true, Bool.true_eq_false, eq_self, false_and, true_and, and_false, and_true, not_false_eq_true, not_true_eq_false]
  · simp (disch := omega) only [bind_s, bd2_s, rdI_ok, rdJ_ok, rdT_ok, ixR_ok, wrI_ok, wrJ_ok, wrT_none, pfI_s, pfJ_s, pfZ_0, pfZ_1, zr_b2, nl_n, nl_s, nI_add, nI_mul, nI_sub, nI_shlm, nI_shrd, nI_or8, nI_or8r, nI_or5r, nI_and255, nI_and31, nI_and7, nI_and1, nI_andK, nI_clr, Nat.one_mul, nI_eqz, nI_eqq, nI_ltq, nI_ltz, nI_zlt, nI_nm1, nI_m2, m1_z, m1_lt0, m1_m1, b2_z, nI1_z, nI0_z, tb_0, tb_1, ite_nI, I_at, I_ne, J_at, J_ne, J_setI, I_setJ, ↓reduceIte, ltN_T, ltN_F, eqN_T, eqN_F, pow8, pow5, b2_f0, b2_t0, reduceCtorEq, Bool.false_eq_true, Bool.true_eq_false, eq_self, false_and, true_and, and_false, and_true, not_false_eq_true, not_true_eq_false, LW]
  · simp (disch := omega) only [bind_s, bd2_s, rdI_ok, rdJ_ok, rdT_ok, ixR_ok, wrI_ok, wrJ_ok, wrT_none, pfI_s, pfJ_s, pfZ_0, pfZ_1, zr_b2, nl_n, nl_s, nI_add, nI_mul, nI_sub, nI_shlm, nI_shrd, nI_or8, nI_or8r, nI_or5r, nI_and255, nI_and31, nI_and7, nI_and1, nI_andK, nI_clr, Nat.one_mul, nI_eqz, nI_eqq, nI_ltq, nI_ltz, nI_zlt, nI_nm1, nI_m2, m1_z, m1_lt0, m1_m1, b2_z, nI1_z, nI0_z, tb_0, tb_1, ite_nI, I_at, I_ne, J_at, J_ne, J_setI, I_setJ, ↓reduceIte, ltN_T, ltN_F, eqN_T, eqN_F, pow8, pow5, b2_f0, b2_t0, reduceCtorEq, Bool.false_eq_true, Bool.true_eq_false, eq_self, false_and, true_and, and_false, and_true, not_false_eq_true, not_true_eq_false]
  · simp (disch := omega) only [bind_s, bd2_s, rdI_ok, rdJ_ok, rdT_ok, ixR_ok, wrI_ok, wrJ_ok, wrT_none, pfI_s, pfJ_s, pfZ_0, pfZ_1, zr_b2, nl_n, nl_s, nI_add, nI_mul, nI_sub, nI_shlm, nI_shrd, nI_or8, nI_or8r, nI_or5r, nI_and255, nI_and31, nI_and7, nI_and1, nI_andK, nI_clr, Nat.one_mul, nI_eqz, nI_eqq, nI_ltq, nI_ltz, nI_zlt, nI_nm1, nI_m2, m1_z, m1_lt0, m1_m1, b2_z, nI1_z, nI0_z, tb_0, tb_1, ite_nI, I_at, I_ne, J_at, J_ne, J_setI, I_setJ, ↓reduceIte, ltN_T, ltN_F, eqN_T, eqN_F, pow8, pow5, b2_f0, b2_t0, reduceCtorEq, Bool.false_eq_true, Bool.true_eq_false, eq_self, false_and, true_and, and_false, and_true, not_false_eq_true, not_true_eq_false, LW]
/-- the looks that a finding walk takes are enough -/
theorem PF_iff (a : AOK A) (hh : h < 12) {i : Nat} (hi : i < nSt A S) (y : Nat) : PF A S x h (fun fl low => cF (FP A S x h (stc A low fl))) (lkA A S h 0 (fun fl low => cF (FP A S x h (stc A low fl))) (LW A)) (fun _ _ _ => True) i y ↔ i % 256 < LW A ∧ ∃ s f act c, prn (EG A S x) (Dd A S) h s f act = some (stc A (i % 256) (i / 256), c) ∧ FP A S x h s < NV ∧ y = FP A S x h s + c := by
  have hLW := LW_256 a
  have cfl : ∀ {s : Nat}, cF (FP A S x h s) < 1048576 → FP A S x h s < NV ∧ cF (FP A S x h s) = FP A S x h s := by
    intro s q
    unfold cF at q ⊢
    split at q
    · rename_i w; rw [if_pos w]; exact ⟨w, rfl⟩
    · omega
  constructor
  · rintro ⟨act, l, fl, t, c, ⟨q1, q2, q3⟩, ⟨r1, r2⟩, -, z1, rfl⟩
    obtain ⟨low, p1, p2, p3⟩ := lkA_mem _ q2
    obtain ⟨g, p4, p5, p6⟩ := lkI_mem _ p3
    have el : l % 256 = low := by omega
    have eg : l / 256 = g := by omega
    rw [el, eg] at r1
    have r2' : cF (FP A S x h (stc A (l % 256) fl)) < 1048576 := r2
    rw [el] at r2'
    obtain ⟨v1, v2, v3⟩ := edc_v a r1 p1 q3
    obtain ⟨w1, w2⟩ := lwc_lt a v1
    have i1 : i % 256 = lwc A t := by omega
    have i2 : i / 256 = t / 256 := by omega
    obtain ⟨c1, c2⟩ := cfl r2'
    refine ⟨by omega, stc A low fl, g, act, c, ?_, c1, ?_⟩
    · rw [i1, i2, w2]; exact r1
    · show cF (FP A S x h (stc A (l % 256) fl)) + c = _
      rw [el, c2]
  · rintro ⟨hl, s, f, act, c, e, hf, rfl⟩
    obtain ⟨vs, hs⟩ := prn_fw a hf
    obtain ⟨w1, w2⟩ := lwc_lt a vs
    have e' := (prn_iff.mp e).1
    obtain ⟨⟨⟨-, -⟩, ⟨o1, o2, o3, o4⟩, oa⟩, et, -⟩ := EG_iff.mp e'
    have s1 : lwc A s % 2 ^ cK A 1 = s % 32 := by unfold lwc; rw [dm_m vs.1]
    have s2 : lwc A s / 2 ^ cK A 1 = s / 32 % 8 := by unfold lwc; rw [dm_d vs.1]
    have ok1 : okB A S h f (lwc A s % 2 ^ cK A 1) (lwc A s / 2 ^ cK A 1) = true := by
      unfold okB
      rw [s1, s2, decide_eq_true o2, decide_eq_true o3, o4]
      rfl
    have hcF : cF (FP A S x h s) = FP A S x h s := by unfold cF; rw [if_pos hf]
    have h99 := FP_99 a hf
    obtain ⟨l, l1, l2⟩ := lkI_rep (A := A) (S := S) (h := h) (low := lwc A s) (2 ^ cK A 0) o1 ok1
    obtain ⟨g, g1, rfl, g3⟩ := lkI_mem _ l1
    have hrch : rch A S (fun fl low => cF (FP A S x h (stc A low fl))) (lwc A s) = true := by
      refine anyN_iff.mpr ⟨s / 256, hs, ?_⟩
      rw [decide_eq_true_iff]
      show cF (FP A S x h (stc A (lwc A s) (s / 256))) < 1048576
      rw [w2, hcF]; omega
    have ed : edc A S x h (lwc A s) (s / 256) f act = some (stc A (i % 256) (i / 256), c) := by unfold edc; rw [w2]; exact e
    have ed2 := edc_rep a w1 hs o1 g1 ok1 g3 l2.symm ed
    have ha7 : act < 7 := by have := oa.1; have := a.1.2.1; omega
    obtain ⟨x1, x2⟩ := lk_at (f := g) (low := lwc A s) (by omega)
    obtain ⟨t1, t2, t3, t4⟩ := stc_at (fl := i / 256) a hl
    refine ⟨act, g * 256 + lwc A s, s / 256, _, c, ⟨ha7, lkA_in _ w1 hrch l1, hs⟩, ⟨by rw [x1, x2]; exact ed2, ?_⟩, trivial, ?_, ?_⟩
    · show cF (FP A S x h (stc A ((g * 256 + lwc A s) % 256) (s / 256))) < 1048576
      rw [x2, w2, hcF]; omega
    · rw [t3, lwc_st a hl]; omega
    · show _ = cF (FP A S x h (stc A ((g * 256 + lwc A s) % 256) (s / 256))) + c
      rw [x2, w2, hcF]
theorem CF_next (a : AOK A) (hh : h < 12) {i v : Nat} (hi : i < nSt A S) (m : Mn 1048576 (PF A S x h (fun fl low => cF (FP A S x h (stc A low fl))) (lkA A S h 0 (fun fl low => cF (FP A S x h (stc A low fl))) (LW A)) (fun _ _ _ => True) i) v) : v = CF A S x (h + 1) i := by
  unfold CF
  by_cases hl : i % 256 < LW A
  · rw [if_pos hl]
    have m2 := mn_sp NV (fun y => ∃ s f act c, prn (EG A S x) (Dd A S) h s f act = some (stc A (i % 256) (i / 256), c) ∧ FP A S x h s < NV ∧ y = FP A S x h s + c)
    have e : mn NV (fun y => ∃ s f act c, prn (EG A S x) (Dd A S) h s f act = some (stc A (i % 256) (i / 256), c) ∧ FP A S x h s < NV ∧ y = FP A S x h s + c) = FP A S x (h + 1) (stc A (i % 256) (i / 256)) := rfl
    rw [e] at m2
    have m3 := Mn_cut (M := 1048576) (by unfold NV; omega) m2
    have e2 : (if FP A S x (h + 1) (stc A (i % 256) (i / 256)) < 1048576 then FP A S x (h + 1) (stc A (i % 256) (i / 256)) else 1048576) = cF (FP A S x (h + 1) (stc A (i % 256) (i / 256))) := by
      unfold cF
      by_cases hf : FP A S x (h + 1) (stc A (i % 256) (i / 256)) < NV
      · have := FP_99 a hf
        rw [if_pos (by omega), if_pos hf]
      · unfold NV at hf ⊢
        rw [if_neg (by omega), if_neg hf]
    rw [e2] at m3
    exact Mn_un2 (fun y _ => by rw [PF_iff a hh hi]; exact ⟨fun q => q.2, fun q => ⟨hl, q⟩⟩) m m3
  · rw [if_neg hl]
    exact Mn_un m (Mn_emp (fun y q => hl ((PF_iff a hh hi y).mp q).1))
/-- one hour -/
theorem t_hour (a : AOK A) (hd : d = 197 ∨ d = 213) (hh : h < 12) (c : CR 2 A σ) (t : TB A σ) (g : GX (d + 8) A S x σ) (f : FD d A S σ) (hc : ∀ i, i < nSt A S → σ.1 (d + 1) (h * 1024 + i) = nI (CF A S x h i)) : ∃ s1 s, f_X2_clearCosts d (nI (h + 1)) σ = some s1 ∧ f_X2_walk d (nI 0) (nI h) s1 = some s ∧ Fr (fun y => d + 1 ≤ y ∧ y ≤ d + 3) σ s ∧ (∀ j, j < (h + 1) * 1024 → s.1 (d + 1) j = σ.1 (d + 1) j) ∧ ∀ i, i < nSt A S → s.1 (d + 1) ((h + 1) * 1024 + i) = nI (CF A S x (h + 1) i) := by
  obtain ⟨s1, e1, F1, v1, o1⟩ := t_clear (h := h + 1) a hd (by omega) f
  have hn := nSt_le (S := S) a
  have b : BS d A S x h (fun fl low => cF (FP A S x h (stc A low fl))) s1 := by
    refine ⟨CR_fr a c F1 (fun y hy => by omega), ?_, GX_fr g F1 (fun y hy => by omega), ⟨by rw [F1.I (by omega)]; exact f.1, by rw [F1.I (by omega)]; exact f.2.1, by rw [F1.I (by omega)]; exact f.2.2.1, by rw [F1.I (by omega)]; exact f.2.2.2⟩, fun fl low h1 h2 => ?_⟩
    · intro f kept run h1 h2 h3
      obtain ⟨t1, t2⟩ := t f kept run h1 h2 h3
      exact ⟨by rw [F1.I (by omega)]; exact t1, fun act ha => by rw [F1.I (by omega)]; exact t2 act ha⟩
    · have hix := ix_lt h1 h2
      have hj : h * 1024 + (fl * 256 + low) < (h + 1) * 1024 := by
        rw [Nat.succ_mul]
        exact Nat.add_lt_add_left (Nat.lt_of_lt_of_le hix hn) _
      rw [o1 _ (Or.inl hj), hc _ hix, CF_at a h2]
  have hC : ∀ fl low, cF (FP A S x h (stc A low fl)) = 1048576 ∨ cF (FP A S x h (stc A low fl)) ≤ 2000 := fun fl low => cF_FP a (by omega) _
  obtain ⟨s2, e2, F2, v2⟩ := t_gatherLooks (pass := 0) a hd hh (by omega) (fun fl low => by rcases hC fl low with q | q <;> omega) b
  have b2 := BS_fr a hd b F2 (fun y hy => by omega)
  have hlk : ∀ l, l ∈ lkA A S h 0 (fun fl low => cF (FP A S x h (stc A low fl))) (LW A) → l / 256 < 2 ^ cK A 0 ∧ l % 256 < LW A ∧ okB A S h (l / 256) (l % 256 % 2 ^ cK A 1) (l % 256 / 2 ^ cK A 1) = true := by
    intro l hl
    have := LW_256 a
    obtain ⟨low, p1, p2, p3⟩ := lkA_mem _ hl
    obtain ⟨gg, p4, p5, p6⟩ := lkI_mem _ p3
    have el : l % 256 = low := by omega
    have eg : l / 256 = gg := by omega
    rw [el, eg]
    exact ⟨p4, p1, p6⟩
  have w := WOK_F (x := x) (σ := s2) a hd hh hC hlk
  have hll := lkA_len (S := S) (h := h) (C := fun fl low => cF (FP A S x h (stc A low fl))) (pass := 0) a (LW A)
  have hLW := LW_256 a
  have j0 : JF d A S x h (fun fl low => cF (FP A S x h (stc A low fl))) (lkA A S h 0 (fun fl low => cF (FP A S x h (stc A low fl))) (LW A)) s2 (fun _ _ _ => False) s2 := by
    refine ⟨⟨b2, v2⟩, Fr.rf _ _, fun j _ => rfl, fun i hi => ?_⟩
    have q1 : s2.1 (d + 1) ((h + 1) * 1024 + i) = nI 1048576 := by rw [F2.I (by omega)]; exact v1 i hi
    have q2 : Mn 1048576 (PF A S x h (fun fl low => cF (FP A S x h (stc A low fl))) (lkA A S h 0 (fun fl low => cF (FP A S x h (stc A low fl))) (LW A)) (fun _ _ _ => False) i) 1048576 := by
      refine Mn_emp (fun y q => ?_)
      obtain ⟨_, _, _, _, _, _, _, q, _⟩ := q
      exact q
    exact Exists.intro _ ⟨q1, q2⟩
  have W := t_walk10 (σ := s2) a hd hh hC (show (lkA A S h 0 (fun fl low => cF (FP A S x h (stc A low fl))) (LW A)).length ≤ 1024 by omega) (lkA_nd _ hLW) hlk w j0
  obtain ⟨s, e3, j⟩ := W
  obtain ⟨-, F3, o3, v3⟩ := j
  refine ⟨s1, s, e1, ?_, ((F1.mono (fun y hy => by omega)).tr (F2.mono (fun y hy => by omega))).tr F3, fun j hj => ?_, fun i hi => ?_⟩
  · unfold f_X2_walk
    simp (disch := omega) only [bind_s, bd2_s, rdI_ok, rdJ_ok, rdT_ok, ixR_ok, wrI_ok, wrJ_ok, wrT_none, pfI_s, pfJ_s, pfZ_0, pfZ_1, zr_b2, nl_n, nl_s, nI_add, nI_mul, nI_sub, nI_shlm, nI_shrd, nI_or8, nI_or8r, nI_or5r, nI_and255, nI_and31, nI_and7, nI_and1, nI_andK, nI_clr, Nat.one_mul, nI_eqz, nI_eqq, nI_ltq, nI_ltz, nI_zlt, nI_nm1, nI_m2, m1_z, m1_lt0, m1_m1, b2_z, nI1_z, nI0_z, tb_0, tb_1, ite_nI, I_at, I_ne, J_at, J_ne, J_setI, I_setJ, ↓reduceIte, ltN_T, ltN_F, eqN_T, eqN_F, pow8, pow5, b2_f0, b2_t0, reduceCtorEq, Bool.false_eq_true, Bool.true_eq_false, eq_self, false_and, true_and, and_false, and_true, not_false_eq_true, not_true_eq_false, e2, e3]
  · rw [o3 j hj, F2.I (by omega), o1 j (Or.inl (by omega))]
  · obtain ⟨v, ev, mv⟩ := v3 i hi
    rw [ev, CF_next a hh hi mv]
end
