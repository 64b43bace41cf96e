section
/-! ===== the class keeps the cheapest ways: one hour ===== -/
variable {A : AW} {σ : ST} {d S h : Nat} {x : Nat × Nat}
/-- some step of a cheapest course in an hour -/
def eO (A : AW) (S : Nat) (x : Nat × Nat) (h : Nat) (p : Nat → Nat → Nat → Prop) : Prop := ∃ s f act t c, Op (EG A S x) (2 ^ cK A 1) (glS A S) h s f act t c ∧ p act (f * 256 + lwc A s) (s / 256)
noncomputable def WV (A : AW) (S : Nat) (x : Nat × Nat) (h i : Nat) : Nat := if i % 256 < LW A then NB A S x (12 - h) (stc A (i % 256) (i / 256)) else 0
theorem t_clearWays (a : AOK A) (hd : d = 197 ∨ d = 213) (f : FD d A S σ) : ∃ s, f_X2_clearWays d (nI h) σ = some s ∧ Fr (fun y => y = d + 2) σ s ∧ (∀ i, i < nSt A S → s.2.1 (d + 2) (h % 2 * 1024 + i) = lN 0) ∧ ∀ j, j < 1024 → s.2.1 (d + 2) ((h + 1) % 2 * 1024 + j) = σ.2.1 (d + 2) ((h + 1) % 2 * 1024 + j) := by
  have hn := nSt_le (S := S) a
  unfold f_X2_clearWays f_X2_layerOf
  simp (disch := omega) only [bind_s, bd2_s, rdI_ok, rdJ_ok, rdT_ok, ixR_ok, wrI_ok, wrJ_ok, wrT_none, pfI_s, pfJ_s, pfZ_0, pfZ_1, zr_b2, nl_n, nl_s, nI_add, nI_mul, nI_sub, nI_shlm, nI_shrd, nI_or8, nI_or8r, nI_or5r, nI_and255, nI_and31, nI_and7, nI_and1, nI_andK, nI_clr, Nat.one_mul, nI_eqz, nI_eqq, nI_ltq, nI_ltz, nI_zlt, nI_nm1, nI_m2, m1_z, m1_lt0, m1_m1, b2_z, nI1_z, nI0_z, tb_0, tb_1, ite_nI, I_at, I_ne, J_at, J_ne, J_setI, I_setJ, ↓reduceIte, ltN_T, ltN_F, eqN_T, eqN_F, pow8, pow5, b2_f0, b2_t0, reduceCtorEq, Bool.false_eq_true, Bool.true_eq_false, eq_self, false_and, true_and, and_false, and_true, not_false_eq_true, not_true_eq_false]
  refine loopE (fun n i s => f_X2_clearWays_7 d n (nI (h % 2 * 1024)) (nI i) s) (nSt A S) (fun i s => Fr (fun y => y = d + 2) σ s ∧ (∀ j, j < i → s.2.1 (d + 2) (h % 2 * 1024 + j) = lN 0) ∧ ∀ j, j < 1024 → s.2.1 (d + 2) ((h + 1) % 2 * 1024 + j) = σ.2.1 (d + 2) ((h + 1) % 2 * 1024 + j)) (fun s => some s) ?_ ?_ FU 0 σ (by rw [FU_eq]; omega) (Nat.zero_le _) ⟨Fr.rf _ _, fun j hj => by omega, fun j _ => rfl⟩
  · rintro n i s hi ⟨hF, hv, ho⟩ Q hQ
    have f10 : s.1 d 10 = nI (nSt A S) := by rw [hF.I (by omega), nSt_eq]; exact f.2.2.2
    show ∃ y, f_X2_clearWays_7 d (n + 1) (nI (h % 2 * 1024)) (nI i) s = f_X2_clearWays_7 d n (nI (h % 2 * 1024)) (nI (i + 1)) y ∧ _
    rw [f_X2_clearWays_7]
    simp (disch := omega) only [bind_s, bd2_s, rdI_ok, rdJ_ok, rdT_ok, ixR_ok, wrI_ok, wrJ_ok, wrT_none, pfI_s, pfJ_s, pfZ_0, pfZ_1, zr_b2, nl_n, nl_s, nI_add, nI_mul, nI_sub, nI_shlm, nI_shrd, nI_or8, nI_or8r, nI_or5r, nI_and255, nI_and31, nI_and7, nI_and1, nI_andK, nI_clr, Nat.one_mul, nI_eqz, nI_eqq, nI_ltq, nI_ltz, nI_zlt, nI_nm1, nI_m2, m1_z, m1_lt0, m1_m1, b2_z, nI1_z, nI0_z, tb_0, tb_1, ite_nI, I_at, I_ne, J_at, J_ne, J_setI, I_setJ, ↓reduceIte, ltN_T, ltN_F, eqN_T, eqN_F, pow8, pow5, b2_f0, b2_t0, reduceCtorEq, Bool.false_eq_true, Bool.true_eq_false, eq_self, false_and, true_and, and_false, and_true, not_false_eq_true, not_true_eq_false, f10]
    refine ⟨_, rfl, hQ _ ⟨hF.tr (Fr_setJ rfl), fun j hj => ?_, fun j hj => ?_⟩⟩
    · by_cases e : j = i
      · subst e; rw [J_at]; rfl
      · rw [J_ne (Or.inr (by omega))]; exact hv j (by omega)
    · rw [J_ne (Or.inr (by omega))]; exact ho j hj
  · rintro n s ⟨hF, -, -⟩
    have f10 : s.1 d 10 = nI (nSt A S) := by rw [hF.I (by omega), nSt_eq]; exact f.2.2.2
    show f_X2_clearWays_7 d (n + 1) _ (nI (nSt A S)) s = _
    rw [f_X2_clearWays_7]
    simp (disch := omega) only [bind_s, bd2_s, rdI_ok, rdJ_ok, rdT_ok, ixR_ok, wrI_ok, wrJ_ok, wrT_none, pfI_s, pfJ_s, pfZ_0, pfZ_1, zr_b2, nl_n, nl_s, nI_add, nI_mul, nI_sub, nI_shlm, nI_shrd, nI_or8, nI_or8r, nI_or5r, nI_and255, nI_and31, nI_and7, nI_and1, nI_andK, nI_clr, Nat.one_mul, nI_eqz, nI_eqq, nI_ltq, nI_ltz, nI_zlt, nI_nm1, nI_m2, m1_z, m1_lt0, m1_m1, b2_z, nI1_z, nI0_z, tb_0, tb_1, ite_nI, I_at, I_ne, J_at, J_ne, J_setI, I_setJ, ↓reduceIte, ltN_T, ltN_F, eqN_T, eqN_F, pow8, pow5, b2_f0, b2_t0, reduceCtorEq, Bool.false_eq_true, Bool.true_eq_false, eq_self, false_and, true_and, and_false, and_true, not_false_eq_true, not_true_eq_false, f10]
theorem lgc_z {n : Nat} (hn : n < 2 ^ 63) : (lg_cmp (lN n) 0 = 0) = (n = 0) := by
  unfold lg_cmp
  rw [show (0 : Int64) = lN 0 from rfl]
  apply propext
  by_cases e : n = 0
  · subst e
    simp
  · have h1 : lN n > lN 0 := (pk_lLT (by omega) hn).mpr (by omega)
    rw [if_pos h1]
    simp [e]
theorem t_drop (a : AOK A) (hd : d = 197 ∨ d = 213) (hh : h < 12) (f : FD d A S σ) {w : Nat → Nat} (hw : ∀ i, i < nSt A S → σ.2.1 (d + 2) (h % 2 * 1024 + i) = lN (cap (w i))) : ∃ s, f_X2_dropUnkept d (nI h) σ = some s ∧ Fr (fun y => y = d + 1) σ s ∧ (∀ i, i < nSt A S → s.1 (d + 1) (h * 1024 + i) = if w i = 0 then nI 1048576 else σ.1 (d + 1) (h * 1024 + i)) ∧ ∀ j, j < h * 1024 ∨ h * 1024 + 1024 ≤ j → s.1 (d + 1) j = σ.1 (d + 1) j := by
  have hn := nSt_le (S := S) a
  unfold f_X2_dropUnkept f_X2_layerOf
  simp (disch := omega) only [bind_s, bd2_s, rdI_ok, rdJ_ok, rdT_ok, ixR_ok, wrI_ok, wrJ_ok, wrT_none, pfI_s, pfJ_s, pfZ_0, pfZ_1, zr_b2, nl_n, nl_s, nI_add, nI_mul, nI_sub, nI_shlm, nI_shrd, nI_or8, nI_or8r, nI_or5r, nI_and255, nI_and31, nI_and7, nI_and1, nI_andK, nI_clr, Nat.one_mul, nI_eqz, nI_eqq, nI_ltq, nI_ltz, nI_zlt, nI_nm1, nI_m2, m1_z, m1_lt0, m1_m1, b2_z, nI1_z, nI0_z, tb_0, tb_1, ite_nI, I_at, I_ne, J_at, J_ne, J_setI, I_setJ, ↓reduceIte, ltN_T, ltN_F, eqN_T, eqN_F, pow8, pow5, b2_f0, b2_t0, reduceCtorEq, Bool.false_eq_true, Bool.true_eq_false, eq_self, false_and, true_and, and_false, and_true, not_false_eq_true, not_true_eq_false]
  refine Exists.elim (loopE (fun n i s => f_X2_dropUnkept_7 d n (nI h) (nI (h % 2 * 1024)) (nI i) s) (nSt A S) (fun i s => Fr (fun y => y = d + 1) σ s ∧ (∀ j, j < i → s.1 (d + 1) (h * 1024 + j) = if w j = 0 then nI 1048576 else σ.1 (d + 1) (h * 1024 + j)) ∧ (∀ j, i ≤ j → s.1 (d + 1) (h * 1024 + j) = σ.1 (d + 1) (h * 1024 + j)) ∧ ∀ j, j < h * 1024 ∨ h * 1024 + 1024 ≤ j → s.1 (d + 1) j = σ.1 (d + 1) j) (fun s => some s) ?_ ?_ FU 0 σ (by rw [FU_eq]; omega) (Nat.zero_le _) ⟨Fr.rf _ _, fun j hj => by omega, fun j _ => rfl, fun j _ => rfl⟩) ?_
  · rintro n i s hi ⟨hF, hv, hr, ho⟩ Q hQ
    have f10 : s.1 d 10 = nI (nSt A S) := by rw [hF.I (by omega), nSt_eq]; exact f.2.2.2
    have ewi : s.2.1 (d + 2) (h % 2 * 1024 + i) = lN (cap (w i)) := by rw [hF.J (by omega)]; exact hw i hi
    have hcp := cap_le (w i)
    have hz := lgc_z (n := cap (w i)) (by omega)
    show ∃ y, f_X2_dropUnkept_7 d (n + 1) (nI h) (nI (h % 2 * 1024)) (nI i) s = f_X2_dropUnkept_7 d n (nI h) (nI (h % 2 * 1024)) (nI (i + 1)) y ∧ _
    rw [f_X2_dropUnkept_7]
    by_cases e : w i = 0
    · have e2 : cap (w i) = 0 := (cap_z _).mpr e
      simp (disch := omega) only [bind_s, bd2_s, rdI_ok, rdJ_ok, rdT_ok, ixR_ok, wrI_ok, wrJ_ok, wrT_none, pfI_s, pfJ_s, pfZ_0, pfZ_1, zr_b2, nl_n, nl_s, nI_add, nI_mul, nI_sub, nI_shlm, nI_shrd, nI_or8, nI_or8r, nI_or5r, nI_and255, nI_and31, nI_and7, nI_and1, nI_andK, nI_clr, Nat.one_mul, nI_eqz, nI_eqq, nI_ltq, nI_ltz, nI_zlt, nI_nm1, nI_m2, m1_z, m1_lt0, m1_m1, b2_z, nI1_z, nI0_z, tb_0, tb_1, ite_nI, I_at, I_ne, J_at, J_ne, J_setI, I_setJ, ↓reduceIte, ltN_T, ltN_F, eqN_T, eqN_F, pow8, pow5, b2_f0, b2_t0, reduceCtorEq, Bool.false_eq_true, Bool.true_eq_false, eq_self, false_and, true_and, and_false, and_true, not_false_eq_true, not_true_eq_false, f10, ewi, hz, e2]
      refine ⟨_, rfl, hQ _ ⟨hF.tr (Fr_setI rfl), fun j hj => ?_, fun j hj => ?_, fun j hj => ?_⟩⟩
      · by_cases ej : j = i
        · subst ej; rw [I_at, if_pos e]
        · rw [I_ne (Or.inr (by omega))]; exact hv j (by omega)
      · rw [I_ne (Or.inr (by omega))]; exact hr j (by omega)
      · rw [I_ne (Or.inr (by omega))]; exact ho j hj
    · have e2 : ¬ cap (w i) = 0 := fun q => e ((cap_z _).mp q)
      simp (disch := omega) only [bind_s, bd2_s, rdI_ok, rdJ_ok, rdT_ok, ixR_ok, wrI_ok, wrJ_ok, wrT_none, pfI_s, pfJ_s, pfZ_0, pfZ_1, zr_b2, nl_n, nl_s, nI_add, nI_mul, nI_sub, nI_shlm, nI_shrd, nI_or8, nI_or8r, nI_or5r, nI_and255, nI_and31, nI_and7, nI_and1, nI_andK, nI_clr, Nat.one_mul, nI_eqz, nI_eqq, nI_ltq, nI_ltz, nI_zlt, nI_nm1, nI_m2, m1_z, m1_lt0, m1_m1, b2_z, nI1_z, nI0_z, tb_0, tb_1, ite_nI, I_at, I_ne, J_at, J_ne, J_setI, I_setJ, ↓reduceIte, ltN_T, ltN_F, eqN_T, eqN_F, pow8, pow5, b2_f0, b2_t0, reduceCtorEq, Bool.false_eq_true, Bool.true_eq_false, eq_self, false_and, true_and, and_false, and_true, not_false_eq_true, not_true_eq_false, f10, ewi, hz, e2]
      refine ⟨s, rfl, hQ _ ⟨hF, fun j hj => ?_, fun j hj => hr j (by omega), ho⟩⟩
      by_cases ej : j = i
      · subst ej; rw [if_neg e]; exact hr j (Nat.le_refl _)
      · exact hv j (by omega)
  · rintro n s ⟨hF, -, -, -⟩
    have f10 : s.1 d 10 = nI (nSt A S) := by rw [hF.I (by omega), nSt_eq]; exact f.2.2.2
    show f_X2_dropUnkept_7 d (n + 1) _ _ (nI (nSt A S)) s = _
    rw [f_X2_dropUnkept_7]
    simp (disch := omega) only [bind_s, bd2_s, rdI_ok, rdJ_ok, rdT_ok, ixR_ok, wrI_ok, wrJ_ok, wrT_none, pfI_s, pfJ_s, pfZ_0, pfZ_1, zr_b2, nl_n, nl_s, nI_add, nI_mul, nI_sub, nI_shlm, nI_shrd, nI_or8, nI_or8r, nI_or5r, nI_and255, nI_and31, nI_and7, nI_and1, nI_andK, nI_clr, Nat.one_mul, nI_eqz, nI_eqq, nI_ltq, nI_ltz, nI_zlt, nI_nm1, nI_m2, m1_z, m1_lt0, m1_m1, b2_z, nI1_z, nI0_z, tb_0, tb_1, ite_nI, I_at, I_ne, J_at, J_ne, J_setI, I_setJ, ↓reduceIte, ltN_T, ltN_F, eqN_T, eqN_F, pow8, pow5, b2_f0, b2_t0, reduceCtorEq, Bool.false_eq_true, Bool.true_eq_false, eq_self, false_and, true_and, and_false, and_true, not_false_eq_true, not_true_eq_false, f10]
  · rintro s ⟨e, h1, h2, -, h4⟩
    exact ⟨s, e, h1, h2, h4⟩
/-- the look of a step is in the list -/
theorem op_in (a : AOK A) (hh : h < 12) {s f act t c : Nat} (o : Op (EG A S x) (2 ^ cK A 1) (glS A S) h s f act t c) : vst A s ∧ s / 256 < 2 ^ nS A S ∧ act < 7 ∧ f < 2 ^ cK A 0 ∧ FP A S x h s < NV ∧ ∀ pass, pass ≠ 0 → f * 256 + lwc A s ∈ lkA A S h pass (fun fl low => cF (FP A S x h (stc A low fl))) (LW A) := by
  obtain ⟨p1, p2, p3, p4⟩ := (Op_p (EG_ok a) (EG_v a) hh).mpr o
  obtain ⟨⟨⟨vs, hs⟩, ⟨o1, o2, o3, o4⟩, oa⟩, et, -⟩ := EG_iff.mp (prn_iff.mp p1).1
  obtain ⟨w1, w2⟩ := lwc_lt a vs
  have p2' : FP A S x h s < NV := p2
  have h99 := FP_99 a p2'
  have ha7 : act < 7 := by have := oa.1; have := a.1.2.1; omega
  refine ⟨vs, hs, ha7, o1, p2', fun pass hp => ?_⟩
  refine lkA_in _ w1 ?_ ?_
  · refine anyN_iff.mpr ⟨s / 256, hs, ?_⟩
    rw [decide_eq_true_iff]
    show cF (FP A S x h (stc A (lwc A s) (s / 256))) < 1048576
    rw [w2]
    unfold cF
    rw [if_pos p2']
    omega
  · refine lkI_all hp _ o1 ?_
    have s1 : lwc A s % 2 ^ cK A 1 = s % 32 := by unfold lwc; rw [dm_m vs.1]
    have s2 : lwc A s / 2 ^ cK A 1 = s / 32 % 8 := by unfold lwc; rw [dm_d vs.1]
    unfold okB
    rw [s1, s2, decide_eq_true o2, decide_eq_true o3, o4]
    rfl
theorem lk_ok (a : AOK A) {pass : Nat} {C : Nat → Nat → Nat} : ∀ l, l ∈ lkA A S h pass C (LW A) → l / 256 < 2 ^ cK A 0 ∧ l % 256 < LW A ∧ okB A S h (l / 256) (l % 256 % 2 ^ cK A 1) (l % 256 / 2 ^ cK A 1) = true := by
  intro l hl
  have := LW_256 a
  obtain ⟨low, p1, p2, p3⟩ := lkA_mem _ hl
  obtain ⟨gg, p4, p5, p6⟩ := lkI_mem _ p3
  have el : l % 256 = low := by omega
  have eg : l / 256 = gg := by omega
  rw [el, eg]
  exact ⟨p4, p1, p6⟩
theorem sO_eO (a : AOK A) (hh : h < 12) (p : Nat → Nat → Nat → Prop) : sO A S x h (lkA A S h 1 (fun fl low => cF (FP A S x h (stc A low fl))) (LW A)) (fun _ _ _ => True) p ↔ eO A S x h p := by
  have hLW := LW_256 a
  constructor
  · rintro ⟨act, l, fl, t, c, ⟨q1, q2, q3⟩, o, -, z⟩
    obtain ⟨l1, l2, -⟩ := lk_ok a l q2
    refine ⟨_, _, act, t, c, o, ?_⟩
    rw [lwc_st a l2, (stc_at (fl := fl) a l2).2.2.1, show l / 256 * 256 + l % 256 = l by omega]
    exact z
  · rintro ⟨s, f, act, t, c, o, z⟩
    obtain ⟨vs, hs, ha, hf, -, hin⟩ := op_in a hh o
    obtain ⟨w1, w2⟩ := lwc_lt a vs
    obtain ⟨x1, x2⟩ := lk_at (f := f) (show lwc A s < 256 by omega)
    refine ⟨act, f * 256 + lwc A s, s / 256, t, c, ⟨ha, hin 1 (by omega), hs⟩, ?_, trivial, z⟩
    unfold OpL
    rw [x1, x2, w2]
    exact o
theorem wS_all (a : AOK A) (hh : h < 12) {i : Nat} (hi : i < nSt A S) : wS A S x h (lkA A S h 1 (fun fl low => cF (FP A S x h (stc A low fl))) (LW A)) (fun _ _ _ => True) i = WV A S x h i := by
  have hLW := LW_256 a
  unfold WV
  by_cases hl : i % 256 < LW A
  · rw [if_pos hl]
    have e : NB A S x (12 - h) (stc A (i % 256) (i / 256)) = sm 4 fun f => sm 7 fun act => if ob (EG A S x) (2 ^ cK A 1) (glS A S) h (stc A (i % 256) (i / 256)) f act = true then NB A S x (11 - h) (TG A S x h (stc A (i % 256) (i / 256)) f act) else 0 := by
      unfold NB
      rw [show 12 - h = 11 - h + 1 by omega]
      show (sm 4 fun f => sm 7 fun act => if ob (EG A S x) (2 ^ cK A 1) (glS A S) (11 - (11 - h)) (stc A (i % 256) (i / 256)) f act = true then Nb (EG A S x) (2 ^ cK A 1) (glS A S) (11 - h) (tg (EG A S x) (11 - (11 - h)) (stc A (i % 256) (i / 256)) f act) else 0) = _
      rw [show 11 - (11 - h) = h by omega]
      rfl
    rw [e]
    unfold wS
    refine sm_congr fun f _ => sm_congr fun act _ => ?_
    obtain ⟨x1, x2⟩ := lk_at (f := f) (show i % 256 < 256 by omega)
    by_cases o : ob (EG A S x) (2 ^ cK A 1) (glS A S) h (stc A (i % 256) (i / 256)) f act = true
    · rw [if_pos o]
      obtain ⟨t, c, o'⟩ := ob_iff.mp o
      obtain ⟨vs, hs, ha, hf, -, hin⟩ := op_in a hh o'
      have h1 := hin 1 (by omega)
      rw [lwc_st a hl] at h1
      refine iteP_t ⟨h1, ix_of a hi, ⟨t, c, ?_⟩, trivial⟩
      unfold OpL
      rw [x1, x2]
      exact o'
    · rw [if_neg o]
      refine iteP_f ?_
      rintro ⟨-, -, ⟨t, c, o'⟩, -⟩
      unfold OpL at o'
      rw [x1, x2] at o'
      exact o (ob_iff.mpr ⟨t, c, o'⟩)
  · rw [if_neg hl]
    refine sm_zero fun f _ => sm_zero fun act _ => iteP_f ?_
    rintro ⟨h1, -⟩
    have := (lk_ok a _ h1).2.1
    rw [(lk_at (f := f) (show i % 256 < 256 by omega)).2] at this
    exact hl this
theorem WV_z (a : AOK A) (hh : h ≤ 12) {i : Nat} : WV A S x h i = 0 ↔ ¬ (i % 256 < LW A ∧ KPc A S x h (stc A (i % 256) (i / 256))) := by
  unfold WV
  have e := Nb_pos (E := EG A S x) (I := 2 ^ cK A 1) (gl := glS A S) (EG_ok a) (12 - h) (by omega) (stc A (i % 256) (i / 256))
  rw [show 12 - (12 - h) = h by omega] at e
  by_cases hl : i % 256 < LW A
  · rw [if_pos hl]
    constructor
    · intro q w
      have : 0 < NB A S x (12 - h) (stc A (i % 256) (i / 256)) := e.mpr w.2
      omega
    · intro q
      by_cases w : NB A S x (12 - h) (stc A (i % 256) (i / 256)) = 0
      · exact w
      · exact absurd ⟨hl, e.mp (Nat.pos_of_ne_zero w)⟩ q
  · rw [if_neg hl]
    exact ⟨fun _ w => hl w.1, fun _ => rfl⟩
end
