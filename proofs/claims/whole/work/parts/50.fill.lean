section
/-! ===== the tables are filled ===== -/
variable {A : AW} {σ : ST}
/-- the class's tables are those of a world -/
def TB (A : AW) (σ : ST) : Prop := ∀ f kept run, f < 2 ^ cK A 0 → kept < 2 ^ cK A 1 → run < RR A → σ.1 195 (f * 256 + (run * 2 ^ cK A 1 + kept)) = nI (tr A f kept run) ∧ ∀ act, act < 7 → σ.1 196 ((f * 256 + (run * 2 ^ cK A 1 + kept)) * 7 + act) = nv A f kept run act
theorem LW_le (a : AOK A) : RR A * 2 ^ cK A 1 ≤ 256 := by
  have := K32 a
  unfold RR
  split <;> omega
theorem RR_le (A : AW) : RR A ≤ 8 := by unfold RR; split <;> omega
theorem lo_lt {r k P R : Nat} (h1 : r < R) (h2 : k < P) : r * P + k < R * P := by
  have : (r + 1) * P ≤ R * P := Nat.mul_le_mul_right P h1
  rw [Nat.succ_mul] at this
  omega
theorem lo_of {l P R : Nat} (hP : 0 < P) (h : l < R * P) : l / P < R ∧ l % P < P ∧ l / P * P + l % P = l := by
  refine ⟨?_, Nat.mod_lt _ hP, ?_⟩
  · exact Nat.div_lt_of_lt_mul (by rw [Nat.mul_comm]; exact h)
  · rw [Nat.mul_comm]; exact Nat.div_add_mod l P
theorem t_fill86 {k : Int32 → Int32 → Int32 → Int32 → Int32 → ST → Option ST} {x3 x4 x5 x6 x7 : Int32} (a : AOK A) (c : CR 2 A σ) {look f kept run : Nat} (h1 : look < 1024) (h3 : kept < 2 ^ cK A 1) (h4 : run < 8) : ∃ s, f_X10_fillTables_86 195 1024 196 7168 k FU x3 x4 x5 x6 x7 (nI look) (nI run) (nI kept) (nI (tr A f kept run)) (nI 0) σ = k x3 x4 x5 x6 x7 s ∧ Fr (fun x => x = 196) σ s ∧ (∀ act, act < 7 → s.1 196 (look * 7 + act) = nv A f kept run act) ∧ (∀ j, j < look * 7 ∨ look * 7 + 7 ≤ j → s.1 196 j = σ.1 196 j) := by
  refine loopE (fun n i s => f_X10_fillTables_86 195 1024 196 7168 k n x3 x4 x5 x6 x7 (nI look) (nI run) (nI kept) (nI (tr A f kept run)) (nI i) s) 7 (fun i s => Fr (fun x => x = 196) σ s ∧ (∀ act, act < i → s.1 196 (look * 7 + act) = nv A f kept run act) ∧ (∀ j, j < look * 7 ∨ look * 7 + 7 ≤ j → s.1 196 j = σ.1 196 j)) (fun s => k x3 x4 x5 x6 x7 s) ?_ ?_ FU 0 σ (by rw [FU_eq]; omega) (by omega) ⟨Fr.rf _ _, fun act h => by omega, fun j _ => rfl⟩
  · rintro n i s hi ⟨hF, hv, ho⟩ Q hQ
    have c' := CR_fr a c hF (fun x hx => by omega)
    show ∃ y, f_X10_fillTables_86 195 1024 196 7168 k (n + 1) x3 x4 x5 x6 x7 (nI look) (nI run) (nI kept) (nI (tr A f kept run)) (nI i) s = f_X10_fillTables_86 195 1024 196 7168 k n x3 x4 x5 x6 x7 (nI look) (nI run) (nI kept) (nI (tr A f kept run)) (nI (i + 1)) y ∧ _
    rw [f_X10_fillTables_86]
    simp (disch := omega) only [bind_s, bd2_s, rdI_ok, rdJ_ok, rdT_ok, ixR_ok, wrI_ok, wrJ_ok, wrT_none, pfI_s, pfJ_s, pfZ_0, pfZ_1, zr_b2, nl_n, nl_s, nI_add, nI_mul, nI_sub, nI_shlm, nI_shrd, nI_or8, nI_or8r, nI_or5r, nI_and255, nI_and31, nI_and7, nI_and1, nI_andK, nI_clr, Nat.one_mul, nI_eqz, nI_eqq, nI_ltq, nI_ltz, nI_zlt, nI_nm1, nI_m2, m1_z, m1_lt0, m1_m1, b2_z, nI1_z, nI0_z, tb_0, tb_1, ite_nI, I_at, I_ne, J_at, J_ne, J_setI, I_setJ, ↓reduceIte, ltN_T, ltN_F, eqN_T, eqN_F, pow8, pow5, b2_f0, b2_t0, reduceCtorEq, Bool.false_eq_true, Bool.true_eq_false, eq_self, false_and, true_and, and_false, and_true, not_false_eq_true, not_true_eq_false, t_nextOf a c' h3 h4 hi]
    refine ⟨_, rfl, hQ _ ⟨hF.tr (Fr_setI rfl), ?_, ?_⟩⟩
    · intro act ha
      by_cases e : act = i
      · subst e; rw [I_at]
      · rw [I_ne (Or.inr (by omega))]; exact hv act (by omega)
    · intro j hj
      rw [I_ne (Or.inr (by omega))]; exact ho j hj
  · rintro n s -
    show f_X10_fillTables_86 195 1024 196 7168 k (n + 1) _ _ _ _ _ _ _ _ _ (nI 7) s = _
    rw [f_X10_fillTables_86]
    simp (disch := omega) only [bind_s, bd2_s, rdI_ok, rdJ_ok, rdT_ok, ixR_ok, wrI_ok, wrJ_ok, wrT_none, pfI_s, pfJ_s, pfZ_0, pfZ_1, zr_b2, nl_n, nl_s, nI_add, nI_mul, nI_sub, nI_shlm, nI_shrd, nI_or8, nI_or8r, nI_or5r, nI_and255, nI_and31, nI_and7, nI_and1, nI_andK, nI_clr, Nat.one_mul, nI_eqz, nI_eqq, nI_ltq, nI_ltz, nI_zlt, nI_nm1, nI_m2, m1_z, m1_lt0, m1_m1, b2_z, nI1_z, nI0_z, tb_0, tb_1, ite_nI, I_at, I_ne, J_at, J_ne, J_setI, I_setJ, ↓reduceIte, ltN_T, ltN_F, eqN_T, eqN_F, pow8, pow5, b2_f0, b2_t0, reduceCtorEq, Bool.false_eq_true, Bool.true_eq_false, eq_self, false_and, true_and, and_false, and_true, not_false_eq_true, not_true_eq_false]

theorem t_fill30 {k : Int32 → Int32 → Int32 → Int32 → ST → Option ST} {x3 : Int32} (a : AOK A) (c : CR 2 A σ) {f : Nat} (h1 : f < 2 ^ cK A 0) : ∃ s, f_X10_fillTables_30 195 1024 196 7168 k FU x3 (nI (RR A * 2 ^ cK A 1)) (nI (cK A 1)) (nI f) (nI 0) σ = k x3 (nI (RR A * 2 ^ cK A 1)) (nI (cK A 1)) (nI f) s ∧ Fr (fun x => x = 195 ∨ x = 196) σ s ∧ (∀ kept run, kept < 2 ^ cK A 1 → run < RR A → s.1 195 (f * 256 + (run * 2 ^ cK A 1 + kept)) = nI (tr A f kept run) ∧ ∀ act, act < 7 → s.1 196 ((f * 256 + (run * 2 ^ cK A 1 + kept)) * 7 + act) = nv A f kept run act) ∧ (∀ j, j < f * 256 → s.1 195 j = σ.1 195 j) ∧ (∀ j, j < f * 1792 → s.1 196 j = σ.1 196 j) := by
  have hL := LW_le a
  have hK := K32 a
  have hF4 := F4 a
  have hK5 := a.2.2.1.2.1
  have hR := RR_le A
  have hP := Nat.two_pow_pos (cK A 1)
  refine Exists.elim (loopE (fun n i s => f_X10_fillTables_30 195 1024 196 7168 k n x3 (nI (RR A * 2 ^ cK A 1)) (nI (cK A 1)) (nI f) (nI i) s) (RR A * 2 ^ cK A 1) (fun i s => Fr (fun x => x = 195 ∨ x = 196) σ s ∧ (∀ l, l < i → s.1 195 (f * 256 + l) = nI (tr A f (l % 2 ^ cK A 1) (l / 2 ^ cK A 1)) ∧ ∀ act, act < 7 → s.1 196 ((f * 256 + l) * 7 + act) = nv A f (l % 2 ^ cK A 1) (l / 2 ^ cK A 1) act) ∧ (∀ j, j < f * 256 → s.1 195 j = σ.1 195 j) ∧ (∀ j, j < f * 1792 → s.1 196 j = σ.1 196 j)) (fun s => k x3 (nI (RR A * 2 ^ cK A 1)) (nI (cK A 1)) (nI f) s) ?_ ?_ FU 0 σ (by rw [FU_eq]; omega) (by omega) ⟨Fr.rf _ _, fun l h => by omega, fun j _ => rfl, fun j _ => rfl⟩) ?_
  · rintro n i s hi ⟨hF, hv, h195, h196⟩ Q hQ
    have c' := CR_fr a c hF (fun x hx => by omega)
    obtain ⟨q1, q2, q3⟩ := lo_of hP hi
    show ∃ y, f_X10_fillTables_30 195 1024 196 7168 k (n + 1) x3 _ _ _ (nI i) s = f_X10_fillTables_30 195 1024 196 7168 k n x3 _ _ _ (nI (i + 1)) y ∧ _
    rw [f_X10_fillTables_30]
    have hlt : f * 256 + i < 1024 := by omega
    have ht := t_truthOf a c' (show f < 4 by omega) (show i % 2 ^ cK A 1 < 32 by omega) (show i / 2 ^ cK A 1 < 8 by omega)
    simp (disch := omega) only [bind_s, bd2_s, rdT_ok, ixR_ok, wrT_none, pfI_s, pfJ_s, pfZ_0, pfZ_1, zr_b2, nl_n, nl_s, nI_add, nI_mul, nI_sub, nI_shlm, nI_shrd, nI_or8, nI_or8r, nI_or5r, nI_and255, nI_and31, nI_and7, nI_and1, nI_andK, nI_clr, Nat.one_mul, nI_eqz, nI_eqq, nI_ltq, nI_ltz, nI_zlt, nI_nm1, nI_m2, m1_z, m1_lt0, m1_m1, b2_z, nI1_z, nI0_z, tb_0, tb_1, ite_nI, I_at, I_ne, J_at, J_ne, J_setI, I_setJ, ↓reduceIte, ltN_T, ltN_F, eqN_T, eqN_F, pow8, pow5, b2_f0, b2_t0, reduceCtorEq, Bool.false_eq_true, Bool.true_eq_false, eq_self, false_and, true_and, and_false, and_true, not_false_eq_true, not_true_eq_false, ht]
    rw [wrI_ok hlt (by decide)]
    simp (disch := omega) only [bind_s, bd2_s, rdT_ok, ixR_ok, wrT_none, pfI_s, pfJ_s, pfZ_0, pfZ_1, zr_b2, nl_n, nl_s, nI_add, nI_mul, nI_sub, nI_shlm, nI_shrd, nI_or8, nI_or8r, nI_or5r, nI_and255, nI_and31, nI_and7, nI_and1, nI_andK, nI_clr, Nat.one_mul, nI_eqz, nI_eqq, nI_ltq, nI_ltz, nI_zlt, nI_nm1, nI_m2, m1_z, m1_lt0, m1_m1, b2_z, nI1_z, nI0_z, tb_0, tb_1, ite_nI, I_at, I_ne, J_at, J_ne, J_setI, I_setJ, ↓reduceIte, ltN_T, ltN_F, eqN_T, eqN_F, pow8, pow5, b2_f0, b2_t0, reduceCtorEq, Bool.false_eq_true, Bool.true_eq_false, eq_self, false_and, true_and, and_false, and_true, not_false_eq_true, not_true_eq_false]
    have c2 : CR 2 A (setI s 195 (f * 256 + i) (nI (tr A f (i % 2 ^ cK A 1) (i / 2 ^ cK A 1)))) := CR_fr a c' (Fr_setI (W := fun x => x = 195) rfl) (fun x hx => by omega)
    obtain ⟨s2, e2, j1, j2, j3⟩ := t_fill86 (k := fun x3_13 x4_14 x5_15 x6_16 x7_17 s18 => f_X10_fillTables_30 195 1024 196 7168 k n x3_13 x4_14 x5_15 x6_16 (x7_17 + nI 1) s18) (x3 := x3) (x4 := nI (RR A * 2 ^ cK A 1)) (x5 := nI (cK A 1)) (x6 := nI f) (x7 := nI i) a c2 (look := f * 256 + i) (f := f) (show f * 256 + i < 1024 by omega) q2 (show i / 2 ^ cK A 1 < 8 by omega)
    rw [e2]
    simp (disch := omega) only [bind_s, bd2_s, rdI_ok, rdJ_ok, rdT_ok, ixR_ok, wrI_ok, wrJ_ok, wrT_none, pfI_s, pfJ_s, pfZ_0, pfZ_1, zr_b2, nl_n, nl_s, nI_add, nI_mul, nI_sub, nI_shlm, nI_shrd, nI_or8, nI_or8r, nI_or5r, nI_and255, nI_and31, nI_and7, nI_and1, nI_andK, nI_clr, Nat.one_mul, nI_eqz, nI_eqq, nI_ltq, nI_ltz, nI_zlt, nI_nm1, nI_m2, m1_z, m1_lt0, m1_m1, b2_z, nI1_z, nI0_z, tb_0, tb_1, ite_nI, I_at, I_ne, J_at, J_ne, J_setI, I_setJ, ↓reduceIte, ltN_T, ltN_F, eqN_T, eqN_F, pow8, pow5, b2_f0, b2_t0, reduceCtorEq, Bool.false_eq_true, Bool.true_eq_false, eq_self, false_and, true_and, and_false, and_true, not_false_eq_true, not_true_eq_false]
    refine ⟨s2, rfl, hQ _ ⟨hF.tr ((Fr_setI (Or.inl rfl)).tr (j1.mono (fun x hx => Or.inr hx))), ?_, ?_, ?_⟩⟩
    · intro l hl
      by_cases e : l = i
      · subst e
        refine ⟨?_, fun act ha => j2 act ha⟩
        rw [j1.I (by omega), I_at]
      · obtain ⟨v1, v2⟩ := hv l (by omega)
        refine ⟨?_, fun act ha => ?_⟩
        · rw [j1.I (by omega), I_ne (Or.inr (by omega))]; exact v1
        · rw [j3 _ (Or.inl (by omega)), I_ne (Or.inl (by omega))]; exact v2 act ha
    · intro j hj
      rw [j1.I (by omega), I_ne (Or.inr (by omega))]; exact h195 j hj
    · intro j hj
      have q1 : j < (f * 256 + i) * 7 := by omega
      exact (j3 j (Or.inl q1)).trans ((I_ne (Or.inl (by decide))).trans (h196 j hj))
  · rintro n s -
    show f_X10_fillTables_30 195 1024 196 7168 k (n + 1) _ _ _ _ (nI (RR A * 2 ^ cK A 1)) s = _
    rw [f_X10_fillTables_30]
    simp (disch := omega) only [bind_s, bd2_s, rdI_ok, rdJ_ok, rdT_ok, ixR_ok, wrI_ok, wrJ_ok, wrT_none, pfI_s, pfJ_s, pfZ_0, pfZ_1, zr_b2, nl_n, nl_s, nI_add, nI_mul, nI_sub, nI_shlm, nI_shrd, nI_or8, nI_or8r, nI_or5r, nI_and255, nI_and31, nI_and7, nI_and1, nI_andK, nI_clr, Nat.one_mul, nI_eqz, nI_eqq, nI_ltq, nI_ltz, nI_zlt, nI_nm1, nI_m2, m1_z, m1_lt0, m1_m1, b2_z, nI1_z, nI0_z, tb_0, tb_1, ite_nI, I_at, I_ne, J_at, J_ne, J_setI, I_setJ, ↓reduceIte, ltN_T, ltN_F, eqN_T, eqN_F, pow8, pow5, b2_f0, b2_t0, reduceCtorEq, Bool.false_eq_true, Bool.true_eq_false, eq_self, false_and, true_and, and_false, and_true, not_false_eq_true, not_true_eq_false]
  · rintro s ⟨e, i1, i2, i3, i4⟩
    refine ⟨s, e, i1, ?_, i3, i4⟩
    intro kept run h2 h3
    have := i2 (run * 2 ^ cK A 1 + kept) (lo_lt h3 h2)
    rw [dm_d h2, dm_m h2] at this
    exact this
theorem t_fillTables (a : AOK A) (c : CR 2 A σ) : ∃ s, f_X10_fillTables 195 1024 196 7168 σ = some s ∧ Fr (fun x => x = 195 ∨ x = 196) σ s ∧ TB A s := by
  unfold f_X10_fillTables
  have hF4 := F4 a
  simp (disch := omega) only [bind_s, bd2_s, rdI_ok, rdJ_ok, rdT_ok, ixR_ok, wrI_ok, wrJ_ok, wrT_none, pfI_s, pfJ_s, pfZ_0, pfZ_1, zr_b2, nl_n, nl_s, nI_add, nI_mul, nI_sub, nI_shlm, nI_shrd, nI_or8, nI_or8r, nI_or5r, nI_and255, nI_and31, nI_and7, nI_and1, nI_andK, nI_clr, Nat.one_mul, nI_eqz, nI_eqq, nI_ltq, nI_ltz, nI_zlt, nI_nm1, nI_m2, m1_z, m1_lt0, m1_m1, b2_z, nI1_z, nI0_z, tb_0, tb_1, ite_nI, I_at, I_ne, J_at, J_ne, J_setI, I_setJ, ↓reduceIte, ltN_T, ltN_F, eqN_T, eqN_F, pow8, pow5, b2_f0, b2_t0, reduceCtorEq, Bool.false_eq_true, Bool.true_eq_false, eq_self, false_and, true_and, and_false, and_true, not_false_eq_true, not_true_eq_false, t_freeLooks a c, t_lowStates a c, t_countOf a c]
  refine Exists.elim (loopE (fun n i s => f_X10_fillTables_21 195 1024 196 7168 n (nI (2 ^ cK A 0)) (nI (RR A * 2 ^ cK A 1)) (nI (cK A 1)) (nI i) s) (2 ^ cK A 0) (fun i s => Fr (fun x => x = 195 ∨ x = 196) σ s ∧ ∀ f kept run, f < i → kept < 2 ^ cK A 1 → run < RR A → s.1 195 (f * 256 + (run * 2 ^ cK A 1 + kept)) = nI (tr A f kept run) ∧ ∀ act, act < 7 → s.1 196 ((f * 256 + (run * 2 ^ cK A 1 + kept)) * 7 + act) = nv A f kept run act) (fun s => some s) ?_ ?_ FU 0 σ (by rw [FU_eq]; omega) (Nat.zero_le _) ⟨Fr.rf _ _, fun f kept run h => by omega⟩) ?_
  · rintro n i s hi ⟨hF, hv⟩ Q hQ
    have c' := CR_fr a c hF (fun x hx => by omega)
    show ∃ y, f_X10_fillTables_21 195 1024 196 7168 (n + 1) _ _ _ (nI i) s = f_X10_fillTables_21 195 1024 196 7168 n _ _ _ (nI (i + 1)) y ∧ _
    rw [f_X10_fillTables_21]
    obtain ⟨s2, e2, j1, j2, j3, j4⟩ := t_fill30 (k := fun x3_19 x4_20 x5_21 x6_22 s23 => f_X10_fillTables_21 195 1024 196 7168 n x3_19 x4_20 x5_21 (x6_22 + nI 1) s23) (x3 := nI (2 ^ cK A 0)) a c' hi
    simp (disch := omega) only [bind_s, bd2_s, rdI_ok, rdJ_ok, rdT_ok, ixR_ok, wrI_ok, wrJ_ok, wrT_none, pfI_s, pfJ_s, pfZ_0, pfZ_1, zr_b2, nl_n, nl_s, nI_add, nI_mul, nI_sub, nI_shlm, nI_shrd, nI_or8, nI_or8r, nI_or5r, nI_and255, nI_and31, nI_and7, nI_and1, nI_andK, nI_clr, Nat.one_mul, nI_eqz, nI_eqq, nI_ltq, nI_ltz, nI_zlt, nI_nm1, nI_m2, m1_z, m1_lt0, m1_m1, b2_z, nI1_z, nI0_z, tb_0, tb_1, ite_nI, I_at, I_ne, J_at, J_ne, J_setI, I_setJ, ↓reduceIte, ltN_T, ltN_F, eqN_T, eqN_F, pow8, pow5, b2_f0, b2_t0, reduceCtorEq, Bool.false_eq_true, Bool.true_eq_false, eq_self, false_and, true_and, and_false, and_true, not_false_eq_true, not_true_eq_false]
    rw [e2]
    simp (disch := omega) only [bind_s, bd2_s, rdI_ok, rdJ_ok, rdT_ok, ixR_ok, wrI_ok, wrJ_ok, wrT_none, pfI_s, pfJ_s, pfZ_0, pfZ_1, zr_b2, nl_n, nl_s, nI_add, nI_mul, nI_sub, nI_shlm, nI_shrd, nI_or8, nI_or8r, nI_or5r, nI_and255, nI_and31, nI_and7, nI_and1, nI_andK, nI_clr, Nat.one_mul, nI_eqz, nI_eqq, nI_ltq, nI_ltz, nI_zlt, nI_nm1, nI_m2, m1_z, m1_lt0, m1_m1, b2_z, nI1_z, nI0_z, tb_0, tb_1, ite_nI, I_at, I_ne, J_at, J_ne, J_setI, I_setJ, ↓reduceIte, ltN_T, ltN_F, eqN_T, eqN_F, pow8, pow5, b2_f0, b2_t0, reduceCtorEq, Bool.false_eq_true, Bool.true_eq_false, eq_self, false_and, true_and, and_false, and_true, not_false_eq_true, not_true_eq_false]
    refine ⟨s2, rfl, hQ _ ⟨hF.tr j1, ?_⟩⟩
    intro f kept run h1 h2 h3
    by_cases e : f = i
    · subst e; exact j2 kept run h2 h3
    · obtain ⟨v1, v2⟩ := hv f kept run (by omega) h2 h3
      have hl := lo_lt h3 h2
      have hL := LW_le a
      refine ⟨?_, fun act ha => ?_⟩
      · rw [j3 _ (by omega)]; exact v1
      · rw [j4 _ (by omega)]; exact v2 act ha
  · rintro n s -
    show f_X10_fillTables_21 195 1024 196 7168 (n + 1) _ _ _ (nI (2 ^ cK A 0)) s = _
    rw [f_X10_fillTables_21]
    simp (disch := omega) only [bind_s, bd2_s, rdI_ok, rdJ_ok, rdT_ok, ixR_ok, wrI_ok, wrJ_ok, wrT_none, pfI_s, pfJ_s, pfZ_0, pfZ_1, zr_b2, nl_n, nl_s, nI_add, nI_mul, nI_sub, nI_shlm, nI_shrd, nI_or8, nI_or8r, nI_or5r, nI_and255, nI_and31, nI_and7, nI_and1, nI_andK, nI_clr, Nat.one_mul, nI_eqz, nI_eqq, nI_ltq, nI_ltz, nI_zlt, nI_nm1, nI_m2, m1_z, m1_lt0, m1_m1, b2_z, nI1_z, nI0_z, tb_0, tb_1, ite_nI, I_at, I_ne, J_at, J_ne, J_setI, I_setJ, ↓reduceIte, ltN_T, ltN_F, eqN_T, eqN_F, pow8, pow5, b2_f0, b2_t0, reduceCtorEq, Bool.false_eq_true, Bool.true_eq_false, eq_self, false_and, true_and, and_false, and_true, not_false_eq_true, not_true_eq_false]
  · rintro s ⟨e, i1, i2⟩
    exact ⟨s, e, i1, i2⟩
end
