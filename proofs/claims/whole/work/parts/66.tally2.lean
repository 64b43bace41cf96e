section
/-! ===== tally; what is so ===== -/
variable {A : AW} {σ : ST} {d S h : Nat} {x : Nat × Nat}
theorem l_dm (l : Nat) : l / 256 * 256 + l % 256 = l := by omega
theorem jx2 {p i : Nat} (h : i < 1024) : p % 2 * 1024 + i < 2048 := by omega
theorem CK_ok (a : AOK A) (hh : h ≤ 12) (i : Nat) : CK A S x h i = 1048576 ∨ CK A S x h i ≤ 2000 := by
  by_cases w : i % 256 < LW A ∧ KPc A S x h (stc A (i % 256) (i / 256))
  · rw [CK_t w]
    have := (KP_FP a hh w.2).2
    right; omega
  · left; exact CK_f w
theorem CK_far (a : AOK A) (hh : h ≤ 12) (i : Nat) : CK A S x h i < 1048576 ↔ i % 256 < LW A ∧ KPc A S x h (stc A (i % 256) (i / 256)) := by
  by_cases w : i % 256 < LW A ∧ KPc A S x h (stc A (i % 256) (i / 256))
  · rw [CK_t w]
    have := (KP_FP a hh w.2).2
    exact ⟨fun _ => w, fun _ => by omega⟩
  · rw [CK_f w]
    exact ⟨fun q => absurd q (Nat.lt_irrefl _), fun q => absurd q w⟩
theorem op_in2 (a : AOK A) (hh : h < 12) {s f act t c : Nat} (o : Op (EG A S x) (2 ^ cK A 1) (glS A S) h s f act t c) : vst A s ∧ s / 256 < 2 ^ nS A S ∧ act < 7 ∧ f < 2 ^ cK A 0 ∧ vst A t ∧ t / 256 < 2 ^ nS A S ∧ f * 256 + lwc A s ∈ lkA A S h 2 (fun fl low => CK A S x h (fl * 256 + low)) (LW A) := by
  obtain ⟨p1, p2, p3, p4⟩ := (Op_p (EG_ok a) (EG_v a) hh).mpr o
  obtain ⟨⟨⟨vs, hs⟩, ⟨o1, o2, o3, o4⟩, oa⟩, et, -⟩ := EG_iff.mp (prn_iff.mp p1).1
  obtain ⟨w1, w2⟩ := lwc_lt a vs
  have hLW := LW_256 a
  have ha7 : act < 7 := by have := oa.1; have := a.1.2.1; omega
  have k : KPc A S x h s := (Op_kp (EG_ok a) hh o).1
  refine ⟨vs, hs, ha7, o1, by rw [et]; exact tos_v a vs hs, by rw [et]; exact (tos_at a vs hs).2.2.2, ?_⟩
  refine lkA_in _ w1 ?_ ?_
  · refine anyN_iff.mpr ⟨s / 256, hs, ?_⟩
    rw [decide_eq_true_iff]
    obtain ⟨x1, x2⟩ := lk_at (f := s / 256) (low := lwc A s) (Nat.lt_of_lt_of_le w1 hLW)
    refine (CK_far a (by omega) _).mpr ?_
    rw [x1, x2, w2]
    exact ⟨w1, k⟩
  · refine lkI_all (by omega) _ o1 ?_
    have s1 : lwc A s % 2 ^ cK A 1 = s % 32 := by unfold lwc; rw [dm_m vs.1]
    have s2 : lwc A s / 2 ^ cK A 1 = s / 32 % 8 := by unfold lwc; rw [dm_d vs.1]
    unfold okB
    rw [s1, s2, decide_eq_true o2, decide_eq_true o3, o4]
    rfl
theorem nO_all (a : AOK A) {b p j i n : Nat} (hh : p + j < 12) : nO A S x b p j (lkA A S (p + j) 2 (fun fl low => CK A S x (p + j) (fl * 256 + low)) (LW A)) (fun _ _ _ => True) i n ↔ i % 256 < LW A ∧ CCx A S x b p (j + 1) (stc A (i % 256) (i / 256)) n := by
  have hLW := LW_256 a
  constructor
  · rintro ⟨act, l, fl, t, c, m, ⟨q1, q2, q3⟩, o, -, z, r, rfl⟩
    obtain ⟨l1, l2, -⟩ := lk_ok a l q2
    obtain ⟨-, -, -, -, vt, ht, -⟩ := op_in2 a hh o
    obtain ⟨w1, w2⟩ := lwc_lt a vt
    have hw := Nat.lt_of_lt_of_le w1 hLW
    have i1 : i % 256 = lwc A t := by omega
    have i2 : i / 256 = t / 256 := by omega
    rw [i1, i2, w2]
    refine ⟨w1, stc A (l % 256) fl, l / 256, act, c, m, o, r, ?_⟩
    unfold mk2
    rw [lwc_st a l2, l_dm l]
  · rintro ⟨hl, s, f, act, c, m, o, r, rfl⟩
    obtain ⟨vs, hs, ha, hf, vt, ht, hin⟩ := op_in2 a hh o
    obtain ⟨w1, w2⟩ := lwc_lt a vs
    obtain ⟨x1, x2⟩ := lk_at (f := f) (low := lwc A s) (Nat.lt_of_lt_of_le w1 hLW)
    refine ⟨act, f * 256 + lwc A s, s / 256, stc A (i % 256) (i / 256), c, m, ⟨ha, hin, hs⟩, ?_, trivial, ?_, ?_, rfl⟩
    · unfold OpL
      rw [x1, x2, w2]
      exact o
    · rw [(stc_at (fl := i / 256) a hl).2.2.1, lwc_st a hl]
      omega
    · rw [x2, w2]; exact r
theorem CC0 {b p s n : Nat} : CCx A S x b p 0 s n ↔ KPc A S x p s ∧ n = 0 := Iff.rfl
theorem t_tally (a : AOK A) (hd : d = 197 ∨ d = 213) (c : CR 2 A σ) (t : TB A σ) (kp : KPT d A S x 0 σ) (hL : LE A S x < NV) {b p q : Nat} (hb : b < 16) (hpq : p ≤ q) (hq : q < 12) : ∃ s m, f_X2_tally d (nI b) (nI p) (nI q) σ = some (nI m, s) ∧ Fr (fun y => y = d ∨ y = d + 2 ∨ y = d + 3) σ s ∧ (∀ k, k ≠ 11 → s.1 d k = σ.1 d k) ∧ s.2.1 d = σ.2.1 d ∧ m < 2 ^ 14 ∧ ∀ n, m.testBit n = true ↔ ∃ t, CCx A S x b p (q + 1 - p) t n := by
  obtain ⟨g, f, hcost, h12, -, -⟩ := kp
  have hn := nSt_le (S := S) a
  have hLW := LW_256 a
  have hle := LE_le a hL
  unfold f_X2_tally
  simp (disch := omega) only [bind_s, bd2_s, rdI_ok, rdJ_ok, rdT_ok, ixR_ok, wrI_ok, wrJ_ok, wrT_none, pfI_s, pfJ_s, pfZ_0, pfZ_1, zr_b2, nl_n, nl_s, nI_add, nI_mul, nI_sub, nI_shlm, nI_shrd, nI_or8, nI_or8r, nI_or5r, nI_and255, nI_and31, nI_and7, nI_and1, nI_andK, nI_clr, Nat.one_mul, nI_eqz, nI_eqq, nI_ltq, nI_ltz, nI_zlt, nI_nm1, nI_m2, m1_z, m1_lt0, m1_m1, b2_z, nI1_z, nI0_z, tb_0, tb_1, ite_nI, I_at, I_ne, J_at, J_ne, J_setI, I_setJ, ↓reduceIte, ltN_T, ltN_F, eqN_T, eqN_F, pow8, pow5, b2_f0, b2_t0, reduceCtorEq, Bool.false_eq_true, Bool.true_eq_false, eq_self, false_and, true_and, and_false, and_true, not_false_eq_true, not_true_eq_false, h12]
  -- the start
  have F0 : Fr (fun y => y = d) σ (setI σ d 11 (nI b)) := Fr_setI rfl
  have L1 : ∃ s, f_X2_tally_18 d (fun x2_7 x3_8 s9 => f_X2_tally_71 d (fun x3_12 s13 => f_X2_tally_104 d FU x3_12 0 (nI 0) s13) FU x3_8 x2_7 s9) FU (nI p) (nI q) (nI 0) (setI σ d 11 (nI b)) = f_X2_tally_71 d (fun x3_12 s13 => f_X2_tally_104 d FU x3_12 0 (nI 0) s13) FU (nI q) (nI p) s ∧ (Fr (fun y => y = d + 2) (setI σ d 11 (nI b)) s ∧ ∀ i, i < nSt A S → ∃ m, m < 2 ^ 1 ∧ s.2.1 (d + 2) (p % 2 * 1024 + i) = lN m ∧ ∀ n, m.testBit n = true ↔ i % 256 < LW A ∧ CCx A S x b p 0 (stc A (i % 256) (i / 256)) n) := by
    refine loopE (fun n i s => f_X2_tally_18 d (fun x2_7 x3_8 s9 => f_X2_tally_71 d (fun x3_12 s13 => f_X2_tally_104 d FU x3_12 0 (nI 0) s13) FU x3_8 x2_7 s9) n (nI p) (nI q) (nI i) s) (nSt A S) (fun k s => Fr (fun y => y = d + 2) (setI σ d 11 (nI b)) s ∧ ∀ i, i < k → ∃ m, m < 2 ^ 1 ∧ s.2.1 (d + 2) (p % 2 * 1024 + i) = lN m ∧ ∀ n, m.testBit n = true ↔ i % 256 < LW A ∧ CCx A S x b p 0 (stc A (i % 256) (i / 256)) n) (fun s => f_X2_tally_71 d (fun x3_12 s13 => f_X2_tally_104 d FU x3_12 0 (nI 0) s13) FU (nI q) (nI p) s) ?_ ?_ FU 0 (setI σ d 11 (nI b)) (by rw [FU_eq]; omega) (Nat.zero_le _) ⟨Fr.rf _ _, fun i hi => by omega⟩
    · rintro n i s hi ⟨hF, hv⟩ Q hQ
      have f10 : s.1 d 10 = nI (nSt A S) := by rw [hF.I (by omega), I_ne (Or.inr (by omega)), nSt_eq]; exact f.2.2.2
      have hi1 : i < 1024 := Nat.lt_of_lt_of_le hi hn
      have ec : s.1 (d + 1) (p * 1024 + i) = nI (CK A S x p i) := by rw [hF.I (by omega), I_ne (Or.inl (by omega))]; exact hcost p i (Nat.zero_le _) (by omega) hi
      have hix : p * 1024 + i < 13312 := by
        have : p * 1024 + i < 12 * 1024 := row_lt (by omega) hi1
        omega
      have hjx : p % 2 * 1024 + i < 2048 := jx2 hi1
      have hck := CK_ok (S := S) (x := x) a (show p ≤ 12 by omega) i
      have hfar := CK_far (S := S) (x := x) a (show p ≤ 12 by omega) i
      have upd : ∀ m : Nat, m < 2 ^ 1 → (∀ n, m.testBit n = true ↔ i % 256 < LW A ∧ CCx A S x b p 0 (stc A (i % 256) (i / 256)) n) → Q (setJ s (d + 2) (p % 2 * 1024 + i) (lN m)) := by
        intro m hm hbm
        refine hQ _ ⟨hF.tr (Fr_setJ rfl), fun k hk => ?_⟩
        by_cases e : k = i
        · subst e
          exact ⟨m, hm, by rw [J_at], hbm⟩
        · obtain ⟨m', q1, q2, q3⟩ := hv k (by omega)
          exact ⟨m', q1, by rw [J_ne (Or.inr (by omega))]; exact q2, q3⟩
      show ∃ y, f_X2_tally_18 d _ (n + 1) (nI p) (nI q) (nI i) s = f_X2_tally_18 d _ n (nI p) (nI q) (nI (i + 1)) y ∧ _
      rw [f_X2_tally_18]
      unfold f_X2_layerOf
      simp (disch := omega) only [bind_s, bd2_s, rdT_ok, ixR_ok, wrT_none, pfI_s, pfJ_s, pfZ_0, pfZ_1, zr_b2, nl_n, nl_s, nI_add, nI_mul, nI_sub, nI_shlm, nI_shrd, nI_or8, nI_or8r, nI_or5r, nI_and255, nI_and31, nI_and7, nI_and1, nI_andK, nI_clr, Nat.one_mul, nI_eqz, nI_eqq, nI_ltq, nI_ltz, nI_zlt, nI_nm1, nI_m2, m1_z, m1_lt0, m1_m1, b2_z, nI1_z, nI0_z, tb_0, tb_1, ite_nI, I_at, I_ne, J_at, J_ne, J_setI, I_setJ, ↓reduceIte, ltN_T, ltN_F, eqN_T, eqN_F, pow8, pow5, b2_f0, b2_t0, reduceCtorEq, Bool.false_eq_true, Bool.true_eq_false, eq_self, false_and, true_and, and_false, and_true, not_false_eq_true, not_true_eq_false, f10]
      rw [rdI_ok hix (by decide), ec]
      by_cases w : i % 256 < LW A ∧ KPc A S x p (stc A (i % 256) (i / 256))
      · have hlt := hfar.mpr w
        simp (disch := omega) only [bind_s, bd2_s, rdT_ok, ixR_ok, wrT_none, pfI_s, pfJ_s, pfZ_0, pfZ_1, zr_b2, nl_n, nl_s, nI_add, nI_mul, nI_sub, nI_shlm, nI_shrd, nI_or8, nI_or8r, nI_or5r, nI_and255, nI_and31, nI_and7, nI_and1, nI_andK, nI_clr, Nat.one_mul, nI_eqz, nI_eqq, nI_ltq, nI_ltz, nI_zlt, nI_nm1, nI_m2, m1_z, m1_lt0, m1_m1, b2_z, nI1_z, nI0_z, tb_0, tb_1, ite_nI, I_at, I_ne, J_at, J_ne, J_setI, I_setJ, ↓reduceIte, ltN_T, ltN_F, eqN_T, eqN_F, pow8, pow5, b2_f0, b2_t0, reduceCtorEq, Bool.false_eq_true, Bool.true_eq_false, eq_self, false_and, true_and, and_false, and_true, not_false_eq_true, not_true_eq_false, hlt]
        rw [wrJ_ok hjx (by decide)]
        simp (disch := omega) only [bind_s, bd2_s, rdT_ok, ixR_ok, wrT_none, pfI_s, pfJ_s, pfZ_0, pfZ_1, zr_b2, nl_n, nl_s, nI_add, nI_mul, nI_sub, nI_shlm, nI_shrd, nI_or8, nI_or8r, nI_or5r, nI_and255, nI_and31, nI_and7, nI_and1, nI_andK, nI_clr, Nat.one_mul, nI_eqz, nI_eqq, nI_ltq, nI_ltz, nI_zlt, nI_nm1, nI_m2, m1_z, m1_lt0, m1_m1, b2_z, nI1_z, nI0_z, tb_0, tb_1, ite_nI, I_at, I_ne, J_at, J_ne, J_setI, I_setJ, ↓reduceIte, ltN_T, ltN_F, eqN_T, eqN_F, pow8, pow5, b2_f0, b2_t0, reduceCtorEq, Bool.false_eq_true, Bool.true_eq_false, eq_self, false_and, true_and, and_false, and_true, not_false_eq_true, not_true_eq_false]
        refine ⟨_, rfl, upd 1 (by decide) fun n => ?_⟩
        rw [CC0]
        constructor
        · intro q1
          refine ⟨w.1, w.2, ?_⟩
          by_cases e : n = 0
          · exact e
          · rw [Nat.testBit_lt_two_pow (show 1 < 2 ^ n from Nat.one_lt_two_pow e)] at q1
            cases q1
        · rintro ⟨-, -, rfl⟩; rfl
      · have hlt : ¬ CK A S x p i < 1048576 := fun q => w (hfar.mp q)
        simp (disch := omega) only [bind_s, bd2_s, rdT_ok, ixR_ok, wrT_none, pfI_s, pfJ_s, pfZ_0, pfZ_1, zr_b2, nl_n, nl_s, nI_add, nI_mul, nI_sub, nI_shlm, nI_shrd, nI_or8, nI_or8r, nI_or5r, nI_and255, nI_and31, nI_and7, nI_and1, nI_andK, nI_clr, Nat.one_mul, nI_eqz, nI_eqq, nI_ltq, nI_ltz, nI_zlt, nI_nm1, nI_m2, m1_z, m1_lt0, m1_m1, b2_z, nI1_z, nI0_z, tb_0, tb_1, ite_nI, I_at, I_ne, J_at, J_ne, J_setI, I_setJ, ↓reduceIte, ltN_T, ltN_F, eqN_T, eqN_F, pow8, pow5, b2_f0, b2_t0, reduceCtorEq, Bool.false_eq_true, Bool.true_eq_false, eq_self, false_and, true_and, and_false, and_true, not_false_eq_true, not_true_eq_false, hlt]
        rw [wrJ_ok hjx (by decide)]
        simp (disch := omega) only [bind_s, bd2_s, rdT_ok, ixR_ok, wrT_none, pfI_s, pfJ_s, pfZ_0, pfZ_1, zr_b2, nl_n, nl_s, nI_add, nI_mul, nI_sub, nI_shlm, nI_shrd, nI_or8, nI_or8r, nI_or5r, nI_and255, nI_and31, nI_and7, nI_and1, nI_andK, nI_clr, Nat.one_mul, nI_eqz, nI_eqq, nI_ltq, nI_ltz, nI_zlt, nI_nm1, nI_m2, m1_z, m1_lt0, m1_m1, b2_z, nI1_z, nI0_z, tb_0, tb_1, ite_nI, I_at, I_ne, J_at, J_ne, J_setI, I_setJ, ↓reduceIte, ltN_T, ltN_F, eqN_T, eqN_F, pow8, pow5, b2_f0, b2_t0, reduceCtorEq, Bool.false_eq_true, Bool.true_eq_false, eq_self, false_and, true_and, and_false, and_true, not_false_eq_true, not_true_eq_false]
        refine ⟨_, rfl, upd 0 (by decide) fun n => ?_⟩
        rw [CC0]
        constructor
        · intro q1; simp at q1
        · rintro ⟨q1, q2, -⟩; exact absurd ⟨q1, q2⟩ w
    · rintro n s ⟨hF, -⟩
      have f10 : s.1 d 10 = nI (nSt A S) := by rw [hF.I (by omega), I_ne (Or.inr (by omega)), nSt_eq]; exact f.2.2.2
      show f_X2_tally_18 d _ (n + 1) (nI p) (nI q) (nI (nSt A S)) s = _
      rw [f_X2_tally_18]
      simp (disch := omega) only [bind_s, bd2_s, rdI_ok, rdJ_ok, rdT_ok, ixR_ok, wrI_ok, wrJ_ok, wrT_none, pfI_s, pfJ_s, pfZ_0, pfZ_1, zr_b2, nl_n, nl_s, nI_add, nI_mul, nI_sub, nI_shlm, nI_shrd, nI_or8, nI_or8r, nI_or5r, nI_and255, nI_and31, nI_and7, nI_and1, nI_andK, nI_clr, Nat.one_mul, nI_eqz, nI_eqq, nI_ltq, nI_ltz, nI_zlt, nI_nm1, nI_m2, m1_z, m1_lt0, m1_m1, b2_z, nI1_z, nI0_z, tb_0, tb_1, ite_nI, I_at, I_ne, J_at, J_ne, J_setI, I_setJ, ↓reduceIte, ltN_T, ltN_F, eqN_T, eqN_F, pow8, pow5, b2_f0, b2_t0, reduceCtorEq, Bool.false_eq_true, Bool.true_eq_false, eq_self, false_and, true_and, and_false, and_true, not_false_eq_true, not_true_eq_false, f10]
  obtain ⟨s1, e1, F1, v1⟩ := L1
  rw [e1]
  -- the hours
  have F01 : Fr (fun y => y = d ∨ y = d + 2 ∨ y = d + 3) σ s1 := (F0.mono (fun y hy => Or.inl hy)).tr (F1.mono (fun y hy => Or.inr (Or.inl hy)))
  have d01 : s1.1 d = (setI σ d 11 (nI b)).1 d := (F1.1 d (by omega)).1
  have dj1 : s1.2.1 d = σ.2.1 d := (F1.1 d (by omega)).2.1
  have L2 : ∃ s, f_X2_tally_71 d (fun x3_12 s13 => f_X2_tally_104 d FU x3_12 0 (nI 0) s13) FU (nI q) (nI p) s1 = f_X2_tally_104 d FU (nI q) 0 (nI 0) s ∧ (p ≤ q + 1 ∧ Fr (fun y => y = d + 2 ∨ y = d + 3) s1 s ∧ ∀ i, i < nSt A S → ∃ m, m < 2 ^ (q + 1 - p + 1) ∧ s.2.1 (d + 2) ((q + 1) % 2 * 1024 + i) = lN m ∧ ∀ n, m.testBit n = true ↔ i % 256 < LW A ∧ CCx A S x b p (q + 1 - p) (stc A (i % 256) (i / 256)) n) := by
    refine loopE (fun n h s => f_X2_tally_71 d (fun x3_12 s13 => f_X2_tally_104 d FU x3_12 0 (nI 0) s13) n (nI q) (nI h) s) (q + 1) (fun h s => p ≤ h ∧ Fr (fun y => y = d + 2 ∨ y = d + 3) s1 s ∧ ∀ i, i < nSt A S → ∃ m, m < 2 ^ (h - p + 1) ∧ s.2.1 (d + 2) (h % 2 * 1024 + i) = lN m ∧ ∀ n, m.testBit n = true ↔ i % 256 < LW A ∧ CCx A S x b p (h - p) (stc A (i % 256) (i / 256)) n) (fun s => f_X2_tally_104 d FU (nI q) 0 (nI 0) s) ?_ ?_ FU p s1 (by rw [FU_eq]; omega) (by omega) ⟨Nat.le_refl _, Fr.rf _ _, by rw [Nat.sub_self]; exact v1⟩
    · rintro n h s hh ⟨hph, hF, hv⟩ Q hQ
      obtain ⟨j, rfl⟩ : ∃ j, h = p + j := ⟨h - p, by omega⟩
      rw [show p + j - p = j by omega] at hv
      rw [show p + j + 1 - p = j + 1 by omega] at hQ
      have hpj : p + j < 12 := by omega
      have Fall : Fr (fun y => y = d ∨ y = d + 2 ∨ y = d + 3) σ s := F01.tr (hF.mono (fun y hy => Or.inr hy))
      have fs : FD d A S s := by
        have e : ∀ k, k ≠ 11 → s.1 d k = σ.1 d k := fun k hk => by rw [hF.I (by omega), d01, I_ne (Or.inr hk)]
        exact ⟨by rw [e 7 (by omega)]; exact f.1, by rw [e 8 (by omega)]; exact f.2.1, by rw [e 9 (by omega)]; exact f.2.2.1, by rw [e 10 (by omega)]; exact f.2.2.2⟩
      obtain ⟨s2, e2, F2, v2, o2⟩ := t_clearWays (h := p + j + 1) a hd fs
      rw [show (p + j + 1 + 1) % 2 = (p + j) % 2 by omega] at o2
      have F2' := Fall.tr (F2.mono (W := fun y => y = d ∨ y = d + 2 ∨ y = d + 3) (fun y hy => by omega))
      have b2 : BS d A S x (p + j) (fun fl low => CK A S x (p + j) (fl * 256 + low)) s2 := by
        refine ⟨CR_fr a c F2' (fun y hy => by omega), TB_fr t F2' (fun y hy => by omega), GX_fr g F2' (fun y hy => by omega), FD_fr fs F2 (by omega), fun fl low h1 h2 => ?_⟩
        rw [F2'.I (by omega)]
        exact hcost (p + j) _ (Nat.zero_le _) (by omega) (ix_lt h1 h2)
      have hC : ∀ fl low, CK A S x (p + j) (fl * 256 + low) = 1048576 ∨ CK A S x (p + j) (fl * 256 + low) ≤ 2000 := fun fl low => CK_ok a (by omega) _
      obtain ⟨s3, e3, F3, v3⟩ := t_gatherLooks (pass := 2) a hd hpj (by omega) (fun fl low => by rcases hC fl low with q | q <;> omega) b2
      have b3 := BS_fr a hd b2 F3 (fun y hy => by omega)
      have F3' := F2'.tr (F3.mono (W := fun y => y = d ∨ y = d + 2 ∨ y = d + 3) (fun y hy => by omega))
      have hlen := lkA_len (S := S) (h := p + j) (C := fun fl low => CK A S x (p + j) (fl * 256 + low)) (pass := 2) a (LW A)
      have g11 : s3.1 d 11 = nI b := by rw [F3.I (by omega), F2.I (by omega), hF.I (by omega), d01, I_at]
      have w := WOK_T (x := x) (σ := s3) (p := p) (j := j) (lk := lkA A S (p + j) 2 (fun fl low => CK A S x (p + j) (fl * 256 + low)) (LW A)) a hd hb hpj (lk_ok a) g11 (fun i hi => by rw [F3'.I (by omega)]; exact hcost (p + j + 1) i (Nat.zero_le _) (by omega) hi) (fun i hi hl => by
        obtain ⟨m, m1, m2, m3⟩ := hv i hi
        refine ⟨m, m1, ?_, fun n => (m3 n).trans ⟨fun q => q.2, fun q => ⟨hl, q⟩⟩⟩
        rw [F3.J (by omega), o2 i (Nat.lt_of_lt_of_le hi hn)]
        exact m2)
      have j0 : JT d A S x b p j (fun fl low => CK A S x (p + j) (fl * 256 + low)) (lkA A S (p + j) 2 (fun fl low => CK A S x (p + j) (fl * 256 + low)) (LW A)) s3 (fun _ _ _ => False) s3 := by
        refine ⟨⟨b3, v3⟩, Fr.rf _ _, fun k _ => rfl, fun i hi => ⟨0, Nat.two_pow_pos _, ?_, fun n => ?_⟩⟩
        · rw [F3.J (by omega)]; exact v2 i hi
        · constructor
          · intro q; simp at q
          · rintro ⟨_, _, _, _, _, _, _, _, q, _⟩; exact q.elim
      have W := t_walk10 (σ := s3) a hd hpj hC (show (lkA A S (p + j) 2 (fun fl low => CK A S x (p + j) (fl * 256 + low)) (LW A)).length ≤ 1024 from Nat.le_trans hlen (by omega)) (lkA_nd _ hLW) (lk_ok a) w j0
      obtain ⟨s4, e4, -, F4, -, v4⟩ := W
      show ∃ y, f_X2_tally_71 d _ (n + 1) (nI q) (nI (p + j)) s = f_X2_tally_71 d _ n (nI q) (nI (p + j + 1)) y ∧ _
      rw [f_X2_tally_71]
      unfold f_X2_walk
      have hnl : ¬ q < p + j := by omega
      simp (disch := omega) only [bind_s, bd2_s, rdI_ok, rdJ_ok, rdT_ok, ixR_ok, wrI_ok, wrJ_ok, wrT_none, pfI_s, pfJ_s, pfZ_0, pfZ_1, zr_b2, nl_n, nl_s, nI_add, nI_mul, nI_sub, nI_shlm, nI_shrd, nI_or8, nI_or8r, nI_or5r, nI_and255, nI_and31, nI_and7, nI_and1, nI_andK, nI_clr, Nat.one_mul, nI_eqz, nI_eqq, nI_ltq, nI_ltz, nI_zlt, nI_nm1, nI_m2, m1_z, m1_lt0, m1_m1, b2_z, nI1_z, nI0_z, tb_0, tb_1, ite_nI, I_at, I_ne, J_at, J_ne, J_setI, I_setJ, ↓reduceIte, ltN_T, ltN_F, eqN_T, eqN_F, pow8, pow5, b2_f0, b2_t0, reduceCtorEq, Bool.false_eq_true, Bool.true_eq_false, eq_self, false_and, true_and, and_false, and_true, not_false_eq_true, not_true_eq_false, hnl, e2, e3, e4]
      refine ⟨s4, rfl, hQ _ ⟨by omega, (((hF.tr (F2.mono (fun y hy => by omega))).tr (F3.mono (fun y hy => by omega))).tr (F4.mono (fun y hy => by omega))), fun i hi => ?_⟩⟩
      obtain ⟨m, m1, m2, m3⟩ := v4 i hi
      exact ⟨m, m1, m2, fun n => (m3 n).trans (nO_all a hpj)⟩
    · rintro n s -
      show f_X2_tally_71 d _ (n + 1) (nI q) (nI (q + 1)) s = _
      rw [f_X2_tally_71]
      simp (disch := omega) only [bind_s, bd2_s, rdI_ok, rdJ_ok, rdT_ok, ixR_ok, wrI_ok, wrJ_ok, wrT_none, pfI_s, pfJ_s, pfZ_0, pfZ_1, zr_b2, nl_n, nl_s, nI_add, nI_mul, nI_sub, nI_shlm, nI_shrd, nI_or8, nI_or8r, nI_or5r, nI_and255, nI_and31, nI_and7, nI_and1, nI_andK, nI_clr, Nat.one_mul, nI_eqz, nI_eqq, nI_ltq, nI_ltz, nI_zlt, nI_nm1, nI_m2, m1_z, m1_lt0, m1_m1, b2_z, nI1_z, nI0_z, tb_0, tb_1, ite_nI, I_at, I_ne, J_at, J_ne, J_setI, I_setJ, ↓reduceIte, ltN_T, ltN_F, eqN_T, eqN_F, pow8, pow5, b2_f0, b2_t0, reduceCtorEq, Bool.false_eq_true, Bool.true_eq_false, eq_self, false_and, true_and, and_false, and_true, not_false_eq_true, not_true_eq_false]
  obtain ⟨s2, e2, -, F2, v2⟩ := L2
  rw [e2]
  have F02 := F01.tr (F2.mono (W := fun y => y = d ∨ y = d + 2 ∨ y = d + 3) (fun y hy => Or.inr hy))
  have d02 : ∀ k, k ≠ 11 → s2.1 d k = σ.1 d k := fun k hk => by rw [F2.I (by omega), d01, I_ne (Or.inr hk)]
  have f10 : s2.1 d 10 = nI (nSt A S) := by rw [d02 10 (by omega), nSt_eq]; exact f.2.2.2
  -- all together
  have L3 : ∃ m : Nat, f_X2_tally_104 d FU (nI q) 0 (nI 0) s2 = some (nI m, s2) ∧ (m < 2 ^ 14 ∧ ∀ n, m.testBit n = true ↔ ∃ i, i < nSt A S ∧ i % 256 < LW A ∧ CCx A S x b p (q + 1 - p) (stc A (i % 256) (i / 256)) n) := by
    refine loopE (fun n i m => f_X2_tally_104 d n (nI q) (lN m) (nI i) s2) (nSt A S) (fun k m => m < 2 ^ 14 ∧ ∀ n, m.testBit n = true ↔ ∃ i, i < k ∧ i % 256 < LW A ∧ CCx A S x b p (q + 1 - p) (stc A (i % 256) (i / 256)) n) (fun m => some (nI m, s2)) ?_ ?_ FU 0 0 (by rw [FU_eq]; omega) (Nat.zero_le _) ⟨by decide, fun n => ⟨fun r => by simp at r, fun ⟨_, r, _⟩ => by omega⟩⟩
    · rintro n i m hi ⟨hm, hbm⟩ Q hQ
      obtain ⟨m', q1, q2, q3⟩ := v2 i hi
      have hjx : (q + 1) % 2 * 1024 + i < 2048 := jx2 (Nat.lt_of_lt_of_le hi hn)
      show ∃ y, f_X2_tally_104 d (n + 1) (nI q) (lN m) (nI i) s2 = f_X2_tally_104 d n (nI q) (lN y) (nI (i + 1)) s2 ∧ _
      rw [f_X2_tally_104]
      unfold f_X2_layerOf
      simp (disch := omega) only [bind_s, bd2_s, rdT_ok, ixR_ok, wrT_none, pfI_s, pfJ_s, pfZ_0, pfZ_1, zr_b2, nl_n, nl_s, nI_add, nI_mul, nI_sub, nI_shlm, nI_shrd, nI_or8, nI_or8r, nI_or5r, nI_and255, nI_and31, nI_and7, nI_and1, nI_andK, nI_clr, Nat.one_mul, nI_eqz, nI_eqq, nI_ltq, nI_ltz, nI_zlt, nI_nm1, nI_m2, m1_z, m1_lt0, m1_m1, b2_z, nI1_z, nI0_z, tb_0, tb_1, ite_nI, I_at, I_ne, J_at, J_ne, J_setI, I_setJ, ↓reduceIte, ltN_T, ltN_F, eqN_T, eqN_F, pow8, pow5, b2_f0, b2_t0, reduceCtorEq, Bool.false_eq_true, Bool.true_eq_false, eq_self, false_and, true_and, and_false, and_true, not_false_eq_true, not_true_eq_false, f10]
      rw [rdJ_ok hjx (by decide), q2]
      simp (disch := omega) only [bind_s, bd2_s, rdT_ok, ixR_ok, wrT_none, pfI_s, pfJ_s, pfZ_0, pfZ_1, zr_b2, nl_n, nl_s, nI_add, nI_mul, nI_sub, nI_shlm, nI_shrd, nI_or8, nI_or8r, nI_or5r, nI_and255, nI_and31, nI_and7, nI_and1, nI_andK, nI_clr, Nat.one_mul, nI_eqz, nI_eqq, nI_ltq, nI_ltz, nI_zlt, nI_nm1, nI_m2, m1_z, m1_lt0, m1_m1, b2_z, nI1_z, nI0_z, tb_0, tb_1, ite_nI, I_at, I_ne, J_at, J_ne, J_setI, I_setJ, ↓reduceIte, ltN_T, ltN_F, eqN_T, eqN_F, pow8, pow5, b2_f0, b2_t0, reduceCtorEq, Bool.false_eq_true, Bool.true_eq_false, eq_self, false_and, true_and, and_false, and_true, not_false_eq_true, not_true_eq_false, lN_or]
      refine ⟨_, rfl, hQ _ ⟨Nat.or_lt_two_pow hm (Nat.lt_of_lt_of_le q1 (two_le (by omega))), fun k => ?_⟩⟩
      rw [Nat.testBit_or, Bool.or_eq_true, hbm k, q3 k]
      constructor
      · rintro (⟨i', r1, r2⟩ | r)
        · exact ⟨i', by omega, r2⟩
        · exact ⟨i, by omega, r⟩
      · rintro ⟨i', r1, r2⟩
        by_cases e : i' = i
        · subst e; exact Or.inr r2
        · exact Or.inl ⟨i', by omega, r2⟩
    · rintro n m -
      show f_X2_tally_104 d (n + 1) (nI q) (lN m) (nI (nSt A S)) s2 = _
      rw [f_X2_tally_104]
      simp (disch := omega) only [bind_s, bd2_s, rdI_ok, rdJ_ok, rdT_ok, ixR_ok, wrI_ok, wrJ_ok, wrT_none, pfI_s, pfJ_s, pfZ_0, pfZ_1, zr_b2, nl_n, nl_s, nI_add, nI_mul, nI_sub, nI_shlm, nI_shrd, nI_or8, nI_or8r, nI_or5r, nI_and255, nI_and31, nI_and7, nI_and1, nI_andK, nI_clr, Nat.one_mul, nI_eqz, nI_eqq, nI_ltq, nI_ltz, nI_zlt, nI_nm1, nI_m2, m1_z, m1_lt0, m1_m1, b2_z, nI1_z, nI0_z, tb_0, tb_1, ite_nI, I_at, I_ne, J_at, J_ne, J_setI, I_setJ, ↓reduceIte, ltN_T, ltN_F, eqN_T, eqN_F, pow8, pow5, b2_f0, b2_t0, reduceCtorEq, Bool.false_eq_true, Bool.true_eq_false, eq_self, false_and, true_and, and_false, and_true, not_false_eq_true, not_true_eq_false, f10, lN_i]
  obtain ⟨m, e3, m1, m2⟩ := L3
  refine ⟨s2, m, e3, F02, d02, by rw [(F2.1 d (by omega)).2.1]; exact dj1, m1, fun n => (m2 n).trans ?_⟩
  constructor
  · rintro ⟨i, -, -, r⟩; exact ⟨_, r⟩
  · rintro ⟨u, r⟩
    have e : q + 1 - p = q - p + 1 := by omega
    rw [e] at r ⊢
    obtain ⟨s, ff, act, c', m', o, r1, r2⟩ := id r
    obtain ⟨-, -, -, -, vt, ht, -⟩ := op_in2 (h := p + (q - p)) a (by omega) o
    obtain ⟨w1, w2⟩ := lwc_lt a vt
    obtain ⟨x1, x2⟩ := lk_at (f := u / 256) (low := lwc A u) (Nat.lt_of_lt_of_le w1 hLW)
    refine ⟨u / 256 * 256 + lwc A u, ix_lt ht w1, ?_⟩
    rw [x1, x2, w2]
    exact ⟨w1, r⟩
end
