section
/-! ===== the reference's moments ===== -/
variable {A : AW} {σ : ST} {S : Nat} {x : Nat × Nat}
theorem t_many (a : AOK A) (m : MR A σ) {k : Nat} (hk : k < 4) : f_X12_many (nI k) σ = some (nI (cK A k), σ) := by
  unfold f_X12_many
  have h0 := m.1.1
  have hb := a.1.1
  refine loopC (fun n i => f_X12_many_4 n (nI k) (nI (cnt (kd A) k i)) (nI i) σ) (nT A) _ ?_ ?_ FU 0 (by rw [FU_eq]; omega) (Nat.zero_le _)
  · intro n i hi
    have h1 := (m.2.1 i hi).1
    have h2 := a.2.1 i hi
    show f_X12_many_4 (n + 1) _ _ _ σ = f_X12_many_4 n _ _ (nI (i + 1)) σ
    rw [f_X12_many_4, cnt]
    by_cases e : kd A i = k
    · simp (disch := omega) only [bind_s, bd2_s, rdI_ok, rdJ_ok, rdT_ok, ixR_ok, wrI_ok, wrJ_ok, wrT_none, pfI_s, pfJ_s, pfZ_0, pfZ_1, zr_b2, nl_n, nl_s, nI_add, nI_mul, nI_sub, nI_shlm, nI_shrd, nI_or8, nI_or8r, nI_or5r, nI_and255, nI_and31, nI_and7, nI_and1, nI_andK, nI_clr, Nat.one_mul, nI_eqz, nI_eqq, nI_ltq, nI_ltz, nI_zlt, nI_nm1, nI_m2, m1_z, m1_lt0, m1_m1, b2_z, nI1_z, nI0_z, tb_0, tb_1, ite_nI, I_at, I_ne, J_at, J_ne, J_setI, I_setJ, ↓reduceIte, ltN_T, ltN_F, eqN_T, eqN_F, pow8, pow5, b2_f0, b2_t0, reduceCtorEq, Bool.false_eq_true, Bool.true_eq_false, eq_self, false_and, true_and, and_false, and_true, not_false_eq_true, not_true_eq_false, h0, h1, e]
    · simp (disch := omega) only [bind_s, bd2_s, rdI_ok, rdJ_ok, rdT_ok, ixR_ok, wrI_ok, wrJ_ok, wrT_none, pfI_s, pfJ_s, pfZ_0, pfZ_1, zr_b2, nl_n, nl_s, nI_add, nI_mul, nI_sub, nI_shlm, nI_shrd, nI_or8, nI_or8r, nI_or5r, nI_and255, nI_and31, nI_and7, nI_and1, nI_andK, nI_clr, Nat.one_mul, nI_eqz, nI_eqq, nI_ltq, nI_ltz, nI_zlt, nI_nm1, nI_m2, m1_z, m1_lt0, m1_m1, b2_z, nI1_z, nI0_z, tb_0, tb_1, ite_nI, I_at, I_ne, J_at, J_ne, J_setI, I_setJ, ↓reduceIte, ltN_T, ltN_F, eqN_T, eqN_F, pow8, pow5, b2_f0, b2_t0, reduceCtorEq, Bool.false_eq_true, Bool.true_eq_false, eq_self, false_and, true_and, and_false, and_true, not_false_eq_true, not_true_eq_false, h0, h1, e]
  · intro n
    show f_X12_many_4 (n + 1) _ _ _ σ = _
    rw [f_X12_many_4]
    simp (disch := omega) only [bind_s, bd2_s, rdI_ok, rdJ_ok, rdT_ok, ixR_ok, wrI_ok, wrJ_ok, wrT_none, pfI_s, pfJ_s, pfZ_0, pfZ_1, zr_b2, nl_n, nl_s, nI_add, nI_mul, nI_sub, nI_shlm, nI_shrd, nI_or8, nI_or8r, nI_or5r, nI_and255, nI_and31, nI_and7, nI_and1, nI_andK, nI_clr, Nat.one_mul, nI_eqz, nI_eqq, nI_ltq, nI_ltz, nI_zlt, nI_nm1, nI_m2, m1_z, m1_lt0, m1_m1, b2_z, nI1_z, nI0_z, tb_0, tb_1, ite_nI, I_at, I_ne, J_at, J_ne, J_setI, I_setJ, ↓reduceIte, ltN_T, ltN_F, eqN_T, eqN_F, pow8, pow5, b2_f0, b2_t0, reduceCtorEq, Bool.false_eq_true, Bool.true_eq_false, eq_self, false_and, true_and, and_false, and_true, not_false_eq_true, not_true_eq_false, h0, cK]
theorem kd3_u (a : AOK A) {i j : Nat} (hi : i < nT A) (hj : j < nT A) (h1 : kd A i = 3) (h2 : kd A j = 3) : i = j := by
  have hc := a.2.2.1.2.2.2
  unfold cK at hc
  rcases Nat.lt_trichotomy i j with h | h | h
  · have q1 := cnt_lt h h1
    have q2 := cnt_lt hj h2
    omega
  · exact h
  · have q1 := cnt_lt h h2
    have q2 := cnt_lt hi h1
    omega
theorem rnN_iff {so run n : Nat} : rnN A so run n = true ↔ ∃ i, i < n ∧ kd A i = 3 ∧ tc A i so run = true := by
  induction n with
  | zero => simp [rnN]
  | succ n ih =>
    rw [rnN, Bool.or_eq_true, Bool.and_eq_true, decide_eq_true_iff, ih]
    constructor
    · rintro (⟨i, h1, h2⟩ | h)
      · exact ⟨i, by omega, h2⟩
      · exact ⟨n, by omega, h⟩
    · rintro ⟨i, h1, h2⟩
      by_cases e : i = n
      · subst e; exact Or.inr h2
      · exact Or.inl ⟨i, by omega, h2⟩
theorem rn_at (a : AOK A) {r so run : Nat} (hr : r < nT A) (h3 : kd A r = 3) : rn A so run = tc A r so run := by
  cases e : tc A r so run with
  | true => exact rnN_iff.mpr ⟨r, hr, h3, e⟩
  | false =>
    cases e2 : rn A so run with
    | false => rfl
    | true =>
      obtain ⟨i, h1, h2, h4⟩ := rnN_iff.mp e2
      have := kd3_u a h1 hr h2 h3
      subst this
      rw [e] at h4; cases h4
theorem rn_no {so run : Nat} (h : ∀ i, i < nT A → kd A i ≠ 3) : rn A so run = false := by
  cases e2 : rn A so run with
  | false => rfl
  | true =>
    obtain ⟨i, h1, h2, -⟩ := rnN_iff.mp e2
    exact absurd h2 (h i h1)
theorem tb_n (x j : Nat) : x / 2 ^ j % 2 = if x.testBit j = true then 1 else 0 := by
  cases e : x.testBit j with
  | true =>
    rw [if_pos rfl]
    rw [← tb_1] at e
    exact e
  | false =>
    rw [if_neg (by simp)]
    rw [← tb_0] at e
    exact e
def RNv (A : AW) (v : Int32) : Prop := (v = -1 ∧ (∀ i, i < nT A → kd A i ≠ 3) ∧ cK A 3 = 0) ∨ ∃ r, r < nT A ∧ v = nI r ∧ kd A r = 3 ∧ 0 < cK A 3
theorem nowv_st {so so' run u : Nat} (h : so.testBit u = so'.testBit u) : nowv (kd A) so run u = nowv (kd A) so' run u := by unfold nowv; rw [h]
theorem soN_bit {f kept run i : Nat} : (soN A f kept run (i + 1)).testBit i = ts A f kept run i (soN A f kept run i) ∧ ∀ u, u < i → (soN A f kept run (i + 1)).testBit u = (soN A f kept run i).testBit u := by
  have hl := soN_lt (A := A) (f := f) (kept := kept) (run := run) i
  have h0 : (soN A f kept run i).testBit i = false := tb_lt hl (Nat.le_refl _)
  rw [soN]
  cases e : ts A f kept run i (soN A f kept run i) with
  | true =>
    rw [if_pos rfl]
    refine ⟨by rw [tb_set, h0]; simp, fun u hu => ?_⟩
    rw [tb_set, decide_eq_false (by omega)]; simp
  | false =>
    rw [if_neg (by simp)]
    exact ⟨h0, fun u _ => rfl⟩
theorem soN_rb {f kept run : Nat} : ∀ i, RBt (kd A) i (soN A f kept run i) run := by
  intro i
  induction i with
  | zero => intro u hu; omega
  | succ i ih =>
    intro u hu h3
    obtain ⟨sb1, sb2⟩ := soN_bit (A := A) (f := f) (kept := kept) (run := run) (i := i)
    by_cases e : u = i
    · subst e
      rw [sb1]
      unfold ts
      rw [h3]
      simp
    · rw [sb2 u (by omega)]
      exact ih u (by omega) h3
theorem RBt_le {kf : Nat → Nat} {n m so run : Nat} (h : RBt kf n so run) (hm : m ≤ n) : RBt kf m so run := fun u hu => h u (by omega)
theorem t_things (a : AOK A) (m : MR A σ) {mm f kept run : Nat} (h3 : kept < 32) (h4 : run < 8) (hf : f < 4) {k : Int32 → Int32 → Int32 → Int32 → ST → Option ST} : ∃ s, f_X12_makeMoments_133 k FU (nI mm) (nI kept) (nI run) (nI f) (nI 0) (nI 0) (nI 0) (nI 0) σ = k (nI mm) (nI kept) (nI run) (nI (so A f kept run)) s ∧ Fm (fun y => y = 266) σ s ∧ s.1 247 = σ.1 247 ∧ ∀ u, u < nT A → s.1 266 u = nI (nowv (kd A) (so A f kept run) run u) := by
  have hT := a.1.1
  refine loopE (fun n i s => f_X12_makeMoments_133 k n (nI mm) (nI kept) (nI run) (nI f) (nI (soN A f kept run i)) (nI (cnt (kd A) 1 i)) (nI (cnt (kd A) 0 i)) (nI i) s) (nT A) (fun i s => Fm (fun y => y = 266) σ s ∧ s.1 247 = σ.1 247 ∧ ∀ u, u < i → s.1 266 u = nI (nowv (kd A) (soN A f kept run i) run u)) (fun s => k (nI mm) (nI kept) (nI run) (nI (so A f kept run)) s) ?_ ?_ FU 0 σ (by rw [FU_eq]; omega) (Nat.zero_le _) ⟨Fm.rf _ _, rfl, fun u hu => by omega⟩
  · rintro n i s hi ⟨hF, h7, hv⟩ Q hQ
    have m' := MR_fm m hF (fun y hy => by omega)
    have m0 := m'.1.1
    obtain ⟨mk, mt⟩ := m'.2.1 i hi
    have hk3 := a.2.1 i hi
    have hsl := soN_lt (A := A) (f := f) (kept := kept) (run := run) i
    have hs10 : soN A f kept run i < 1024 := Nat.lt_of_lt_of_le hsl (two_le (m := 10) (by omega))
    obtain ⟨sb1, sb2⟩ := soN_bit (A := A) (f := f) (kept := kept) (run := run) (i := i)
    have hc1 := cnt_le (kd A) 1 i
    have hc0 := cnt_le (kd A) 0 i
    have fin : ∀ v : Nat, v = nowv (kd A) (soN A f kept run (i + 1)) run i → Q (setI s 266 i (nI v)) := by
      intro v hv2
      refine hQ _ ⟨hF.tr (Fm_set rfl (by omega)), by rw [← h7]; funext j; exact I_ne (Or.inl (by omega)), fun u hu => ?_⟩
      by_cases e : u = i
      · subst e; rw [I_at, hv2]
      · rw [I_ne (Or.inr e), hv u (by omega)]
        exact congrArg nI (nowv_st (sb2 u (by omega)).symm)
    show ∃ y, f_X12_makeMoments_133 k (n + 1) (nI mm) (nI kept) (nI run) (nI f) (nI (soN A f kept run i)) (nI (cnt (kd A) 1 i)) (nI (cnt (kd A) 0 i)) (nI i) s = f_X12_makeMoments_133 k n (nI mm) (nI kept) (nI run) (nI f) (nI (soN A f kept run (i + 1))) (nI (cnt (kd A) 1 (i + 1))) (nI (cnt (kd A) 0 (i + 1))) (nI (i + 1)) y ∧ _
    rw [f_X12_makeMoments_133]
    have hor : nI (soN A f kept run i) ||| nI (2 ^ i) = nI (soN A f kept run i ||| 2 ^ i) := nI_or _ _
    rcases (show kd A i = 0 ∨ kd A i = 1 ∨ kd A i = 2 ∨ kd A i = 3 by omega) with e | e | e | e
    · have ets : ts A f kept run i (soN A f kept run i) = f.testBit (cnt (kd A) 0 i) := by unfold ts pl; rw [e]; simp
      have en : nowv (kd A) (soN A f kept run (i + 1)) run i = if f.testBit (cnt (kd A) 0 i) = true then 1 else 0 := by unfold nowv; rw [e, sb1, ets]; simp
      rw [cnt, cnt, soN, ets, if_neg (show ¬ kd A i = 1 by omega), if_pos e]
      simp (disch := omega) only [bind_s, bd2_s, rdI_ok, rdJ_ok, rdT_ok, ixR_ok, wrI_ok, wrJ_ok, wrT_none, pfI_s, pfJ_s, pfZ_0, pfZ_1, zr_b2, nl_n, nl_s, nI_add, nI_mul, nI_sub, nI_shlm, nI_shrd, nI_or8, nI_or8r, nI_or5r, nI_and255, nI_and31, nI_and7, nI_and1, nI_andK, nI_clr, Nat.one_mul, nI_eqz, nI_eqq, nI_ltq, nI_ltz, nI_zlt, nI_nm1, nI_m2, m1_z, m1_lt0, m1_m1, b2_z, nI1_z, nI0_z, tb_0, tb_1, ite_nI, I_at, I_ne, J_at, J_ne, J_setI, I_setJ, ↓reduceIte, ltN_T, ltN_F, eqN_T, eqN_F, pow8, pow5, b2_f0, b2_t0, reduceCtorEq, Bool.false_eq_true, Bool.true_eq_false, eq_self, false_and, true_and, and_false, and_true, not_false_eq_true, not_true_eq_false, m0, mk, e]
      rw [f_X12_makeMoments_259]
      have ebn := tb_n f (cnt (kd A) 0 i)
      cases eb : f.testBit (cnt (kd A) 0 i) with
      | true =>
        rw [eb] at ebn en
        simp (disch := omega) only [bind_s, bd2_s, rdI_ok, rdJ_ok, rdT_ok, ixR_ok, wrI_ok, wrJ_ok, wrT_none, pfI_s, pfJ_s, pfZ_0, pfZ_1, zr_b2, nl_n, nl_s, nI_add, nI_mul, nI_sub, nI_shlm, nI_shrd, nI_or8, nI_or8r, nI_or5r, nI_and255, nI_and31, nI_and7, nI_and1, nI_andK, nI_clr, Nat.one_mul, nI_eqz, nI_eqq, nI_ltq, nI_ltz, nI_zlt, nI_nm1, nI_m2, m1_z, m1_lt0, m1_m1, b2_z, nI1_z, nI0_z, tb_0, tb_1, ite_nI, I_at, I_ne, J_at, J_ne, J_setI, I_setJ, ↓reduceIte, ltN_T, ltN_F, eqN_T, eqN_F, pow8, pow5, b2_f0, b2_t0, reduceCtorEq, Bool.false_eq_true, Bool.true_eq_false, eq_self, false_and, true_and, and_false, and_true, not_false_eq_true, not_true_eq_false, ebn, hor]
        exact ⟨_, rfl, fin 1 (by rw [en]; rfl)⟩
      | false =>
        rw [eb] at ebn en
        simp (disch := omega) only [bind_s, bd2_s, rdI_ok, rdJ_ok, rdT_ok, ixR_ok, wrI_ok, wrJ_ok, wrT_none, pfI_s, pfJ_s, pfZ_0, pfZ_1, zr_b2, nl_n, nl_s, nI_add, nI_mul, nI_sub, nI_shlm, nI_shrd, nI_or8, nI_or8r, nI_or5r, nI_and255, nI_and31, nI_and7, nI_and1, nI_andK, nI_clr, Nat.one_mul, nI_eqz, nI_eqq, nI_ltq, nI_ltz, nI_zlt, nI_nm1, nI_m2, m1_z, m1_lt0, m1_m1, b2_z, nI1_z, nI0_z, tb_0, tb_1, ite_nI, I_at, I_ne, J_at, J_ne, J_setI, I_setJ, ↓reduceIte, ltN_T, ltN_F, eqN_T, eqN_F, pow8, pow5, b2_f0, b2_t0, reduceCtorEq, Bool.false_eq_true, Bool.true_eq_false, eq_self, false_and, true_and, and_false, and_true, not_false_eq_true, not_true_eq_false, ebn]
        exact ⟨_, rfl, fin 0 (by rw [en]; rfl)⟩
    · have ets : ts A f kept run i (soN A f kept run i) = kept.testBit (cnt (kd A) 1 i) := by unfold ts pl; rw [e]; simp
      have en : nowv (kd A) (soN A f kept run (i + 1)) run i = if kept.testBit (cnt (kd A) 1 i) = true then 1 else 0 := by unfold nowv; rw [e, sb1, ets]; simp
      rw [cnt, cnt, soN, ets, if_neg (show ¬ kd A i = 0 by omega), if_pos e]
      simp (disch := omega) only [bind_s, bd2_s, rdI_ok, rdJ_ok, rdT_ok, ixR_ok, wrI_ok, wrJ_ok, wrT_none, pfI_s, pfJ_s, pfZ_0, pfZ_1, zr_b2, nl_n, nl_s, nI_add, nI_mul, nI_sub, nI_shlm, nI_shrd, nI_or8, nI_or8r, nI_or5r, nI_and255, nI_and31, nI_and7, nI_and1, nI_andK, nI_clr, Nat.one_mul, nI_eqz, nI_eqq, nI_ltq, nI_ltz, nI_zlt, nI_nm1, nI_m2, m1_z, m1_lt0, m1_m1, b2_z, nI1_z, nI0_z, tb_0, tb_1, ite_nI, I_at, I_ne, J_at, J_ne, J_setI, I_setJ, ↓reduceIte, ltN_T, ltN_F, eqN_T, eqN_F, pow8, pow5, b2_f0, b2_t0, reduceCtorEq, Bool.false_eq_true, Bool.true_eq_false, eq_self, false_and, true_and, and_false, and_true, not_false_eq_true, not_true_eq_false, m0, mk, e]
      rw [f_X12_makeMoments_259]
      have ebn := tb_n kept (cnt (kd A) 1 i)
      cases eb : kept.testBit (cnt (kd A) 1 i) with
      | true =>
        rw [eb] at ebn en
        simp (disch := omega) only [bind_s, bd2_s, rdI_ok, rdJ_ok, rdT_ok, ixR_ok, wrI_ok, wrJ_ok, wrT_none, pfI_s, pfJ_s, pfZ_0, pfZ_1, zr_b2, nl_n, nl_s, nI_add, nI_mul, nI_sub, nI_shlm, nI_shrd, nI_or8, nI_or8r, nI_or5r, nI_and255, nI_and31, nI_and7, nI_and1, nI_andK, nI_clr, Nat.one_mul, nI_eqz, nI_eqq, nI_ltq, nI_ltz, nI_zlt, nI_nm1, nI_m2, m1_z, m1_lt0, m1_m1, b2_z, nI1_z, nI0_z, tb_0, tb_1, ite_nI, I_at, I_ne, J_at, J_ne, J_setI, I_setJ, ↓reduceIte, ltN_T, ltN_F, eqN_T, eqN_F, pow8, pow5, b2_f0, b2_t0, reduceCtorEq, Bool.false_eq_true, Bool.true_eq_false, eq_self, false_and, true_and, and_false, and_true, not_false_eq_true, not_true_eq_false, ebn, hor]
        exact ⟨_, rfl, fin 1 (by rw [en]; rfl)⟩
      | false =>
        rw [eb] at ebn en
        simp (disch := omega) only [bind_s, bd2_s, rdI_ok, rdJ_ok, rdT_ok, ixR_ok, wrI_ok, wrJ_ok, wrT_none, pfI_s, pfJ_s, pfZ_0, pfZ_1, zr_b2, nl_n, nl_s, nI_add, nI_mul, nI_sub, nI_shlm, nI_shrd, nI_or8, nI_or8r, nI_or5r, nI_and255, nI_and31, nI_and7, nI_and1, nI_andK, nI_clr, Nat.one_mul, nI_eqz, nI_eqq, nI_ltq, nI_ltz, nI_zlt, nI_nm1, nI_m2, m1_z, m1_lt0, m1_m1, b2_z, nI1_z, nI0_z, tb_0, tb_1, ite_nI, I_at, I_ne, J_at, J_ne, J_setI, I_setJ, ↓reduceIte, ltN_T, ltN_F, eqN_T, eqN_F, pow8, pow5, b2_f0, b2_t0, reduceCtorEq, Bool.false_eq_true, Bool.true_eq_false, eq_self, false_and, true_and, and_false, and_true, not_false_eq_true, not_true_eq_false, ebn]
        exact ⟨_, rfl, fin 0 (by rw [en]; rfl)⟩
    · have ets : ts A f kept run i (soN A f kept run i) = tc A i (soN A f kept run i) run := by unfold ts; rw [e]; simp
      have en : nowv (kd A) (soN A f kept run (i + 1)) run i = if tc A i (soN A f kept run i) run = true then 1 else 0 := by unfold nowv; rw [e, sb1, ets]; simp
      obtain ⟨len, l1, l2, tm⟩ := mt (by omega)
      have hh := tm 250 600 (60 * i) s (soN A f kept run i) run hs10 h4 (by omega) (by omega) (soN_rb i) (fun j _ => rfl) hv
      rw [cnt, cnt, soN, ets, if_neg (show ¬ kd A i = 0 by omega), if_neg (show ¬ kd A i = 1 by omega)]
      simp (disch := omega) only [bind_s, bd2_s, rdI_ok, rdJ_ok, rdT_ok, ixR_ok, wrI_ok, wrJ_ok, wrT_none, pfI_s, pfJ_s, pfZ_0, pfZ_1, zr_b2, nl_n, nl_s, nI_add, nI_mul, nI_sub, nI_shlm, nI_shrd, nI_or8, nI_or8r, nI_or5r, nI_and255, nI_and31, nI_and7, nI_and1, nI_andK, nI_clr, Nat.one_mul, nI_eqz, nI_eqq, nI_ltq, nI_ltz, nI_zlt, nI_nm1, nI_m2, m1_z, m1_lt0, m1_m1, b2_z, nI1_z, nI0_z, tb_0, tb_1, ite_nI, I_at, I_ne, J_at, J_ne, J_setI, I_setJ, ↓reduceIte, ltN_T, ltN_F, eqN_T, eqN_F, pow8, pow5, b2_f0, b2_t0, reduceCtorEq, Bool.false_eq_true, Bool.true_eq_false, eq_self, false_and, true_and, and_false, and_true, not_false_eq_true, not_true_eq_false, m0, mk, e, l2, hh]
      cases eb : tc A i (soN A f kept run i) run with
      | true =>
        rw [eb] at en
        simp (disch := omega) only [bind_s, bd2_s, rdI_ok, rdJ_ok, rdT_ok, ixR_ok, wrI_ok, wrJ_ok, wrT_none, pfI_s, pfJ_s, pfZ_0, pfZ_1, zr_b2, nl_n, nl_s, nI_add, nI_mul, nI_sub, nI_shlm, nI_shrd, nI_or8, nI_or8r, nI_or5r, nI_and255, nI_and31, nI_and7, nI_and1, nI_andK, nI_clr, Nat.one_mul, nI_eqz, nI_eqq, nI_ltq, nI_ltz, nI_zlt, nI_nm1, nI_m2, m1_z, m1_lt0, m1_m1, b2_z, nI1_z, nI0_z, tb_0, tb_1, ite_nI, I_at, I_ne, J_at, J_ne, J_setI, I_setJ, ↓reduceIte, ltN_T, ltN_F, eqN_T, eqN_F, pow8, pow5, b2_f0, b2_t0, reduceCtorEq, Bool.false_eq_true, Bool.true_eq_false, eq_self, false_and, true_and, and_false, and_true, not_false_eq_true, not_true_eq_false]
        rw [f_X12_makeMoments_258]
        simp (disch := omega) only [bind_s, bd2_s, rdI_ok, rdJ_ok, rdT_ok, ixR_ok, wrI_ok, wrJ_ok, wrT_none, pfI_s, pfJ_s, pfZ_0, pfZ_1, zr_b2, nl_n, nl_s, nI_add, nI_mul, nI_sub, nI_shlm, nI_shrd, nI_or8, nI_or8r, nI_or5r, nI_and255, nI_and31, nI_and7, nI_and1, nI_andK, nI_clr, Nat.one_mul, nI_eqz, nI_eqq, nI_ltq, nI_ltz, nI_zlt, nI_nm1, nI_m2, m1_z, m1_lt0, m1_m1, b2_z, nI1_z, nI0_z, tb_0, tb_1, ite_nI, I_at, I_ne, J_at, J_ne, J_setI, I_setJ, ↓reduceIte, ltN_T, ltN_F, eqN_T, eqN_F, pow8, pow5, b2_f0, b2_t0, reduceCtorEq, Bool.false_eq_true, Bool.true_eq_false, eq_self, false_and, true_and, and_false, and_true, not_false_eq_true, not_true_eq_false]
        rw [f_X12_makeMoments_259]
        simp (disch := omega) only [bind_s, bd2_s, rdI_ok, rdJ_ok, rdT_ok, ixR_ok, wrI_ok, wrJ_ok, wrT_none, pfI_s, pfJ_s, pfZ_0, pfZ_1, zr_b2, nl_n, nl_s, nI_add, nI_mul, nI_sub, nI_shlm, nI_shrd, nI_or8, nI_or8r, nI_or5r, nI_and255, nI_and31, nI_and7, nI_and1, nI_andK, nI_clr, Nat.one_mul, nI_eqz, nI_eqq, nI_ltq, nI_ltz, nI_zlt, nI_nm1, nI_m2, m1_z, m1_lt0, m1_m1, b2_z, nI1_z, nI0_z, tb_0, tb_1, ite_nI, I_at, I_ne, J_at, J_ne, J_setI, I_setJ, ↓reduceIte, ltN_T, ltN_F, eqN_T, eqN_F, pow8, pow5, b2_f0, b2_t0, reduceCtorEq, Bool.false_eq_true, Bool.true_eq_false, eq_self, false_and, true_and, and_false, and_true, not_false_eq_true, not_true_eq_false, hor]
        exact ⟨_, rfl, fin 1 (by rw [en]; rfl)⟩
      | false =>
        rw [eb] at en
        simp (disch := omega) only [bind_s, bd2_s, rdI_ok, rdJ_ok, rdT_ok, ixR_ok, wrI_ok, wrJ_ok, wrT_none, pfI_s, pfJ_s, pfZ_0, pfZ_1, zr_b2, nl_n, nl_s, nI_add, nI_mul, nI_sub, nI_shlm, nI_shrd, nI_or8, nI_or8r, nI_or5r, nI_and255, nI_and31, nI_and7, nI_and1, nI_andK, nI_clr, Nat.one_mul, nI_eqz, nI_eqq, nI_ltq, nI_ltz, nI_zlt, nI_nm1, nI_m2, m1_z, m1_lt0, m1_m1, b2_z, nI1_z, nI0_z, tb_0, tb_1, ite_nI, I_at, I_ne, J_at, J_ne, J_setI, I_setJ, ↓reduceIte, ltN_T, ltN_F, eqN_T, eqN_F, pow8, pow5, b2_f0, b2_t0, reduceCtorEq, Bool.false_eq_true, Bool.true_eq_false, eq_self, false_and, true_and, and_false, and_true, not_false_eq_true, not_true_eq_false]
        rw [f_X12_makeMoments_258]
        simp (disch := omega) only [bind_s, bd2_s, rdI_ok, rdJ_ok, rdT_ok, ixR_ok, wrI_ok, wrJ_ok, wrT_none, pfI_s, pfJ_s, pfZ_0, pfZ_1, zr_b2, nl_n, nl_s, nI_add, nI_mul, nI_sub, nI_shlm, nI_shrd, nI_or8, nI_or8r, nI_or5r, nI_and255, nI_and31, nI_and7, nI_and1, nI_andK, nI_clr, Nat.one_mul, nI_eqz, nI_eqq, nI_ltq, nI_ltz, nI_zlt, nI_nm1, nI_m2, m1_z, m1_lt0, m1_m1, b2_z, nI1_z, nI0_z, tb_0, tb_1, ite_nI, I_at, I_ne, J_at, J_ne, J_setI, I_setJ, ↓reduceIte, ltN_T, ltN_F, eqN_T, eqN_F, pow8, pow5, b2_f0, b2_t0, reduceCtorEq, Bool.false_eq_true, Bool.true_eq_false, eq_self, false_and, true_and, and_false, and_true, not_false_eq_true, not_true_eq_false]
        rw [f_X12_makeMoments_259]
        simp (disch := omega) only [bind_s, bd2_s, rdI_ok, rdJ_ok, rdT_ok, ixR_ok, wrI_ok, wrJ_ok, wrT_none, pfI_s, pfJ_s, pfZ_0, pfZ_1, zr_b2, nl_n, nl_s, nI_add, nI_mul, nI_sub, nI_shlm, nI_shrd, nI_or8, nI_or8r, nI_or5r, nI_and255, nI_and31, nI_and7, nI_and1, nI_andK, nI_clr, Nat.one_mul, nI_eqz, nI_eqq, nI_ltq, nI_ltz, nI_zlt, nI_nm1, nI_m2, m1_z, m1_lt0, m1_m1, b2_z, nI1_z, nI0_z, tb_0, tb_1, ite_nI, I_at, I_ne, J_at, J_ne, J_setI, I_setJ, ↓reduceIte, ltN_T, ltN_F, eqN_T, eqN_F, pow8, pow5, b2_f0, b2_t0, reduceCtorEq, Bool.false_eq_true, Bool.true_eq_false, eq_self, false_and, true_and, and_false, and_true, not_false_eq_true, not_true_eq_false]
        exact ⟨_, rfl, fin 0 (by rw [en]; rfl)⟩
    · have ets : ts A f kept run i (soN A f kept run i) = decide (0 < run) := by unfold ts; rw [e]; simp
      have en : nowv (kd A) (soN A f kept run (i + 1)) run i = run := by unfold nowv; rw [if_pos e]
      rw [cnt, cnt, soN, ets, if_neg (show ¬ kd A i = 0 by omega), if_neg (show ¬ kd A i = 1 by omega)]
      simp (disch := omega) only [bind_s, bd2_s, rdI_ok, rdJ_ok, rdT_ok, ixR_ok, wrI_ok, wrJ_ok, wrT_none, pfI_s, pfJ_s, pfZ_0, pfZ_1, zr_b2, nl_n, nl_s, nI_add, nI_mul, nI_sub, nI_shlm, nI_shrd, nI_or8, nI_or8r, nI_or5r, nI_and255, nI_and31, nI_and7, nI_and1, nI_andK, nI_clr, Nat.one_mul, nI_eqz, nI_eqq, nI_ltq, nI_ltz, nI_zlt, nI_nm1, nI_m2, m1_z, m1_lt0, m1_m1, b2_z, nI1_z, nI0_z, tb_0, tb_1, ite_nI, I_at, I_ne, J_at, J_ne, J_setI, I_setJ, ↓reduceIte, ltN_T, ltN_F, eqN_T, eqN_F, pow8, pow5, b2_f0, b2_t0, reduceCtorEq, Bool.false_eq_true, Bool.true_eq_false, eq_self, false_and, true_and, and_false, and_true, not_false_eq_true, not_true_eq_false, m0, mk, e]
      rw [f_X12_makeMoments_259]
      by_cases hr : 0 < run
      · simp (disch := omega) only [bind_s, bd2_s, rdI_ok, rdJ_ok, rdT_ok, ixR_ok, wrI_ok, wrJ_ok, wrT_none, pfI_s, pfJ_s, pfZ_0, pfZ_1, zr_b2, nl_n, nl_s, nI_add, nI_mul, nI_sub, nI_shlm, nI_shrd, nI_or8, nI_or8r, nI_or5r, nI_and255, nI_and31, nI_and7, nI_and1, nI_andK, nI_clr, Nat.one_mul, nI_eqz, nI_eqq, nI_ltq, nI_ltz, nI_zlt, nI_nm1, nI_m2, m1_z, m1_lt0, m1_m1, b2_z, nI1_z, nI0_z, tb_0, tb_1, ite_nI, I_at, I_ne, J_at, J_ne, J_setI, I_setJ, ↓reduceIte, ltN_T, ltN_F, eqN_T, eqN_F, pow8, pow5, b2_f0, b2_t0, reduceCtorEq, Bool.false_eq_true, Bool.true_eq_false, eq_self, false_and, true_and, and_false, and_true, not_false_eq_true, not_true_eq_false, hr, hor, decide_true]
        exact ⟨_, rfl, fin run en.symm⟩
      · simp (disch := omega) only [bind_s, bd2_s, rdI_ok, rdJ_ok, rdT_ok, ixR_ok, wrI_ok, wrJ_ok, wrT_none, pfI_s, pfJ_s, pfZ_0, pfZ_1, zr_b2, nl_n, nl_s, nI_add, nI_mul, nI_sub, nI_shlm, nI_shrd, nI_or8, nI_or8r, nI_or5r, nI_and255, nI_and31, nI_and7, nI_and1, nI_andK, nI_clr, Nat.one_mul, nI_eqz, nI_eqq, nI_ltq, nI_ltz, nI_zlt, nI_nm1, nI_m2, m1_z, m1_lt0, m1_m1, b2_z, nI1_z, nI0_z, tb_0, tb_1, ite_nI, I_at, I_ne, J_at, J_ne, J_setI, I_setJ, ↓reduceIte, ltN_T, ltN_F, eqN_T, eqN_F, pow8, pow5, b2_f0, b2_t0, reduceCtorEq, Bool.false_eq_true, Bool.true_eq_false, eq_self, false_and, true_and, and_false, and_true, not_false_eq_true, not_true_eq_false, hr, decide_false]
        exact ⟨_, rfl, fin run en.symm⟩
  · rintro n s ⟨hF, -, -⟩
    have m0 := (MR_fm m hF (fun y hy => by omega)).1.1
    show f_X12_makeMoments_133 k (n + 1) _ _ _ _ _ _ _ (nI (nT A)) s = _
    rw [f_X12_makeMoments_133]
    simp (disch := omega) only [bind_s, bd2_s, rdI_ok, rdJ_ok, rdT_ok, ixR_ok, wrI_ok, wrJ_ok, wrT_none, pfI_s, pfJ_s, pfZ_0, pfZ_1, zr_b2, nl_n, nl_s, nI_add, nI_mul, nI_sub, nI_shlm, nI_shrd, nI_or8, nI_or8r, nI_or5r, nI_and255, nI_and31, nI_and7, nI_and1, nI_andK, nI_clr, Nat.one_mul, nI_eqz, nI_eqq, nI_ltq, nI_ltz, nI_zlt, nI_nm1, nI_m2, m1_z, m1_lt0, m1_m1, b2_z, nI1_z, nI0_z, tb_0, tb_1, ite_nI, I_at, I_ne, J_at, J_ne, J_setI, I_setJ, ↓reduceIte, ltN_T, ltN_F, eqN_T, eqN_F, pow8, pow5, b2_f0, b2_t0, reduceCtorEq, Bool.false_eq_true, Bool.true_eq_false, eq_self, false_and, true_and, and_false, and_true, not_false_eq_true, not_true_eq_false, m0]
    rfl
/-- what the happenings do at a moment -/
def NXm (A : AW) (so kept run a : Nat) : Nat := nxk A so kept run a + 32 * nxr A so run a
theorem t_acts (a : AOK A) (m : MR A σ) {mm so kept run : Nat} (hso : so < 1024) (h3 : kept < 2 ^ cK A 1) (h4 : run < 8) (hm : mm < 1024) (hrb : RBt (kd A) (nT A) so run) (hn : ∀ u, u < nT A → σ.1 266 u = nI (nowv (kd A) so run u)) {k : Int32 → ST → Option ST} : ∃ s, f_X12_makeMoments_338 k (nI mm) (nI kept) (nI (th A so run)) σ = k (nI (mm + 1)) s ∧ Fm (fun y => y = 268 ∨ y = 269) σ s ∧ s.1 247 = σ.1 247 ∧ (∀ j, j ≠ mm → s.1 268 j = σ.1 268 j) ∧ (∀ j, j < 7 * mm ∨ 7 * mm + 7 ≤ j → s.1 269 j = σ.1 269 j) ∧ s.1 268 mm = nI (msk (fun b => hc A b so run) (nH A)) ∧ ∀ b, b < nH A ∨ b = 6 → s.1 269 (7 * mm + b) = nI (NXm A so kept run b) := by
  have hH := a.1.2.1
  have hK := K32 a
  have hth : th A so run < 8 := by unfold th; split <;> omega
  have h6 : NXm A so kept run 6 = th A so run * 32 + kept := by
    unfold NXm nxk nxr
    rw [if_neg (fun w => by omega), if_neg (fun w => by omega)]
    omega
  unfold f_X12_makeMoments_338
  have hi6 : 7 * mm + 6 < 7168 := by omega
  simp (disch := omega) only [bind_s, bd2_s, rdI_ok, rdJ_ok, rdT_ok, ixR_ok, wrI_ok, wrJ_ok, wrT_none, pfI_s, pfJ_s, pfZ_0, pfZ_1, zr_b2, nl_n, nl_s, nI_add, nI_mul, nI_sub, nI_shlm, nI_shrd, nI_or8, nI_or8r, nI_or5r, nI_and255, nI_and31, nI_and7, nI_and1, nI_andK, nI_clr, Nat.one_mul, nI_eqz, nI_eqq, nI_ltq, nI_ltz, nI_zlt, nI_nm1, nI_m2, m1_z, m1_lt0, m1_m1, b2_z, nI1_z, nI0_z, tb_0, tb_1, ite_nI, I_at, I_ne, J_at, J_ne, J_setI, I_setJ, ↓reduceIte, ltN_T, ltN_F, eqN_T, eqN_F, pow8, pow5, b2_f0, b2_t0, reduceCtorEq, Bool.false_eq_true, Bool.true_eq_false, eq_self, false_and, true_and, and_false, and_true, not_false_eq_true, not_true_eq_false]
  refine Exists.elim (loopE (fun n i s => f_X12_makeMoments_366 (fun x1_42 s43 => k (x1_42 + nI 1) s43) n (nI mm) (nI kept) (nI (th A so run)) (nI i) s) (nH A) (fun i s => Fm (fun y => y = 268 ∨ y = 269) σ s ∧ s.1 247 = σ.1 247 ∧ (∀ j, j ≠ mm → s.1 268 j = σ.1 268 j) ∧ (∀ j, j < 7 * mm ∨ 7 * mm + 7 ≤ j → s.1 269 j = σ.1 269 j) ∧ s.1 268 mm = nI (msk (fun b => hc A b so run) i) ∧ (∀ b, b < i ∨ b = 6 → s.1 269 (7 * mm + b) = nI (NXm A so kept run b))) (fun s => k (nI mm + nI 1) s) ?_ ?_ FU 0 (setI (setI σ 268 mm (nI 0)) 269 (7 * mm + 6) (nI (th A so run * 32 + kept))) (by rw [FU_eq]; omega) (Nat.zero_le _) ⟨(Fm_set (Or.inl rfl) (by omega)).tr (Fm_set (Or.inr rfl) (by omega)), ?_, fun j hj => by rw [I_ne (Or.inl (by omega)), I_ne (Or.inr hj)], fun j hj => by rw [I_ne (Or.inr (by omega)), I_ne (Or.inl (by omega))], by rw [I_ne (Or.inl (by omega)), I_at]; rfl, fun b hb => ?_⟩) ?_
  · rintro n i s hi ⟨hF, h7, o8, o9, v8, v9⟩ Q hQ
    have m' := MR_fm m hF (fun y hy => by omega)
    have m4 := m'.1.2.1
    obtain ⟨len, l1, l2, tm, te, t58, -, -⟩ := m'.2.2.1 i hi
    have hn' : ∀ u, u < nT A → s.1 266 u = nI (nowv (kd A) so run u) := fun u hu => by rw [hF.I (by omega) (by omega)]; exact hn u hu
    have hh := tm 252 360 (60 * i) s so run hso h4 (by omega) (by omega) hrb (fun j _ => rfl) hn'
    have he := te s i kept (th A so run) (by omega) (by omega) hth l2 (fun j _ => rfl) (fun u hu => (m'.2.1 u hu).1)
    have e6 := v9 6 (Or.inr rfl)
    have hix : 7 * mm + i < 7168 := by omega
    have hml := msk_lt (fun b => hc A b so run) i
    have hnx : NXm A so kept run i = if hc A i so run = true then ef (lwb A i) (lwe A i) kept + 32 * (if lws A i = 1 then 0 else th A so run) else NXm A so kept run 6 := by
      unfold NXm nxk nxr
      cases hcc : hc A i so run with
      | true => simp [hi]
      | false =>
        rw [if_neg (fun w => by cases w.2), if_neg (fun w => by cases w.2.1), if_neg (by simp), if_neg (fun w => by omega), if_neg (fun w => by omega)]
    -- both ends
    have yes : hc A i so run = true → ∃ y, f_X12_makeMoments_418 (f_X12_makeMoments_366 (fun x1_42 s43 => k (x1_42 + nI 1) s43) n) (nI mm) (nI kept) (nI (th A so run)) (nI i) (nI 1) s = f_X12_makeMoments_366 (fun x1_42 s43 => k (x1_42 + nI 1) s43) n (nI mm) (nI kept) (nI (th A so run)) (nI (i + 1)) y ∧ Q y := by
      intro hcc
      rw [hcc, if_pos rfl] at hnx
      have hor : nI (msk (fun b => hc A b so run) i) ||| nI (2 ^ i) = nI (msk (fun b => hc A b so run) i ||| 2 ^ i) := nI_or _ _
      have FS : Fm (fun y => y = 268 ∨ y = 269) s (setI s 268 mm (nI (msk (fun b => hc A b so run) i ||| 2 ^ i))) := Fm_set (Or.inl rfl) (by omega)
      have ms := MR_fm m' FS (fun y hy => by omega)
      obtain ⟨len', l1', l2', -, te', -⟩ := ms.2.2.1 i hi
      have he' := te' (setI s 268 mm (nI (msk (fun b => hc A b so run) i ||| 2 ^ i))) i kept (th A so run) (by omega) (by omega) hth l2' (fun j _ => rfl) (fun u hu => (ms.2.1 u hu).1)
      rw [f_X12_makeMoments_418]
      simp (disch := omega) only [bind_s, bd2_s, rdI_ok, rdJ_ok, rdT_ok, ixR_ok, wrI_ok, wrJ_ok, wrT_none, pfI_s, pfJ_s, pfZ_0, pfZ_1, zr_b2, nl_n, nl_s, nI_add, nI_mul, nI_sub, nI_shlm, nI_shrd, nI_or8, nI_or8r, nI_or5r, nI_and255, nI_and31, nI_and7, nI_and1, nI_andK, nI_clr, Nat.one_mul, nI_eqz, nI_eqq, nI_ltq, nI_ltz, nI_zlt, nI_nm1, nI_m2, m1_z, m1_lt0, m1_m1, b2_z, nI1_z, nI0_z, tb_0, tb_1, ite_nI, I_at, I_ne, J_at, J_ne, J_setI, I_setJ, ↓reduceIte, ltN_T, ltN_F, eqN_T, eqN_F, pow8, pow5, b2_f0, b2_t0, reduceCtorEq, Bool.false_eq_true, Bool.true_eq_false, eq_self, false_and, true_and, and_false, and_true, not_false_eq_true, not_true_eq_false, v8, hor]
      rw [f_X12_makeMoments_438]
      simp (disch := omega) only [bind_s, bd2_s, rdI_ok, rdJ_ok, rdT_ok, ixR_ok, wrI_ok, wrJ_ok, wrT_none, pfI_s, pfJ_s, pfZ_0, pfZ_1, zr_b2, nl_n, nl_s, nI_add, nI_mul, nI_sub, nI_shlm, nI_shrd, nI_or8, nI_or8r, nI_or5r, nI_and255, nI_and31, nI_and7, nI_and1, nI_andK, nI_clr, Nat.one_mul, nI_eqz, nI_eqq, nI_ltq, nI_ltz, nI_zlt, nI_nm1, nI_m2, m1_z, m1_lt0, m1_m1, b2_z, nI1_z, nI0_z, tb_0, tb_1, ite_nI, I_at, I_ne, J_at, J_ne, J_setI, I_setJ, ↓reduceIte, ltN_T, ltN_F, eqN_T, eqN_F, pow8, pow5, b2_f0, b2_t0, reduceCtorEq, Bool.false_eq_true, Bool.true_eq_false, eq_self, false_and, true_and, and_false, and_true, not_false_eq_true, not_true_eq_false, he']
      refine ⟨_, rfl, hQ _ ⟨(hF.tr FS).tr (Fm_set (Or.inr rfl) (by omega)), ?_, fun j hj => ?_, fun j hj => ?_, ?_, fun b hb => ?_⟩⟩
      · rw [← h7]; funext j; rw [I_ne (Or.inl (by omega)), I_ne (Or.inl (by omega))]
      · rw [I_ne (Or.inl (by omega)), I_ne (Or.inr hj)]; exact o8 j hj
      · rw [I_ne (Or.inr (by omega)), I_ne (Or.inl (by omega))]; exact o9 j hj
      · rw [I_ne (Or.inl (by omega)), I_at, msk, if_pos hcc]
      · by_cases e : b = i
        · subst e; rw [I_at, hnx]
        · rw [I_ne (Or.inr (by omega)), I_ne (Or.inl (by omega))]; exact v9 b (by omega)
    have no : hc A i so run = false → ∃ y, f_X12_makeMoments_418 (f_X12_makeMoments_366 (fun x1_42 s43 => k (x1_42 + nI 1) s43) n) (nI mm) (nI kept) (nI (th A so run)) (nI i) (nI 0) s = f_X12_makeMoments_366 (fun x1_42 s43 => k (x1_42 + nI 1) s43) n (nI mm) (nI kept) (nI (th A so run)) (nI (i + 1)) y ∧ Q y := by
      intro hcc
      rw [hcc, if_neg (by simp)] at hnx
      rw [f_X12_makeMoments_418]
      simp (disch := omega) only [bind_s, bd2_s, rdI_ok, rdJ_ok, rdT_ok, ixR_ok, wrI_ok, wrJ_ok, wrT_none, pfI_s, pfJ_s, pfZ_0, pfZ_1, zr_b2, nl_n, nl_s, nI_add, nI_mul, nI_sub, nI_shlm, nI_shrd, nI_or8, nI_or8r, nI_or5r, nI_and255, nI_and31, nI_and7, nI_and1, nI_andK, nI_clr, Nat.one_mul, nI_eqz, nI_eqq, nI_ltq, nI_ltz, nI_zlt, nI_nm1, nI_m2, m1_z, m1_lt0, m1_m1, b2_z, nI1_z, nI0_z, tb_0, tb_1, ite_nI, I_at, I_ne, J_at, J_ne, J_setI, I_setJ, ↓reduceIte, ltN_T, ltN_F, eqN_T, eqN_F, pow8, pow5, b2_f0, b2_t0, reduceCtorEq, Bool.false_eq_true, Bool.true_eq_false, eq_self, false_and, true_and, and_false, and_true, not_false_eq_true, not_true_eq_false]
      rw [f_X12_makeMoments_438]
      simp (disch := omega) only [bind_s, bd2_s, rdI_ok, rdJ_ok, rdT_ok, ixR_ok, wrI_ok, wrJ_ok, wrT_none, pfI_s, pfJ_s, pfZ_0, pfZ_1, zr_b2, nl_n, nl_s, nI_add, nI_mul, nI_sub, nI_shlm, nI_shrd, nI_or8, nI_or8r, nI_or5r, nI_and255, nI_and31, nI_and7, nI_and1, nI_andK, nI_clr, Nat.one_mul, nI_eqz, nI_eqq, nI_ltq, nI_ltz, nI_zlt, nI_nm1, nI_m2, m1_z, m1_lt0, m1_m1, b2_z, nI1_z, nI0_z, tb_0, tb_1, ite_nI, I_at, I_ne, J_at, J_ne, J_setI, I_setJ, ↓reduceIte, ltN_T, ltN_F, eqN_T, eqN_F, pow8, pow5, b2_f0, b2_t0, reduceCtorEq, Bool.false_eq_true, Bool.true_eq_false, eq_self, false_and, true_and, and_false, and_true, not_false_eq_true, not_true_eq_false, e6]
      refine ⟨_, rfl, hQ _ ⟨hF.tr (Fm_set (Or.inr rfl) (by omega)), ?_, fun j hj => ?_, fun j hj => ?_, ?_, fun b hb => ?_⟩⟩
      · rw [← h7]; funext j; rw [I_ne (Or.inl (by omega))]
      · rw [I_ne (Or.inl (by omega))]; exact o8 j hj
      · rw [I_ne (Or.inr (by omega))]; exact o9 j hj
      · rw [I_ne (Or.inl (by omega)), msk, if_neg (by rw [hcc]; simp)]; exact v8
      · by_cases e : b = i
        · subst e; rw [I_at, hnx]
        · rw [I_ne (Or.inr (by omega))]; exact v9 b (by omega)
    show ∃ y, f_X12_makeMoments_366 (fun x1_42 s43 => k (x1_42 + nI 1) s43) (n + 1) (nI mm) (nI kept) (nI (th A so run)) (nI i) s = f_X12_makeMoments_366 (fun x1_42 s43 => k (x1_42 + nI 1) s43) n (nI mm) (nI kept) (nI (th A so run)) (nI (i + 1)) y ∧ _
    rw [f_X12_makeMoments_366]
    simp (disch := omega) only [bind_s, bd2_s, rdI_ok, rdJ_ok, rdT_ok, ixR_ok, wrI_ok, wrJ_ok, wrT_none, pfI_s, pfJ_s, pfZ_0, pfZ_1, zr_b2, nl_n, nl_s, nI_add, nI_mul, nI_sub, nI_shlm, nI_shrd, nI_or8, nI_or8r, nI_or5r, nI_and255, nI_and31, nI_and7, nI_and1, nI_andK, nI_clr, Nat.one_mul, nI_eqz, nI_eqq, nI_ltq, nI_ltz, nI_zlt, nI_nm1, nI_m2, m1_z, m1_lt0, m1_m1, b2_z, nI1_z, nI0_z, tb_0, tb_1, ite_nI, I_at, I_ne, J_at, J_ne, J_setI, I_setJ, ↓reduceIte, ltN_T, ltN_F, eqN_T, eqN_F, pow8, pow5, b2_f0, b2_t0, reduceCtorEq, Bool.false_eq_true, Bool.true_eq_false, eq_self, false_and, true_and, and_false, and_true, not_false_eq_true, not_true_eq_false, m4]
    by_cases e58 : s.1 252 (60 * i) = nI 58
    · have := yes (t58 e58 so run hso h4)
      rw [if_pos e58, f_X12_makeMoments_413]
      exact this
    · rw [if_neg e58]
      cases hcc : hc A i so run with
      | true =>
        rw [hcc] at hh
        simp (disch := omega) only [bind_s, bd2_s, rdI_ok, rdJ_ok, rdT_ok, ixR_ok, wrI_ok, wrJ_ok, wrT_none, pfI_s, pfJ_s, pfZ_0, pfZ_1, zr_b2, nl_n, nl_s, nI_add, nI_mul, nI_sub, nI_shlm, nI_shrd, nI_or8, nI_or8r, nI_or5r, nI_and255, nI_and31, nI_and7, nI_and1, nI_andK, nI_clr, Nat.one_mul, nI_eqz, nI_eqq, nI_ltq, nI_ltz, nI_zlt, nI_nm1, nI_m2, m1_z, m1_lt0, m1_m1, b2_z, nI1_z, nI0_z, tb_0, tb_1, ite_nI, I_at, I_ne, J_at, J_ne, J_setI, I_setJ, ↓reduceIte, ltN_T, ltN_F, eqN_T, eqN_F, pow8, pow5, b2_f0, b2_t0, reduceCtorEq, Bool.false_eq_true, Bool.true_eq_false, eq_self, false_and, true_and, and_false, and_true, not_false_eq_true, not_true_eq_false, l2, hh]
        rw [f_X12_makeMoments_413]
        exact yes hcc
      | false =>
        rw [hcc] at hh
        simp (disch := omega) only [bind_s, bd2_s, rdI_ok, rdJ_ok, rdT_ok, ixR_ok, wrI_ok, wrJ_ok, wrT_none, pfI_s, pfJ_s, pfZ_0, pfZ_1, zr_b2, nl_n, nl_s, nI_add, nI_mul, nI_sub, nI_shlm, nI_shrd, nI_or8, nI_or8r, nI_or5r, nI_and255, nI_and31, nI_and7, nI_and1, nI_andK, nI_clr, Nat.one_mul, nI_eqz, nI_eqq, nI_ltq, nI_ltz, nI_zlt, nI_nm1, nI_m2, m1_z, m1_lt0, m1_m1, b2_z, nI1_z, nI0_z, tb_0, tb_1, ite_nI, I_at, I_ne, J_at, J_ne, J_setI, I_setJ, ↓reduceIte, ltN_T, ltN_F, eqN_T, eqN_F, pow8, pow5, b2_f0, b2_t0, reduceCtorEq, Bool.false_eq_true, Bool.true_eq_false, eq_self, false_and, true_and, and_false, and_true, not_false_eq_true, not_true_eq_false, l2, hh]
        exact no hcc
  · rintro n s ⟨hF, -, -, -, -, -⟩
    have m4 := (MR_fm m hF (fun y hy => by omega)).1.2.1
    show f_X12_makeMoments_366 (fun x1_42 s43 => k (x1_42 + nI 1) s43) (n + 1) _ _ _ (nI (nH A)) s = _
    rw [f_X12_makeMoments_366]
    simp (disch := omega) only [bind_s, bd2_s, rdI_ok, rdJ_ok, rdT_ok, ixR_ok, wrI_ok, wrJ_ok, wrT_none, pfI_s, pfJ_s, pfZ_0, pfZ_1, zr_b2, nl_n, nl_s, nI_add, nI_mul, nI_sub, nI_shlm, nI_shrd, nI_or8, nI_or8r, nI_or5r, nI_and255, nI_and31, nI_and7, nI_and1, nI_andK, nI_clr, Nat.one_mul, nI_eqz, nI_eqq, nI_ltq, nI_ltz, nI_zlt, nI_nm1, nI_m2, m1_z, m1_lt0, m1_m1, b2_z, nI1_z, nI0_z, tb_0, tb_1, ite_nI, I_at, I_ne, J_at, J_ne, J_setI, I_setJ, ↓reduceIte, ltN_T, ltN_F, eqN_T, eqN_F, pow8, pow5, b2_f0, b2_t0, reduceCtorEq, Bool.false_eq_true, Bool.true_eq_false, eq_self, false_and, true_and, and_false, and_true, not_false_eq_true, not_true_eq_false, m4]
  · funext j; rw [I_ne (Or.inl (by omega)), I_ne (Or.inl (by omega))]
  · have : b = 6 := by omega
    subst this
    rw [I_at, h6]
  · rintro s ⟨e, i1, i2, i3, i4, i5, i6⟩
    rw [nI_add] at e
    exact ⟨s, e, i1, i2, i3, i4, i5, i6⟩
end
