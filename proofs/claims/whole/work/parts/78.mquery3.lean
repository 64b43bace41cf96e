section
/-! ===== the reference's questions: all, isOf, value ===== -/
variable {A : AW} {σ : ST} {S h : Nat} {x : Nat × Nat}
noncomputable def AL (A : AW) : Nat := msk (fun k => decide (pb A k = 0)) (nP A)
theorem AL_lt (a : AOK A) : AL A < 2 ^ 16 := Nat.lt_of_lt_of_le (msk_lt _ _) (Nat.pow_le_pow_right (by decide) a.1.2.2)
theorem nI_or_msk (a b : Nat) : nI a ||| nI b = nI (a ||| b) := nI_or _ _
theorem t_mall (a : AOK A) (m : MR A σ) : f_X12_all σ = some (nI (AL A), σ) := by
  have hP := a.1.2.2
  have e9 := m.1.2.2
  unfold f_X12_all
  refine Exists.elim (loopE (A := Int32) (fun n i y => f_X12_all_4 n y (nI i) σ) (nP A) (fun i y => y = nI (msk (fun k => decide (pb A k = 0)) i)) (fun y => some (y, σ)) ?_ ?_ FU 0 (nI 0) (by rw [FU_eq]; omega) (Nat.zero_le _) rfl) ?_
  · rintro n i y hi rfl Q hQ
    obtain ⟨-, -, -, -, -, -, m6⟩ := m.2.2.2.1 i hi
    have hb := (a.2.2.2.2.1 i hi)
    show ∃ y, f_X12_all_4 (n + 1) _ (nI i) σ = f_X12_all_4 n y (nI (i + 1)) σ ∧ _
    rw [f_X12_all_4]
    simp (disch := omega) only [bind_s, bd2_s, rdT_ok, ixR_ok, wrT_none, pfI_s, pfJ_s, pfZ_0, pfZ_1, zr_b2, nl_n, nl_s, nI_add, nI_mul, nI_sub, nI_shlm, nI_shrd, nI_or8, nI_or8r, nI_or5r, nI_and255, nI_and31, nI_and7, nI_and1, nI_andK, nI_clr, Nat.one_mul, nI_eqz, nI_eqq, nI_ltq, nI_ltz, nI_zlt, nI_nm1, nI_m2, m1_z, m1_lt0, m1_m1, b2_z, nI1_z, nI0_z, tb_0, tb_1, ite_nI, I_at, I_ne, J_at, J_ne, J_setI, I_setJ, ↓reduceIte, ltN_T, ltN_F, eqN_T, eqN_F, pow8, pow5, b2_f0, b2_t0, reduceCtorEq, Bool.false_eq_true, Bool.true_eq_false, eq_self, false_and, true_and, and_false, and_true, not_false_eq_true, not_true_eq_false, e9]
    rw [rdI_ok (show i < 16 by omega) (by decide), m6]
    have hpb : pb A i < 2 ^ 31 := by have := hb; omega
    by_cases w : pb A i = 0
    · have o : nI (msk (fun k => decide (pb A k = 0)) i) ||| nI (2 ^ i) = nI (msk (fun k => decide (pb A k = 0)) i ||| 2 ^ i) := nI_or _ _
      simp (disch := omega) only [bind_s, bd2_s, rdT_ok, ixR_ok, wrT_none, pfI_s, pfJ_s, pfZ_0, pfZ_1, zr_b2, nl_n, nl_s, nI_add, nI_mul, nI_sub, nI_shlm, nI_shrd, nI_or8, nI_or8r, nI_or5r, nI_and255, nI_and31, nI_and7, nI_and1, nI_andK, nI_clr, Nat.one_mul, nI_eqz, nI_eqq, nI_ltq, nI_ltz, nI_zlt, nI_nm1, nI_m2, m1_z, m1_lt0, m1_m1, b2_z, nI1_z, nI0_z, tb_0, tb_1, ite_nI, I_at, I_ne, J_at, J_ne, J_setI, I_setJ, ↓reduceIte, ltN_T, ltN_F, eqN_T, eqN_F, pow8, pow5, b2_f0, b2_t0, reduceCtorEq, Bool.false_eq_true, Bool.true_eq_false, eq_self, false_and, true_and, and_false, and_true, not_false_eq_true, not_true_eq_false, w, o]
      exact ⟨_, rfl, hQ _ (by rw [msk, if_pos (decide_eq_true w)])⟩
    · have hne : ¬ nI (pb A i) = 0 := fun q => w ((nI_eq hpb (by decide)).mp q)
      simp (disch := omega) only [bind_s, bd2_s, rdT_ok, ixR_ok, wrT_none, pfI_s, pfJ_s, pfZ_0, pfZ_1, zr_b2, nl_n, nl_s, nI_add, nI_mul, nI_sub, nI_shlm, nI_shrd, nI_or8, nI_or8r, nI_or5r, nI_and255, nI_and31, nI_and7, nI_and1, nI_andK, nI_clr, Nat.one_mul, nI_eqz, nI_eqq, nI_ltq, nI_ltz, nI_zlt, nI_nm1, nI_m2, m1_z, m1_lt0, m1_m1, b2_z, nI1_z, nI0_z, tb_0, tb_1, ite_nI, I_at, I_ne, J_at, J_ne, J_setI, I_setJ, ↓reduceIte, ltN_T, ltN_F, eqN_T, eqN_F, pow8, pow5, b2_f0, b2_t0, reduceCtorEq, Bool.false_eq_true, Bool.true_eq_false, eq_self, false_and, true_and, and_false, and_true, not_false_eq_true, not_true_eq_false, hne]
      exact ⟨_, rfl, hQ _ (by rw [msk, if_neg (by rw [decide_eq_true_iff]; exact w)])⟩
  · rintro n y rfl
    show f_X12_all_4 (n + 1) _ (nI (nP A)) σ = _
    rw [f_X12_all_4]
    simp (disch := omega) only [bind_s, bd2_s, rdT_ok, ixR_ok, wrT_none, pfI_s, pfJ_s, pfZ_0, pfZ_1, zr_b2, nl_n, nl_s, nI_add, nI_mul, nI_sub, nI_shlm, nI_shrd, nI_or8, nI_or8r, nI_or5r, nI_and255, nI_and31, nI_and7, nI_and1, nI_andK, nI_clr, Nat.one_mul, nI_eqz, nI_eqq, nI_ltq, nI_ltz, nI_zlt, nI_nm1, nI_m2, m1_z, m1_lt0, m1_m1, b2_z, nI1_z, nI0_z, tb_0, tb_1, ite_nI, I_at, I_ne, J_at, J_ne, J_setI, I_setJ, ↓reduceIte, ltN_T, ltN_F, eqN_T, eqN_F, pow8, pow5, b2_f0, b2_t0, reduceCtorEq, Bool.false_eq_true, Bool.true_eq_false, eq_self, false_and, true_and, and_false, and_true, not_false_eq_true, not_true_eq_false, e9]
  · rintro y ⟨e, rfl⟩
    exact e
/-- a choice by any proposition -/
noncomputable def cif (p : Prop) (b c : Nat) : Nat := @ite Nat p (Classical.propDecidable p) b c
theorem cif_t {p : Prop} (h : p) (b c : Nat) : cif p b c = b := by unfold cif; exact if_pos h
theorem cif_f {p : Prop} (h : ¬ p) (b c : Nat) : cif p b c = c := by unfold cif; exact if_neg h
theorem cif_congr {p q : Prop} (h : p ↔ q) {b b' c c' : Nat} (e1 : b = b') (e2 : c = c') : cif p b c = cif q b' c' := by
  have := propext h
  subst this; subst e1; subst e2; rfl
noncomputable def isv (A : AW) (S : Nat) (x : Nat × Nat) (h th : Nat) : Nat := cif (EP A S x h 1024 [] (fun _ f s => (so A f (s % 32) (s / 32 % 8)).testBit th = true)) (cif (EP A S x h 1024 [] (fun _ f s => (so A f (s % 32) (s / 32 % 8)).testBit th = false)) 2 1) 0
theorem tbq4 : ∀ m : Fin 4, (m.1.testBit 0 = true ↔ m.1 % 2 = 1) ∧ (m.1.testBit 1 = true ↔ 2 ≤ m.1) := by decide
theorem t_isOf (a : AOK A) (v : SV A S x σ) (hL : LE A S x < 100000000) (hh : h < 12) {t : Nat} (hth : t < 10) : ∃ u, f_X12_isOf (nI t) (nI h) σ = some (nI (isv A S x h t), u) ∧ Fe σ u := by
  obtain ⟨u, m, e, F, hm, b⟩ := t_doIn a v hL hh hth
  refine ⟨u, ?_, F⟩
  have hm4 : m < 4 := hm
  have b0 : m % 2 = 1 ↔ EP A S x h 1024 [] (fun _ f s => (so A f (s % 32) (s / 32 % 8)).testBit t = false) := (tbq4 ⟨m, hm4⟩).1.symm.trans (b 0 (by decide))
  have b1 : 2 ≤ m ↔ EP A S x h 1024 [] (fun _ f s => (so A f (s % 32) (s / 32 % 8)).testBit t = true) := (tbq4 ⟨m, hm4⟩).2.symm.trans (b 1 (by decide))
  unfold f_X12_isOf
  rw [e]
  unfold isv
  rcases (show m = 0 ∨ m = 1 ∨ m = 2 ∨ m = 3 by omega) with rfl | rfl | rfl | rfl
  · rw [cif_f (fun q => by have := b1.mpr q; omega)]; simp (disch := omega) only [bind_s, bd2_s, rdT_ok, ixR_ok, wrT_none, pfI_s, pfJ_s, pfZ_0, pfZ_1, zr_b2, nl_n, nl_s, nI_add, nI_mul, nI_sub, nI_shlm, nI_shrd, nI_or8, nI_or8r, nI_or5r, nI_and255, nI_and31, nI_and7, nI_and1, nI_andK, nI_clr, Nat.one_mul, nI_eqz, nI_eqq, nI_ltq, nI_ltz, nI_zlt, nI_nm1, nI_m2, m1_z, m1_lt0, m1_m1, b2_z, nI1_z, nI0_z, tb_0, tb_1, ite_nI, I_at, I_ne, J_at, J_ne, J_setI, I_setJ, ↓reduceIte, ltN_T, ltN_F, eqN_T, eqN_F, pow8, pow5, b2_f0, b2_t0, reduceCtorEq, Bool.false_eq_true, Bool.true_eq_false, eq_self, false_and, true_and, and_false, and_true, not_false_eq_true, not_true_eq_false]
  · rw [cif_f (fun q => by have := b1.mpr q; omega)]; simp (disch := omega) only [bind_s, bd2_s, rdT_ok, ixR_ok, wrT_none, pfI_s, pfJ_s, pfZ_0, pfZ_1, zr_b2, nl_n, nl_s, nI_add, nI_mul, nI_sub, nI_shlm, nI_shrd, nI_or8, nI_or8r, nI_or5r, nI_and255, nI_and31, nI_and7, nI_and1, nI_andK, nI_clr, Nat.one_mul, nI_eqz, nI_eqq, nI_ltq, nI_ltz, nI_zlt, nI_nm1, nI_m2, m1_z, m1_lt0, m1_m1, b2_z, nI1_z, nI0_z, tb_0, tb_1, ite_nI, I_at, I_ne, J_at, J_ne, J_setI, I_setJ, ↓reduceIte, ltN_T, ltN_F, eqN_T, eqN_F, pow8, pow5, b2_f0, b2_t0, reduceCtorEq, Bool.false_eq_true, Bool.true_eq_false, eq_self, false_and, true_and, and_false, and_true, not_false_eq_true, not_true_eq_false]
  · rw [cif_t (b1.mp (by decide)), cif_f (fun q => absurd (b0.mpr q) (by decide))]; simp (disch := omega) only [bind_s, bd2_s, rdT_ok, ixR_ok, wrT_none, pfI_s, pfJ_s, pfZ_0, pfZ_1, zr_b2, nl_n, nl_s, nI_add, nI_mul, nI_sub, nI_shlm, nI_shrd, nI_or8, nI_or8r, nI_or5r, nI_and255, nI_and31, nI_and7, nI_and1, nI_andK, nI_clr, Nat.one_mul, nI_eqz, nI_eqq, nI_ltq, nI_ltz, nI_zlt, nI_nm1, nI_m2, m1_z, m1_lt0, m1_m1, b2_z, nI1_z, nI0_z, tb_0, tb_1, ite_nI, I_at, I_ne, J_at, J_ne, J_setI, I_setJ, ↓reduceIte, ltN_T, ltN_F, eqN_T, eqN_F, pow8, pow5, b2_f0, b2_t0, reduceCtorEq, Bool.false_eq_true, Bool.true_eq_false, eq_self, false_and, true_and, and_false, and_true, not_false_eq_true, not_true_eq_false]
  · rw [cif_t (b1.mp (by decide)), cif_t (b0.mp (by decide))]; simp (disch := omega) only [bind_s, bd2_s, rdT_ok, ixR_ok, wrT_none, pfI_s, pfJ_s, pfZ_0, pfZ_1, zr_b2, nl_n, nl_s, nI_add, nI_mul, nI_sub, nI_shlm, nI_shrd, nI_or8, nI_or8r, nI_or5r, nI_and255, nI_and31, nI_and7, nI_and1, nI_andK, nI_clr, Nat.one_mul, nI_eqz, nI_eqq, nI_ltq, nI_ltz, nI_zlt, nI_nm1, nI_m2, m1_z, m1_lt0, m1_m1, b2_z, nI1_z, nI0_z, tb_0, tb_1, ite_nI, I_at, I_ne, J_at, J_ne, J_setI, I_setJ, ↓reduceIte, ltN_T, ltN_F, eqN_T, eqN_F, pow8, pow5, b2_f0, b2_t0, reduceCtorEq, Bool.false_eq_true, Bool.true_eq_false, eq_self, false_and, true_and, and_false, and_true, not_false_eq_true, not_true_eq_false]
abbrev KPm (A : AW) (S : Nat) (x : Nat × Nat) (h s : Nat) : Prop := KP (EG A S x) (2 ^ cK A 1) (glS A S) h s
def VaS (A : AW) (S : Nat) (x : Nat × Nat) (h N lo hi : Nat) : Prop := lo < 8 ∧ hi < 8 ∧ (∀ s, s < N → KPm A S x h s → lo ≤ s / 32 % 8 ∧ s / 32 % 8 ≤ hi) ∧ (∃ s, s < N ∧ KPm A S x h s ∧ s / 32 % 8 = lo) ∧ ∃ s, s < N ∧ KPm A S x h s ∧ s / 32 % 8 = hi
theorem mx1 : ∀ r : Fin 8, (if (-1 : Int32) < nI r.1 then nI r.1 else -1) = nI r.1 := by decide
theorem mn9 : ∀ r : Fin 8, (if nI r.1 < nI 9 then nI r.1 else nI 9) = nI r.1 := by decide
theorem mx8 : ∀ q r : Fin 8, (if nI q.1 < nI r.1 then nI r.1 else nI q.1) = nI (if q.1 < r.1 then r.1 else q.1) := by decide
theorem mn8 : ∀ q r : Fin 8, (if nI r.1 < nI q.1 then nI r.1 else nI q.1) = nI (if r.1 < q.1 then r.1 else q.1) := by decide
theorem sum2_lt {a b : Nat} (h1 : a ≤ 100000000) (h2 : b ≤ 100000000) : a + b < 2 ^ 31 := by omega
theorem t_value50 (a : AOK A) (v : SV A S x σ) (hL : LE A S x < 100000000) (hh : h < 12) : ∃ lo hi, f_X12_value_50 FU (nI h) (-1) (nI 9) (nI 0) σ = some (nI (10 * hi + lo), σ) ∧ VaS A S x h 1024 lo hi := by
  refine Exists.elim (loopE (A := Int32 × Int32) (fun n i y => f_X12_value_50 n (nI h) y.1 y.2 (nI i) σ) 1024 (fun i y => (y = (-1, nI 9) ∧ ∀ s, s < i → ¬ KPm A S x h s) ∨ ∃ lo hi, y = (nI hi, nI lo) ∧ VaS A S x h i lo hi) (fun y => some (nI 10 * y.1 + y.2, σ)) ?_ ?_ FU 0 (-1, nI 9) (by rw [FU_eq]; omega) (by omega) (Or.inl ⟨rfl, fun s hs => by omega⟩)) ?_
  · rintro n i ⟨y1, y2⟩ hi hI Q hQ
    have r1 := v.2.1 h i (by omega) hi
    have hle := FW_le (A := A) (S := S) (x := x) h i
    have hix : 1024 * h + i < 13312 := by omega
    show ∃ y : Int32 × Int32, f_X12_value_50 (n + 1) (nI h) y1 y2 (nI i) σ = f_X12_value_50 n (nI h) y.1 y.2 (nI (i + 1)) σ ∧ _
    have no : ¬ KPm A S x h i → ((y1, y2) = (-1, nI 9) ∧ ∀ s, s < i + 1 → ¬ KPm A S x h s) ∨ ∃ lo hi, (y1, y2) = (nI hi, nI lo) ∧ VaS A S x h (i + 1) lo hi := by
      intro w
      rcases hI with ⟨e, q⟩ | ⟨lo, hi', e, q1, q2, q3, ⟨s1, q4, q4'⟩, ⟨s2, q5, q5'⟩⟩
      · refine Or.inl ⟨e, fun s hs => ?_⟩
        by_cases c : s = i
        · rw [c]; exact w
        · exact q s (by omega)
      · refine Or.inr ⟨lo, hi', e, q1, q2, fun s hs k => ?_, ⟨s1, by omega, q4'⟩, ⟨s2, by omega, q5'⟩⟩
        by_cases c : s = i
        · rw [c] at k; exact absurd k w
        · exact q3 s (by omega) k
    rw [f_X12_value_50]
    simp (disch := omega) only [bind_s, bd2_s, rdT_ok, ixR_ok, wrT_none, pfI_s, pfJ_s, pfZ_0, pfZ_1, zr_b2, nl_n, nl_s, nI_add, nI_mul, nI_sub, nI_shlm, nI_shrd, nI_or8, nI_or8r, nI_or5r, nI_and255, nI_and31, nI_and7, nI_and1, nI_andK, nI_clr, Nat.one_mul, nI_eqz, nI_eqq, nI_ltq, nI_ltz, nI_zlt, nI_nm1, nI_m2, m1_z, m1_lt0, m1_m1, b2_z, nI1_z, nI0_z, tb_0, tb_1, ite_nI, I_at, I_ne, J_at, J_ne, J_setI, I_setJ, ↓reduceIte, ltN_T, ltN_F, eqN_T, eqN_F, pow8, pow5, b2_f0, b2_t0, reduceCtorEq, Bool.false_eq_true, Bool.true_eq_false, eq_self, false_and, true_and, and_false, and_true, not_false_eq_true, not_true_eq_false]
    rw [rdI_ok hix (by decide), r1]
    by_cases hn : FW A S x h i = 100000000
    · simp (disch := omega) only [bind_s, bd2_s, rdT_ok, ixR_ok, wrT_none, pfI_s, pfJ_s, pfZ_0, pfZ_1, zr_b2, nl_n, nl_s, nI_add, nI_mul, nI_sub, nI_shlm, nI_shrd, nI_or8, nI_or8r, nI_or5r, nI_and255, nI_and31, nI_and7, nI_and1, nI_andK, nI_clr, Nat.one_mul, nI_eqz, nI_eqq, nI_ltq, nI_ltz, nI_zlt, nI_nm1, nI_m2, m1_z, m1_lt0, m1_m1, b2_z, nI1_z, nI0_z, tb_0, tb_1, ite_nI, I_at, I_ne, J_at, J_ne, J_setI, I_setJ, ↓reduceIte, ltN_T, ltN_F, eqN_T, eqN_F, pow8, pow5, b2_f0, b2_t0, reduceCtorEq, Bool.false_eq_true, Bool.true_eq_false, eq_self, false_and, true_and, and_false, and_true, not_false_eq_true, not_true_eq_false, hn]
      refine ⟨(y1, y2), rfl, hQ _ (no fun k => ?_)⟩
      have k1 : FW A S x h i + BK A S x (12 - h) i = LE A S x := k.1
      rw [hn] at k1
      have := Nat.le_add_right 100000000 (BK A S x (12 - h) i)
      rw [k1] at this
      exact absurd hL (Nat.not_lt.mpr this)
    · have hlt : FW A S x h i < 100000000 := by omega
      have r2 := v.2.2.2 hL h i (by omega) hi hlt
      have r3 := v.2.2.1
      have hb := BK_le (A := A) (S := S) (x := x) (12 - h) i
      have hsum := sum2_lt hle hb
      have hl31 : LE A S x < 2 ^ 31 := Nat.lt_trans hL (by decide)
      have hne := nI_ne8 hlt
      simp only [bind_s]
      rw [if_neg hne, rdI_ok hix (by decide), r2]
      simp only [bind_s]
      rw [r3, nI_add (FW A S x h i)]
      by_cases w : FW A S x h i + BK A S x (12 - h) i = LE A S x
      · rw [if_pos (congrArg nI w)]
        have k : KPm A S x h i := ⟨w, hL⟩
        have hr : i / 32 % 8 < 8 := Nat.mod_lt _ (by decide)
        clear hsum hb hle hlt hn r1 r2 r3 hne no w
        generalize hrr : i / 32 % 8 = r at *
        rcases hI with ⟨e, q⟩ | ⟨lo, hi', e, q1, q2, q3, ⟨s1, q4, q4', q4''⟩, ⟨s2, q5, q5', q5''⟩⟩
        · obtain ⟨rfl, rfl⟩ := Prod.mk.inj e
          rw [mx1 ⟨r, hr⟩, mn9 ⟨r, hr⟩]
          refine ⟨(nI r, nI r), rfl, hQ _ (Or.inr ⟨r, r, rfl, hr, hr, fun s hs k' => ?_, ⟨i, by omega, k, hrr⟩, ⟨i, by omega, k, hrr⟩⟩)⟩
          by_cases c : s = i
          · rw [c, hrr]; exact ⟨Nat.le_refl _, Nat.le_refl _⟩
          · exact absurd k' (q s (by omega))
        · obtain ⟨rfl, rfl⟩ := Prod.mk.inj e
          rw [mx8 ⟨hi', q2⟩ ⟨r, hr⟩, mn8 ⟨lo, q1⟩ ⟨r, hr⟩]
          refine ⟨(_, _), rfl, hQ _ (Or.inr ⟨_, _, rfl, ?_, ?_, fun s hs k' => ?_, ?_, ?_⟩)⟩
          · show (if r < lo then r else lo) < 8
            split <;> assumption
          · show (if hi' < r then r else hi') < 8
            split <;> assumption
          · show (if r < lo then r else lo) ≤ _ ∧ _ ≤ (if hi' < r then r else hi')
            by_cases c : s = i
            · rw [c, hrr]; constructor <;> split <;> omega
            · have := q3 s (by omega) k'
              constructor <;> split <;> omega
          · show ∃ s, _ ∧ _ ∧ _ = (if r < lo then r else lo)
            split
            · exact ⟨i, by omega, k, hrr⟩
            · exact ⟨s1, by omega, q4', q4''⟩
          · show ∃ s, _ ∧ _ ∧ _ = (if hi' < r then r else hi')
            split
            · exact ⟨i, by omega, k, hrr⟩
            · exact ⟨s2, by omega, q5', q5''⟩
      · rw [if_neg (fun q => w ((nI_eq hsum hl31).mp q))]
        exact ⟨(y1, y2), rfl, hQ _ (no fun k => w k.1)⟩
  · rintro n ⟨y1, y2⟩ -
    show f_X12_value_50 (n + 1) _ _ _ (nI 1024) σ = _
    rw [f_X12_value_50]
    simp (disch := omega) only [bind_s, bd2_s, rdT_ok, ixR_ok, wrT_none, pfI_s, pfJ_s, pfZ_0, pfZ_1, zr_b2, nl_n, nl_s, nI_add, nI_mul, nI_sub, nI_shlm, nI_shrd, nI_or8, nI_or8r, nI_or5r, nI_and255, nI_and31, nI_and7, nI_and1, nI_andK, nI_clr, Nat.one_mul, nI_eqz, nI_eqq, nI_ltq, nI_ltz, nI_zlt, nI_nm1, nI_m2, m1_z, m1_lt0, m1_m1, b2_z, nI1_z, nI0_z, tb_0, tb_1, ite_nI, I_at, I_ne, J_at, J_ne, J_setI, I_setJ, ↓reduceIte, ltN_T, ltN_F, eqN_T, eqN_F, pow8, pow5, b2_f0, b2_t0, reduceCtorEq, Bool.false_eq_true, Bool.true_eq_false, eq_self, false_and, true_and, and_false, and_true, not_false_eq_true, not_true_eq_false]
  · rintro ⟨y1, y2⟩ ⟨e, ⟨-, q⟩ | ⟨lo, hi, e2, q⟩⟩
    · exfalso
      obtain ⟨s, k⟩ := KP_all (EG_ok a) (show Le (EG A S x) (2 ^ cK A 1) (glS A S) < NV from hL) (12 - h) (by omega)
      rw [show 12 - (12 - h) = h by omega] at k
      have hI : 2 ^ cK A 1 ≤ 1024 := by have := K32 a; omega
      exact q s (KP_lt (EG_ok a) hI k) k
    · obtain ⟨rfl, rfl⟩ := Prod.mk.inj e2
      exact ⟨lo, hi, by rw [e, nI_mul, nI_add], q⟩
end
