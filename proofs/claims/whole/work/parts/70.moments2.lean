section
/-! ===== the reference's moments, all of them ===== -/
variable {A : AW} {σ : ST} {S : Nat} {x : Nat × Nat}
def VM (A : AW) (m : Nat) : Prop := m % 32 < 2 ^ cK A 1 ∧ m / 256 < 2 ^ cK A 0 ∧ (m / 32 % 8 = 0 ∨ 0 < cK A 3)
def som (A : AW) (m : Nat) : Nat := so A (m / 256) (m % 32) (m / 32 % 8)
def TBm (A : AW) (σ : ST) : Prop := ∀ m, m < 1024 → (¬ VM A m → σ.1 267 m = -1) ∧ (VM A m → σ.1 267 m = nI (som A m) ∧ σ.1 268 m = nI (msk (fun b => hc A b (som A m) (m / 32 % 8)) (nH A)) ∧ ∀ b, b < nH A ∨ b = 6 → σ.1 269 (7 * m + b) = nI (NXm A (som A m) (m % 32) (m / 32 % 8) b))
/-- the numbers that makeMoments counts -/
def CTm (A : AW) (σ : ST) : Prop := RNv A (σ.1 247 27) ∧ σ.1 247 28 = nI (cK A 1) ∧ σ.1 247 29 = nI (cK A 0)
theorem t_runs (a : AOK A) (m : MR A σ) {k : ST → Option ST} (h27 : σ.1 247 27 = -1) : ∃ s, f_X12_makeMoments_25 k FU (nI 0) σ = k s ∧ Fm (fun _ => False) σ s ∧ RNv A (s.1 247 27) ∧ s.1 247 28 = σ.1 247 28 ∧ s.1 247 29 = σ.1 247 29 := by
  have hT := a.1.1
  refine Exists.elim (loopE (fun n i s => f_X12_makeMoments_25 k n (nI i) s) (nT A) (fun i s => Fm (fun _ => False) σ s ∧ ((s.1 247 27 = -1 ∧ ∀ j, j < i → kd A j ≠ 3) ∨ ∃ r, r < i ∧ s.1 247 27 = nI r ∧ kd A r = 3) ∧ s.1 247 28 = σ.1 247 28 ∧ s.1 247 29 = σ.1 247 29) (fun s => k s) ?_ ?_ FU 0 σ (by rw [FU_eq]; omega) (Nat.zero_le _) ⟨Fm.rf _ _, Or.inl ⟨h27, fun j hj => by omega⟩, rfl, rfl⟩) ?_
  · rintro n i s hi ⟨hF, hv, e1, e2⟩ Q hQ
    have m' := MR_fm m hF (fun y hy => hy.elim)
    have m0 := m'.1.1
    have mk := (m'.2.1 i hi).1
    have hk3 := a.2.1 i hi
    show ∃ y, f_X12_makeMoments_25 k (n + 1) (nI i) s = f_X12_makeMoments_25 k n (nI (i + 1)) y ∧ _
    rw [f_X12_makeMoments_25]
    by_cases e : kd A i = 3
    · simp (disch := omega) only [bind_s, bd2_s, rdI_ok, rdJ_ok, rdT_ok, ixR_ok, wrI_ok, wrJ_ok, wrT_none, pfI_s, pfJ_s, pfZ_0, pfZ_1, zr_b2, nl_n, nl_s, nI_add, nI_mul, nI_sub, nI_shlm, nI_shrd, nI_or8, nI_or8r, nI_or5r, nI_and255, nI_and31, nI_and7, nI_and1, nI_andK, nI_clr, Nat.one_mul, nI_eqz, nI_eqq, nI_ltq, nI_ltz, nI_zlt, nI_nm1, nI_m2, m1_z, m1_lt0, m1_m1, b2_z, nI1_z, nI0_z, tb_0, tb_1, ite_nI, I_at, I_ne, J_at, J_ne, J_setI, I_setJ, ↓reduceIte, ltN_T, ltN_F, eqN_T, eqN_F, pow8, pow5, b2_f0, b2_t0, reduceCtorEq, Bool.false_eq_true, Bool.true_eq_false, eq_self, false_and, true_and, and_false, and_true, not_false_eq_true, not_true_eq_false, m0, mk, e]
      refine ⟨_, rfl, hQ _ ⟨hF.tr (Fm_fld (by omega)), Or.inr ⟨i, by omega, by rw [I_at], e⟩, by rw [I_ne (Or.inr (by omega))]; exact e1, by rw [I_ne (Or.inr (by omega))]; exact e2⟩⟩
    · simp (disch := omega) only [bind_s, bd2_s, rdI_ok, rdJ_ok, rdT_ok, ixR_ok, wrI_ok, wrJ_ok, wrT_none, pfI_s, pfJ_s, pfZ_0, pfZ_1, zr_b2, nl_n, nl_s, nI_add, nI_mul, nI_sub, nI_shlm, nI_shrd, nI_or8, nI_or8r, nI_or5r, nI_and255, nI_and31, nI_and7, nI_and1, nI_andK, nI_clr, Nat.one_mul, nI_eqz, nI_eqq, nI_ltq, nI_ltz, nI_zlt, nI_nm1, nI_m2, m1_z, m1_lt0, m1_m1, b2_z, nI1_z, nI0_z, tb_0, tb_1, ite_nI, I_at, I_ne, J_at, J_ne, J_setI, I_setJ, ↓reduceIte, ltN_T, ltN_F, eqN_T, eqN_F, pow8, pow5, b2_f0, b2_t0, reduceCtorEq, Bool.false_eq_true, Bool.true_eq_false, eq_self, false_and, true_and, and_false, and_true, not_false_eq_true, not_true_eq_false, m0, mk, e]
      refine ⟨s, rfl, hQ _ ⟨hF, ?_, e1, e2⟩⟩
      rcases hv with ⟨v1, v2⟩ | ⟨r, v1, v2⟩
      · left
        refine ⟨v1, fun j hj => ?_⟩
        by_cases q : j = i
        · subst q; exact e
        · exact v2 j (by omega)
      · exact Or.inr ⟨r, by omega, v2⟩
  · rintro n s ⟨hF, -, -, -⟩
    have m0 := (MR_fm m hF (fun y hy => hy.elim)).1.1
    show f_X12_makeMoments_25 k (n + 1) (nI (nT A)) s = _
    rw [f_X12_makeMoments_25]
    simp (disch := omega) only [bind_s, bd2_s, rdI_ok, rdJ_ok, rdT_ok, ixR_ok, wrI_ok, wrJ_ok, wrT_none, pfI_s, pfJ_s, pfZ_0, pfZ_1, zr_b2, nl_n, nl_s, nI_add, nI_mul, nI_sub, nI_shlm, nI_shrd, nI_or8, nI_or8r, nI_or5r, nI_and255, nI_and31, nI_and7, nI_and1, nI_andK, nI_clr, Nat.one_mul, nI_eqz, nI_eqq, nI_ltq, nI_ltz, nI_zlt, nI_nm1, nI_m2, m1_z, m1_lt0, m1_m1, b2_z, nI1_z, nI0_z, tb_0, tb_1, ite_nI, I_at, I_ne, J_at, J_ne, J_setI, I_setJ, ↓reduceIte, ltN_T, ltN_F, eqN_T, eqN_F, pow8, pow5, b2_f0, b2_t0, reduceCtorEq, Bool.false_eq_true, Bool.true_eq_false, eq_self, false_and, true_and, and_false, and_true, not_false_eq_true, not_true_eq_false, m0]
  · rintro s ⟨e, h1, h2, h3, h4⟩
    refine ⟨s, e, h1, ?_, h3, h4⟩
    rcases h2 with ⟨v1, v2⟩ | ⟨r, v1, v2, v3⟩
    · refine Or.inl ⟨v1, v2, ?_⟩
      have : ∀ n, (∀ j, j < n → kd A j ≠ 3) → cnt (kd A) 3 n = 0 := by
        intro n
        induction n with
        | zero => intro _; rfl
        | succ n ih =>
          intro hh
          rw [cnt, if_neg (hh n (by omega)), ih (fun j hj => hh j (by omega))]
      exact this _ v2
    · have := cnt_lt v1 v3
      exact Or.inr ⟨r, v1, v2, v3, by unfold cK; omega⟩
theorem so_eq_m {f kept run : Nat} (h1 : kept < 32) (h2 : run < 8) : som A (kept + 32 * run + 256 * f) = so A f kept run := by
  unfold som
  rw [show (kept + 32 * run + 256 * f) / 256 = f by omega, show (kept + 32 * run + 256 * f) % 32 = kept by omega, show (kept + 32 * run + 256 * f) / 32 % 8 = run by omega]
theorem dv_z {x k : Nat} : (x / 2 ^ k = 0) = (x < 2 ^ k) := propext (Nat.div_eq_zero_iff_lt (Nat.two_pow_pos k))
theorem t_makeMoments (a : AOK A) (m : MR A σ) : ∃ s, f_X12_makeMoments σ = some s ∧ Fm (fun y => 266 ≤ y ∧ y ≤ 269) σ s ∧ TBm A s ∧ CTm A s := by
  have hK := K32 a
  have hF4 := F4 a
  have hK5 := a.2.2.1.2.1
  have hF2 := a.2.2.1.1
  have hT := a.1.1
  unfold f_X12_makeMoments
  have F1 : Fm (fun _ => False) σ (setI σ 247 28 (nI (cK A 1))) := Fm_fld (by omega)
  have m1 := MR_fm m F1 (fun y hy => hy.elim)
  have F2 : Fm (fun _ => False) σ (setI (setI (setI σ 247 28 (nI (cK A 1))) 247 29 (nI (cK A 0))) 247 27 (-1)) := (F1.tr (Fm_fld (by omega))).tr (Fm_fld (by omega))
  have m2 := MR_fm m F2 (fun y hy => hy.elim)
  simp (disch := omega) only [bind_s, bd2_s, rdI_ok, rdJ_ok, rdT_ok, ixR_ok, wrI_ok, wrJ_ok, wrT_none, pfI_s, pfJ_s, pfZ_0, pfZ_1, zr_b2, nl_n, nl_s, nI_add, nI_mul, nI_sub, nI_shlm, nI_shrd, nI_or8, nI_or8r, nI_or5r, nI_and255, nI_and31, nI_and7, nI_and1, nI_andK, nI_clr, Nat.one_mul, nI_eqz, nI_eqq, nI_ltq, nI_ltz, nI_zlt, nI_nm1, nI_m2, m1_z, m1_lt0, m1_m1, b2_z, nI1_z, nI0_z, tb_0, tb_1, ite_nI, I_at, I_ne, J_at, J_ne, J_setI, I_setJ, ↓reduceIte, ltN_T, ltN_F, eqN_T, eqN_F, pow8, pow5, b2_f0, b2_t0, reduceCtorEq, Bool.false_eq_true, Bool.true_eq_false, eq_self, false_and, true_and, and_false, and_true, not_false_eq_true, not_true_eq_false, t_many a m, t_many a m1]
  obtain ⟨s1, e1, F3, r27, r28, r29⟩ := t_runs (k := fun s10 => f_X12_makeMoments_56 FU (nI 0) s10) a m2 (by rw [I_at])
  rw [e1]
  rw [I_ne (Or.inr (by omega)), I_ne (Or.inr (by omega)), I_at] at r28
  rw [I_ne (Or.inr (by omega)), I_at] at r29
  have F4' := F2.tr F3
  refine Exists.elim (loopE (fun n i s => f_X12_makeMoments_56 n (nI i) s) 1024 (fun i s => Fm (fun y => 266 ≤ y ∧ y ≤ 269) σ s ∧ s.1 247 = s1.1 247 ∧ ∀ mm, mm < i → (¬ VM A mm → s.1 267 mm = -1) ∧ (VM A mm → s.1 267 mm = nI (som A mm) ∧ s.1 268 mm = nI (msk (fun b => hc A b (som A mm) (mm / 32 % 8)) (nH A)) ∧ ∀ b, b < nH A ∨ b = 6 → s.1 269 (7 * mm + b) = nI (NXm A (som A mm) (mm % 32) (mm / 32 % 8) b))) (fun s => some s) ?_ ?_ FU 0 s1 (by rw [FU_eq]; omega) (by omega) ⟨F4'.mono (fun y hy => hy.elim), rfl, fun mm hm => by omega⟩) ?_
  · rintro n i s hi ⟨hF, h7, hv⟩ Q hQ
    have m' := MR_fm m hF (fun y hy => by omega)
    have c28 : s.1 247 28 = nI (cK A 1) := by rw [h7]; exact r28
    have c29 : s.1 247 29 = nI (cK A 0) := by rw [h7]; exact r29
    have c27 : RNv A (s.1 247 27) := by rw [h7]; exact r27
    have hH := a.1.2.1
    -- a moment that can't be
    have bad : ¬ VM A i → Q (setI s 267 i (-1)) := by
      intro hb
      refine hQ _ ⟨hF.tr (Fm_set (by omega) (by omega)), by rw [← h7]; funext j; exact I_ne (Or.inl (by omega)), fun mm hm => ?_⟩
      by_cases e : mm = i
      · subst e
        exact ⟨fun _ => by rw [I_at], fun q => absurd q hb⟩
      · obtain ⟨v1, v2⟩ := hv mm (by omega)
        refine ⟨fun q => by rw [I_ne (Or.inr e)]; exact v1 q, fun q => ?_⟩
        obtain ⟨w1, w2, w3⟩ := v2 q
        exact ⟨by rw [I_ne (Or.inr e)]; exact w1, by rw [I_ne (Or.inl (by omega))]; exact w2, fun b hb => by rw [I_ne (Or.inl (by omega))]; exact w3 b hb⟩
    -- a moment that can
    have good : VM A i → ∃ y, f_X12_makeMoments_121 (f_X12_makeMoments_56 n) (nI i) (nI (i % 32)) (nI (i / 32 % 8)) (nI (i / 256)) (setI s 267 i (-1)) = f_X12_makeMoments_56 n (nI (i + 1)) y ∧ Q y := by
      intro hg
      have F5 : Fm (fun y => 266 ≤ y ∧ y ≤ 269) s (setI s 267 i (-1)) := Fm_set (by omega) (by omega)
      have m5 := MR_fm m' F5 (fun y hy => by omega)
      rw [f_X12_makeMoments_121]
      obtain ⟨s2, e2, G2, q2, n2⟩ := t_things (A := A) (mm := i) (f := i / 256) (kept := i % 32) (run := i / 32 % 8) a m5 (by omega) (by omega) (by omega) (k := fun x1_23 x2_24 x3_25 x5_26 s27 => (wrI s27 267 1024 x1_23 x5_26).bind fun s28 => if (s28.1 247 27) < 0 then (f_X12_makeMoments_338 (f_X12_makeMoments_56 n) x1_23 x2_24 x3_25 s28) else (if x3_25 < (nI 7) then ((rdI s28 249 10 (s28.1 247 27)).bind fun v44 => bd2 (f_X12_holds_ 250 600 ((nI 60) * (s28.1 247 27)) v44 s28) fun v46 s45 => if v46 = 0 then (f_X12_makeMoments_338 (f_X12_makeMoments_56 n) x1_23 x2_24 x3_25 s45) else (f_X12_makeMoments_338 (f_X12_makeMoments_56 n) x1_23 x2_24 (x3_25 + nI 1) s45)) else (f_X12_makeMoments_338 (f_X12_makeMoments_56 n) x1_23 x2_24 x3_25 s28)))
      rw [e2]
      have esom : so A (i / 256) (i % 32) (i / 32 % 8) = som A i := rfl
      rw [esom] at n2
      have hsl : som A i < 1024 := so_lt a
      have F6 : Fm (fun y => y = 267) s2 (setI s2 267 i (nI (som A i))) := Fm_set rfl (by omega)
      have G26 : Fm (fun y => 266 ≤ y ∧ y ≤ 269) σ (setI s2 267 i (nI (som A i))) := ((hF.tr F5).tr (G2.mono (fun y hy => by omega))).tr (F6.mono (fun y hy => by omega))
      have m6 := MR_fm m G26 (fun y hy => by omega)
      have d7 : (setI s2 267 i (nI (som A i))).1 247 = s1.1 247 := by
        have r1 : (setI s2 267 i (nI (som A i))).1 247 = s2.1 247 := by funext j; exact I_ne (Or.inl (by omega))
        have r2 : (setI s 267 i (-1)).1 247 = s.1 247 := by funext j; exact I_ne (Or.inl (by omega))
        rw [r1, q2, r2, h7]
      have n6 : ∀ u, u < nT A → (setI s2 267 i (nI (som A i))).1 266 u = nI (nowv (kd A) (som A i) (i / 32 % 8) u) := fun u hu => by rw [I_ne (Or.inl (by omega))]; exact n2 u hu
      have g27 : RNv A (s2.1 247 27) := by
        have r1 : (setI s2 267 i (nI (som A i))).1 247 27 = s2.1 247 27 := I_ne (Or.inl (by omega))
        rw [← r1, d7]; exact r27
      rw [esom]
      simp (disch := omega) only [bind_s, bd2_s, rdI_ok, rdJ_ok, rdT_ok, ixR_ok, wrI_ok, wrJ_ok, wrT_none, pfI_s, pfJ_s, pfZ_0, pfZ_1, zr_b2, nl_n, nl_s, nI_add, nI_mul, nI_sub, nI_shlm, nI_shrd, nI_or8, nI_or8r, nI_or5r, nI_and255, nI_and31, nI_and7, nI_and1, nI_andK, nI_clr, Nat.one_mul, nI_eqz, nI_eqq, nI_ltq, nI_ltz, nI_zlt, nI_nm1, nI_m2, m1_z, m1_lt0, m1_m1, b2_z, nI1_z, nI0_z, tb_0, tb_1, ite_nI, I_at, I_ne, J_at, J_ne, J_setI, I_setJ, ↓reduceIte, ltN_T, ltN_F, eqN_T, eqN_F, pow8, pow5, b2_f0, b2_t0, reduceCtorEq, Bool.false_eq_true, Bool.true_eq_false, eq_self, false_and, true_and, and_false, and_true, not_false_eq_true, not_true_eq_false]
      -- the end
      obtain ⟨s3, e3, G3, q3, o8, o9, v8, v9⟩ := t_acts (A := A) (mm := i) (so := som A i) (kept := i % 32) (run := i / 32 % 8) (k := f_X12_makeMoments_56 n) a m6 hsl hg.1 (by omega) hi (soN_rb (nT A)) n6
      have fin : Q s3 := by
        refine hQ _ ⟨G26.tr (G3.mono (fun y hy => by omega)), by rw [q3, d7], fun mm hm => ?_⟩
        by_cases e : mm = i
        · subst e
          refine ⟨fun q => absurd hg q, fun _ => ⟨?_, v8, v9⟩⟩
          rw [G3.I (by omega) (by omega), I_at]
        · obtain ⟨u1, u2⟩ := hv mm (by omega)
          have r7 : s3.1 267 mm = s.1 267 mm := by rw [G3.I (by omega) (by omega), I_ne (Or.inr e), G2.I (by omega) (by omega), I_ne (Or.inr e)]
          refine ⟨fun q => by rw [r7]; exact u1 q, fun q => ?_⟩
          obtain ⟨w1, w2, w3⟩ := u2 q
          refine ⟨by rw [r7]; exact w1, ?_, fun b hb => ?_⟩
          · rw [o8 mm e, I_ne (Or.inl (by omega)), G2.I (by omega) (by omega), I_ne (Or.inl (by omega))]; exact w2
          · rw [o9 (7 * mm + b) (by omega), I_ne (Or.inl (by omega)), G2.I (by omega) (by omega), I_ne (Or.inl (by omega))]; exact w3 b hb
      rcases g27 with ⟨z1, z2, z3⟩ | ⟨r, z1, z2, z3, z4⟩
      · have hth : th A (som A i) (i / 32 % 8) = i / 32 % 8 := by unfold th; rw [rn_no z2, if_neg (fun w => by cases w.1)]
        rw [hth] at e3
        rw [z1, if_pos (by decide), e3]
        exact ⟨s3, rfl, fin⟩
      · have hrn := rn_at (so := som A i) (run := i / 32 % 8) a z1 z3
        obtain ⟨-, mt⟩ := m6.2.1 r z1
        obtain ⟨len, l1, l2, tm⟩ := mt (by omega)
        have hh := tm 250 600 (60 * r) _ (som A i) (i / 32 % 8) hsl (by omega) (by omega) (by omega) (RBt_le (soN_rb (nT A)) (Nat.le_of_lt z1)) (fun j _ => rfl) (fun u hu => n6 u (by omega))
        rw [z2, if_neg (nI_pos (by omega))]
        unfold th at e3
        rw [hrn] at e3
        by_cases h7' : i / 32 % 8 < 7
        · have l2' : s2.1 249 r = nI len := by rw [← l2, I_ne (Or.inl (by omega))]
          simp (disch := omega) only [bind_s, bd2_s, rdI_ok, rdJ_ok, rdT_ok, ixR_ok, wrI_ok, wrJ_ok, wrT_none, pfI_s, pfJ_s, pfZ_0, pfZ_1, zr_b2, nl_n, nl_s, nI_add, nI_mul, nI_sub, nI_shlm, nI_shrd, nI_or8, nI_or8r, nI_or5r, nI_and255, nI_and31, nI_and7, nI_and1, nI_andK, nI_clr, Nat.one_mul, nI_eqz, nI_eqq, nI_ltq, nI_ltz, nI_zlt, nI_nm1, nI_m2, m1_z, m1_lt0, m1_m1, b2_z, nI1_z, nI0_z, tb_0, tb_1, ite_nI, I_at, I_ne, J_at, J_ne, J_setI, I_setJ, ↓reduceIte, ltN_T, ltN_F, eqN_T, eqN_F, pow8, pow5, b2_f0, b2_t0, reduceCtorEq, Bool.false_eq_true, Bool.true_eq_false, eq_self, false_and, true_and, and_false, and_true, not_false_eq_true, not_true_eq_false, h7', l2', hh]
          cases et : tc A r (som A i) (i / 32 % 8) with
          | true =>
            rw [et, if_pos ⟨rfl, h7'⟩] at e3
            simp (disch := omega) only [bind_s, bd2_s, rdI_ok, rdJ_ok, rdT_ok, ixR_ok, wrI_ok, wrJ_ok, wrT_none, pfI_s, pfJ_s, pfZ_0, pfZ_1, zr_b2, nl_n, nl_s, nI_add, nI_mul, nI_sub, nI_shlm, nI_shrd, nI_or8, nI_or8r, nI_or5r, nI_and255, nI_and31, nI_and7, nI_and1, nI_andK, nI_clr, Nat.one_mul, nI_eqz, nI_eqq, nI_ltq, nI_ltz, nI_zlt, nI_nm1, nI_m2, m1_z, m1_lt0, m1_m1, b2_z, nI1_z, nI0_z, tb_0, tb_1, ite_nI, I_at, I_ne, J_at, J_ne, J_setI, I_setJ, ↓reduceIte, ltN_T, ltN_F, eqN_T, eqN_F, pow8, pow5, b2_f0, b2_t0, reduceCtorEq, Bool.false_eq_true, Bool.true_eq_false, eq_self, false_and, true_and, and_false, and_true, not_false_eq_true, not_true_eq_false, e3]
            exact ⟨s3, rfl, fin⟩
          | false =>
            rw [et, if_neg (fun w => by cases w.1)] at e3
            simp (disch := omega) only [bind_s, bd2_s, rdI_ok, rdJ_ok, rdT_ok, ixR_ok, wrI_ok, wrJ_ok, wrT_none, pfI_s, pfJ_s, pfZ_0, pfZ_1, zr_b2, nl_n, nl_s, nI_add, nI_mul, nI_sub, nI_shlm, nI_shrd, nI_or8, nI_or8r, nI_or5r, nI_and255, nI_and31, nI_and7, nI_and1, nI_andK, nI_clr, Nat.one_mul, nI_eqz, nI_eqq, nI_ltq, nI_ltz, nI_zlt, nI_nm1, nI_m2, m1_z, m1_lt0, m1_m1, b2_z, nI1_z, nI0_z, tb_0, tb_1, ite_nI, I_at, I_ne, J_at, J_ne, J_setI, I_setJ, ↓reduceIte, ltN_T, ltN_F, eqN_T, eqN_F, pow8, pow5, b2_f0, b2_t0, reduceCtorEq, Bool.false_eq_true, Bool.true_eq_false, eq_self, false_and, true_and, and_false, and_true, not_false_eq_true, not_true_eq_false, e3]
            exact ⟨s3, rfl, fin⟩
        · rw [if_neg (fun w => h7' w.2)] at e3
          simp (disch := omega) only [bind_s, bd2_s, rdI_ok, rdJ_ok, rdT_ok, ixR_ok, wrI_ok, wrJ_ok, wrT_none, pfI_s, pfJ_s, pfZ_0, pfZ_1, zr_b2, nl_n, nl_s, nI_add, nI_mul, nI_sub, nI_shlm, nI_shrd, nI_or8, nI_or8r, nI_or5r, nI_and255, nI_and31, nI_and7, nI_and1, nI_andK, nI_clr, Nat.one_mul, nI_eqz, nI_eqq, nI_ltq, nI_ltz, nI_zlt, nI_nm1, nI_m2, m1_z, m1_lt0, m1_m1, b2_z, nI1_z, nI0_z, tb_0, tb_1, ite_nI, I_at, I_ne, J_at, J_ne, J_setI, I_setJ, ↓reduceIte, ltN_T, ltN_F, eqN_T, eqN_F, pow8, pow5, b2_f0, b2_t0, reduceCtorEq, Bool.false_eq_true, Bool.true_eq_false, eq_self, false_and, true_and, and_false, and_true, not_false_eq_true, not_true_eq_false, h7', e3]
          exact ⟨s3, rfl, fin⟩
    show ∃ y, f_X12_makeMoments_56 (n + 1) (nI i) s = f_X12_makeMoments_56 n (nI (i + 1)) y ∧ _
    rw [f_X12_makeMoments_56]
    have j28 : (setI s 267 i (-1)).1 247 28 = nI (cK A 1) := by rw [I_ne (Or.inl (by omega))]; exact c28
    have hd1 : i % 32 / 2 ^ cK A 1 ≤ 32 := Nat.le_trans (Nat.div_le_self _ _) (by omega)
    have hd2 : i / 256 / 2 ^ cK A 0 ≤ 4 := Nat.le_trans (Nat.div_le_self _ _) (by omega)
    by_cases b1 : i % 32 < 2 ^ cK A 1
    · have k1 : i % 32 / 2 ^ cK A 1 = 0 := Nat.div_eq_of_lt b1
      by_cases b2 : i / 256 < 2 ^ cK A 0
      · have k2 : i / 256 / 2 ^ cK A 0 = 0 := Nat.div_eq_of_lt b2
        rcases c27 with ⟨z1, z2, z3⟩ | ⟨r, z1, z2, z3, z4⟩
        · by_cases b3 : 0 < i / 32 % 8
          · simp (disch := omega) only [bind_s, bd2_s, rdI_ok, rdJ_ok, rdT_ok, ixR_ok, wrI_ok, wrJ_ok, wrT_none, pfI_s, pfJ_s, pfZ_0, pfZ_1, zr_b2, nl_n, nl_s, nI_add, nI_mul, nI_sub, nI_shlm, nI_shrd, nI_or8, nI_or8r, nI_or5r, nI_and255, nI_and31, nI_and7, nI_and1, nI_andK, nI_clr, Nat.one_mul, nI_eqz, nI_eqq, nI_ltq, nI_ltz, nI_zlt, nI_nm1, nI_m2, m1_z, m1_lt0, m1_m1, b2_z, nI1_z, nI0_z, tb_0, tb_1, ite_nI, I_at, I_ne, J_at, J_ne, J_setI, I_setJ, ↓reduceIte, ltN_T, ltN_F, eqN_T, eqN_F, pow8, pow5, b2_f0, b2_t0, reduceCtorEq, Bool.false_eq_true, Bool.true_eq_false, eq_self, false_and, true_and, and_false, and_true, not_false_eq_true, not_true_eq_false, c28, c29, k1, k2, z1, b3]
            exact ⟨_, rfl, bad (fun q => by have := q.2.2; omega)⟩
          · have := good ⟨b1, b2, Or.inl (by omega)⟩
            simp (disch := omega) only [bind_s, bd2_s, rdI_ok, rdJ_ok, rdT_ok, ixR_ok, wrI_ok, wrJ_ok, wrT_none, pfI_s, pfJ_s, pfZ_0, pfZ_1, zr_b2, nl_n, nl_s, nI_add, nI_mul, nI_sub, nI_shlm, nI_shrd, nI_or8, nI_or8r, nI_or5r, nI_and255, nI_and31, nI_and7, nI_and1, nI_andK, nI_clr, Nat.one_mul, nI_eqz, nI_eqq, nI_ltq, nI_ltz, nI_zlt, nI_nm1, nI_m2, m1_z, m1_lt0, m1_m1, b2_z, nI1_z, nI0_z, tb_0, tb_1, ite_nI, I_at, I_ne, J_at, J_ne, J_setI, I_setJ, ↓reduceIte, ltN_T, ltN_F, eqN_T, eqN_F, pow8, pow5, b2_f0, b2_t0, reduceCtorEq, Bool.false_eq_true, Bool.true_eq_false, eq_self, false_and, true_and, and_false, and_true, not_false_eq_true, not_true_eq_false, c28, c29, k1, k2, z1, b3]
            exact this
        · have := good ⟨b1, b2, Or.inr z4⟩
          simp (disch := omega) only [bind_s, bd2_s, rdI_ok, rdJ_ok, rdT_ok, ixR_ok, wrI_ok, wrJ_ok, wrT_none, pfI_s, pfJ_s, pfZ_0, pfZ_1, zr_b2, nl_n, nl_s, nI_add, nI_mul, nI_sub, nI_shlm, nI_shrd, nI_or8, nI_or8r, nI_or5r, nI_and255, nI_and31, nI_and7, nI_and1, nI_andK, nI_clr, Nat.one_mul, nI_eqz, nI_eqq, nI_ltq, nI_ltz, nI_zlt, nI_nm1, nI_m2, m1_z, m1_lt0, m1_m1, b2_z, nI1_z, nI0_z, tb_0, tb_1, ite_nI, I_at, I_ne, J_at, J_ne, J_setI, I_setJ, ↓reduceIte, ltN_T, ltN_F, eqN_T, eqN_F, pow8, pow5, b2_f0, b2_t0, reduceCtorEq, Bool.false_eq_true, Bool.true_eq_false, eq_self, false_and, true_and, and_false, and_true, not_false_eq_true, not_true_eq_false, c28, c29, k1, k2, z2]
          exact this
      · have k2 : ¬ i / 256 / 2 ^ cK A 0 = 0 := fun q => b2 (by rw [dv_z] at q; exact q)
        simp (disch := omega) only [bind_s, bd2_s, rdI_ok, rdJ_ok, rdT_ok, ixR_ok, wrI_ok, wrJ_ok, wrT_none, pfI_s, pfJ_s, pfZ_0, pfZ_1, zr_b2, nl_n, nl_s, nI_add, nI_mul, nI_sub, nI_shlm, nI_shrd, nI_or8, nI_or8r, nI_or5r, nI_and255, nI_and31, nI_and7, nI_and1, nI_andK, nI_clr, Nat.one_mul, nI_eqz, nI_eqq, nI_ltq, nI_ltz, nI_zlt, nI_nm1, nI_m2, m1_z, m1_lt0, m1_m1, b2_z, nI1_z, nI0_z, tb_0, tb_1, ite_nI, I_at, I_ne, J_at, J_ne, J_setI, I_setJ, ↓reduceIte, ltN_T, ltN_F, eqN_T, eqN_F, pow8, pow5, b2_f0, b2_t0, reduceCtorEq, Bool.false_eq_true, Bool.true_eq_false, eq_self, false_and, true_and, and_false, and_true, not_false_eq_true, not_true_eq_false, c28, c29, k1, k2]
        exact ⟨_, rfl, bad (fun q => b2 q.2.1)⟩
    · have k1 : ¬ i % 32 / 2 ^ cK A 1 = 0 := fun q => b1 (by rw [dv_z] at q; exact q)
      simp (disch := omega) only [bind_s, bd2_s, rdI_ok, rdJ_ok, rdT_ok, ixR_ok, wrI_ok, wrJ_ok, wrT_none, pfI_s, pfJ_s, pfZ_0, pfZ_1, zr_b2, nl_n, nl_s, nI_add, nI_mul, nI_sub, nI_shlm, nI_shrd, nI_or8, nI_or8r, nI_or5r, nI_and255, nI_and31, nI_and7, nI_and1, nI_andK, nI_clr, Nat.one_mul, nI_eqz, nI_eqq, nI_ltq, nI_ltz, nI_zlt, nI_nm1, nI_m2, m1_z, m1_lt0, m1_m1, b2_z, nI1_z, nI0_z, tb_0, tb_1, ite_nI, I_at, I_ne, J_at, J_ne, J_setI, I_setJ, ↓reduceIte, ltN_T, ltN_F, eqN_T, eqN_F, pow8, pow5, b2_f0, b2_t0, reduceCtorEq, Bool.false_eq_true, Bool.true_eq_false, eq_self, false_and, true_and, and_false, and_true, not_false_eq_true, not_true_eq_false, c28, k1]
      exact ⟨_, rfl, bad (fun q => b1 q.1)⟩
  · rintro n s -
    show f_X12_makeMoments_56 (n + 1) (nI 1024) s = _
    rw [f_X12_makeMoments_56]
    simp (disch := omega) only [bind_s, bd2_s, rdI_ok, rdJ_ok, rdT_ok, ixR_ok, wrI_ok, wrJ_ok, wrT_none, pfI_s, pfJ_s, pfZ_0, pfZ_1, zr_b2, nl_n, nl_s, nI_add, nI_mul, nI_sub, nI_shlm, nI_shrd, nI_or8, nI_or8r, nI_or5r, nI_and255, nI_and31, nI_and7, nI_and1, nI_andK, nI_clr, Nat.one_mul, nI_eqz, nI_eqq, nI_ltq, nI_ltz, nI_zlt, nI_nm1, nI_m2, m1_z, m1_lt0, m1_m1, b2_z, nI1_z, nI0_z, tb_0, tb_1, ite_nI, I_at, I_ne, J_at, J_ne, J_setI, I_setJ, ↓reduceIte, ltN_T, ltN_F, eqN_T, eqN_F, pow8, pow5, b2_f0, b2_t0, reduceCtorEq, Bool.false_eq_true, Bool.true_eq_false, eq_self, false_and, true_and, and_false, and_true, not_false_eq_true, not_true_eq_false]
  · rintro s ⟨e, h1, h2, h3⟩
    refine ⟨s, e, h1, h3, ?_, ?_, ?_⟩
    · rw [h2]; exact r27
    · rw [h2]; exact r28
    · rw [h2]; exact r29
end
