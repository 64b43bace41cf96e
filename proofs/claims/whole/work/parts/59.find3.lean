section
/-! ===== find ===== -/
variable {A : AW} {σ : ST} {d S h : Nat} {x : Nat × Nat}
theorem TB_fr {W : Nat → Prop} {s : ST} (t : TB A σ) (hF : Fr W σ s) (hW : ∀ y, W y → y ≠ 195 ∧ y ≠ 196) : TB A s := by
  intro f kept run h1 h2 h3
  obtain ⟨t1, t2⟩ := t f kept run h1 h2 h3
  exact ⟨by rw [hF.I (fun w => (hW _ w).1 rfl)]; exact t1, fun act ha => by rw [hF.I (fun w => (hW _ w).2 rfl)]; exact t2 act ha⟩
theorem FD_fr {W : Nat → Prop} {s : ST} (f : FD d A S σ) (hF : Fr W σ s) (hW : ¬ W d) : FD d A S s := ⟨by rw [hF.I hW]; exact f.1, by rw [hF.I hW]; exact f.2.1, by rw [hF.I hW]; exact f.2.2.1, by rw [hF.I hW]; exact f.2.2.2⟩
/-- what stands when prices are found -/
def FND (d : Nat) (A : AW) (S : Nat) (x : Nat × Nat) (σ : ST) : Prop := GX (d + 8) A S x σ ∧ FD d A S σ ∧ (∀ h i, h ≤ 12 → i < nSt A S → σ.1 (d + 1) (h * 1024 + i) = nI (CF A S x h i)) ∧ σ.1 d 12 = (if LE A S x < NV then nI (LE A S x) else -1) ∧ σ.2.1 d 13 = 0
theorem st_0 (a : AOK A) {low fl : Nat} (hl : low < LW A) : stc A low fl < 2 ^ cK A 1 ↔ fl = 0 ∧ low < 2 ^ cK A 1 := by
  have hK := K32 a
  have hP := Nat.two_pow_pos (cK A 1)
  obtain ⟨q1, q2, q3⟩ := lo_of hP hl
  have e : low / 2 ^ cK A 1 = 0 ↔ low < 2 ^ cK A 1 := by
    constructor
    · intro e
      rw [e, Nat.zero_mul] at q3
      omega
    · intro e; exact Nat.div_eq_of_lt e
  unfold stc
  constructor
  · intro w
    have h0 : low / 2 ^ cK A 1 = 0 := by omega
    exact ⟨by omega, e.mp h0⟩
  · rintro ⟨rfl, w⟩
    have h0 := e.mpr w
    have h1 := Nat.mod_eq_of_lt w
    omega
theorem CF_0 (a : AOK A) (i : Nat) : CF A S x 0 i = if i < 2 ^ cK A 1 then 0 else 1048576 := by
  have hLW := LW_256 a
  have hPL : 2 ^ cK A 1 ≤ LW A := by
    unfold LW RR
    split <;> omega
  unfold CF
  by_cases hl : i % 256 < LW A
  · rw [if_pos hl]
    have e := st_0 (fl := i / 256) a hl
    unfold cF FP Fw
    by_cases w : stc A (i % 256) (i / 256) < 2 ^ cK A 1
    · obtain ⟨w1, w2⟩ := e.mp w
      rw [if_pos w, if_pos (by unfold NV; omega), if_pos (by omega)]
    · rw [if_neg w, if_neg (by omega), if_neg]
      intro q
      exact w (e.mpr ⟨by omega, by omega⟩)
  · rw [if_neg hl, if_neg (by omega)]
theorem t_find34 (a : AOK A) (hd : d = 197 ∨ d = 213) (f : FD d A S σ) {k : ST → Option (Int32 × ST)} : ∃ s, f_X2_find_34 d k FU (nI 0) σ = k s ∧ Fr (fun y => y = d + 1) σ s ∧ (∀ i, i < 2 ^ cK A 1 → s.1 (d + 1) i = nI 0) ∧ ∀ j, 2 ^ cK A 1 ≤ j → s.1 (d + 1) j = σ.1 (d + 1) j := by
  have hK := K32 a
  have hK5 := a.2.2.1.2.1
  refine loopE (fun n i s => f_X2_find_34 d k n (nI i) s) (2 ^ cK A 1) (fun i s => Fr (fun y => y = d + 1) σ s ∧ (∀ j, j < i → s.1 (d + 1) j = nI 0) ∧ ∀ j, 2 ^ cK A 1 ≤ j → s.1 (d + 1) j = σ.1 (d + 1) j) (fun s => k s) ?_ ?_ FU 0 σ (by rw [FU_eq]; omega) (Nat.zero_le _) ⟨Fr.rf _ _, fun j hj => by omega, fun j _ => rfl⟩
  · rintro n i s hi ⟨hF, hv, ho⟩ Q hQ
    have f7 : s.1 d 7 = nI (cK A 1) := by rw [hF.I (by omega)]; exact f.1
    show ∃ y, f_X2_find_34 d k (n + 1) (nI i) s = f_X2_find_34 d k n (nI (i + 1)) y ∧ _
    rw [f_X2_find_34]
    simp (disch := omega) only [bind_s, bd2_s, rdI_ok, rdJ_ok, rdT_ok, ixR_ok, wrI_ok, wrJ_ok, wrT_none, pfI_s, pfJ_s, pfZ_0, pfZ_1, zr_b2, nl_n, nl_s, nI_add, nI_mul, nI_sub, nI_shlm, nI_shrd, nI_or8, nI_or8r, nI_or5r, nI_and255, nI_and31, nI_and7, nI_and1, nI_andK, nI_clr, Nat.one_mul, nI_eqz, nI_eqq, nI_ltq, nI_ltz, nI_zlt, nI_nm1, nI_m2, m1_z, m1_lt0, m1_m1, b2_z, nI1_z, nI0_z, tb_0, tb_1, ite_nI, I_at, I_ne, J_at, J_ne, J_setI, I_setJ, ↓reduceIte, ltN_T, ltN_F, eqN_T, eqN_F, pow8, pow5, b2_f0, b2_t0, reduceCtorEq, Bool.false_eq_true, Bool.true_eq_false, eq_self, false_and, true_and, and_false, and_true, not_false_eq_true, not_true_eq_false, f7]
    refine ⟨_, rfl, hQ _ ⟨hF.tr (Fr_setI rfl), fun j hj => ?_, fun j hj => ?_⟩⟩
    · by_cases e : j = i
      · subst e; rw [I_at]
      · rw [I_ne (Or.inr (by omega))]; exact hv j (by omega)
    · rw [I_ne (Or.inr (by omega))]; exact ho j hj
  · rintro n s ⟨hF, -, -⟩
    have f7 : s.1 d 7 = nI (cK A 1) := by rw [hF.I (by omega)]; exact f.1
    show f_X2_find_34 d k (n + 1) (nI (2 ^ cK A 1)) s = _
    rw [f_X2_find_34]
    simp (disch := omega) only [bind_s, bd2_s, rdI_ok, rdJ_ok, rdT_ok, ixR_ok, wrI_ok, wrJ_ok, wrT_none, pfI_s, pfJ_s, pfZ_0, pfZ_1, zr_b2, nl_n, nl_s, nI_add, nI_mul, nI_sub, nI_shlm, nI_shrd, nI_or8, nI_or8r, nI_or5r, nI_and255, nI_and31, nI_and7, nI_and1, nI_andK, nI_clr, Nat.one_mul, nI_eqz, nI_eqq, nI_ltq, nI_ltz, nI_zlt, nI_nm1, nI_m2, m1_z, m1_lt0, m1_m1, b2_z, nI1_z, nI0_z, tb_0, tb_1, ite_nI, I_at, I_ne, J_at, J_ne, J_setI, I_setJ, ↓reduceIte, ltN_T, ltN_F, eqN_T, eqN_F, pow8, pow5, b2_f0, b2_t0, reduceCtorEq, Bool.false_eq_true, Bool.true_eq_false, eq_self, false_and, true_and, and_false, and_true, not_false_eq_true, not_true_eq_false, f7]
theorem t_find62 (a : AOK A) (hd : d = 197 ∨ d = 213) (c : CR 2 A σ) (t : TB A σ) (g : GX (d + 8) A S x σ) (f : FD d A S σ) (hc : ∀ i, i < nSt A S → σ.1 (d + 1) i = nI (CF A S x 0 i)) {k : ST → Option (Int32 × ST)} : ∃ s, f_X2_find_62 d k FU (nI 0) σ = k s ∧ Fr (fun y => d + 1 ≤ y ∧ y ≤ d + 3) σ s ∧ ∀ h i, h ≤ 12 → i < nSt A S → s.1 (d + 1) (h * 1024 + i) = nI (CF A S x h i) := by
  have hn := nSt_le (S := S) a
  refine Exists.elim (loopE (fun n h s => f_X2_find_62 d k n (nI h) s) 12 (fun h s => Fr (fun y => d + 1 ≤ y ∧ y ≤ d + 3) σ s ∧ ∀ g i, g ≤ h → i < nSt A S → s.1 (d + 1) (g * 1024 + i) = nI (CF A S x g i)) (fun s => k s) ?_ ?_ FU 0 σ (by rw [FU_eq]; omega) (by omega) ⟨Fr.rf _ _, fun g i hg hi => ?_⟩) ?_
  · rintro n h s hh ⟨hF, hv⟩ Q hQ
    obtain ⟨s1, s2, e1, e2, F2, o2, v2⟩ := t_hour a hd hh (CR_fr a c hF (fun y hy => by omega)) (TB_fr t hF (fun y hy => by omega)) (GX_fr g hF (fun y hy => by omega)) (FD_fr f hF (by omega)) (fun i hi => hv h i (Nat.le_refl _) hi)
    show ∃ y, f_X2_find_62 d k (n + 1) (nI h) s = f_X2_find_62 d k n (nI (h + 1)) y ∧ _
    rw [f_X2_find_62]
    simp (disch := omega) only [bind_s, bd2_s, rdI_ok, rdJ_ok, rdT_ok, ixR_ok, wrI_ok, wrJ_ok, wrT_none, pfI_s, pfJ_s, pfZ_0, pfZ_1, zr_b2, nl_n, nl_s, nI_add, nI_mul, nI_sub, nI_shlm, nI_shrd, nI_or8, nI_or8r, nI_or5r, nI_and255, nI_and31, nI_and7, nI_and1, nI_andK, nI_clr, Nat.one_mul, nI_eqz, nI_eqq, nI_ltq, nI_ltz, nI_zlt, nI_nm1, nI_m2, m1_z, m1_lt0, m1_m1, b2_z, nI1_z, nI0_z, tb_0, tb_1, ite_nI, I_at, I_ne, J_at, J_ne, J_setI, I_setJ, ↓reduceIte, ltN_T, ltN_F, eqN_T, eqN_F, pow8, pow5, b2_f0, b2_t0, reduceCtorEq, Bool.false_eq_true, Bool.true_eq_false, eq_self, false_and, true_and, and_false, and_true, not_false_eq_true, not_true_eq_false, e1, e2]
    refine ⟨s2, rfl, hQ _ ⟨hF.tr F2, fun g i hg hi => ?_⟩⟩
    by_cases e : g = h + 1
    · subst e; exact v2 i hi
    · have hj : g * 1024 + i < (h + 1) * 1024 := by
        have h1 : g ≤ h := by omega
        have h2 : (g + 1) * 1024 ≤ (h + 1) * 1024 := Nat.mul_le_mul_right _ (by omega)
        rw [Nat.succ_mul] at h2
        exact Nat.lt_of_lt_of_le (Nat.add_lt_add_left (Nat.lt_of_lt_of_le hi hn) _) h2
      rw [o2 _ hj]
      exact hv g i (by omega) hi
  · rintro n s -
    show f_X2_find_62 d k (n + 1) (nI 12) s = _
    rw [f_X2_find_62]
    simp (disch := omega) only [bind_s, bd2_s, rdI_ok, rdJ_ok, rdT_ok, ixR_ok, wrI_ok, wrJ_ok, wrT_none, pfI_s, pfJ_s, pfZ_0, pfZ_1, zr_b2, nl_n, nl_s, nI_add, nI_mul, nI_sub, nI_shlm, nI_shrd, nI_or8, nI_or8r, nI_or5r, nI_and255, nI_and31, nI_and7, nI_and1, nI_andK, nI_clr, Nat.one_mul, nI_eqz, nI_eqq, nI_ltq, nI_ltz, nI_zlt, nI_nm1, nI_m2, m1_z, m1_lt0, m1_m1, b2_z, nI1_z, nI0_z, tb_0, tb_1, ite_nI, I_at, I_ne, J_at, J_ne, J_setI, I_setJ, ↓reduceIte, ltN_T, ltN_F, eqN_T, eqN_F, pow8, pow5, b2_f0, b2_t0, reduceCtorEq, Bool.false_eq_true, Bool.true_eq_false, eq_self, false_and, true_and, and_false, and_true, not_false_eq_true, not_true_eq_false]
  · have : g = 0 := by omega
    subst this
    rw [Nat.zero_mul, Nat.zero_add]
    exact hc i hi
  · rintro s ⟨e, h1, h2⟩
    exact ⟨s, e, h1, h2⟩
theorem best_eq (a : AOK A) {v : Nat} (m : Mn 1048576 (fun y => ∃ i, i < nSt A S ∧ y = CF A S x 12 i) v) : v = cF (LE A S x) := by
  have hLW := LW_256 a
  have m2 := mn_sp NV (fun y => ∃ s, y = Fw (prn (EG A S x) (Dd A S)) (2 ^ cK A 1) 12 s)
  rw [Le_p (EG_v a)] at m2
  have m3 := Mn_cut (M := 1048576) (by unfold NV; omega) m2
  have hle : LE A S x < NV → LE A S x ≤ 1188 := by
    intro w
    obtain ⟨s, hs⟩ := m2.2.2 w
    have h2 : LE A S x = FP A S x 12 s := hs
    have := FP_99 (A := A) (S := S) (x := x) (h := 12) (s := s) a (by omega)
    omega
  have e2 : (if Le (EG A S x) (2 ^ cK A 1) (glS A S) < 1048576 then Le (EG A S x) (2 ^ cK A 1) (glS A S) else 1048576) = cF (LE A S x) := by
    show (if LE A S x < 1048576 then LE A S x else 1048576) = _
    unfold cF
    by_cases w : LE A S x < NV
    · have := hle w
      rw [if_pos (by omega), if_pos w]
    · unfold NV at w ⊢
      rw [if_neg (by omega), if_neg w]
  rw [e2] at m3
  refine Mn_un2 (fun y hy => ?_) m m3
  constructor
  · rintro ⟨i, hi, rfl⟩
    unfold CF at hy ⊢
    split at hy
    · rename_i hl
      rw [if_pos hl]
      unfold cF at hy ⊢
      split at hy
      · rename_i w; rw [if_pos w]; exact ⟨_, rfl⟩
      · omega
    · omega
  · rintro ⟨s, rfl⟩
    have hf : FP A S x 12 s < NV := by
      show Fw (prn (EG A S x) (Dd A S)) (2 ^ cK A 1) 12 s < NV
      unfold NV; omega
    obtain ⟨v1, v2⟩ := prn_fw a hf
    obtain ⟨w1, w2⟩ := lwc_lt a v1
    refine ⟨s / 256 * 256 + lwc A s, ix_lt v2 w1, ?_⟩
    rw [CF_at a w1, w2]
    unfold cF
    rw [if_pos hf]
    rfl
theorem LE_le (a : AOK A) (w : LE A S x < NV) : LE A S x ≤ 1188 := by
  have m2 := mn_sp NV (fun y => ∃ s, y = Fw (prn (EG A S x) (Dd A S)) (2 ^ cK A 1) 12 s)
  rw [Le_p (EG_v a)] at m2
  obtain ⟨s, hs⟩ := m2.2.2 w
  have h2 : LE A S x = FP A S x 12 s := hs
  have := FP_99 (A := A) (S := S) (x := x) (h := 12) (s := s) a (by omega)
  omega
theorem t_find22 (a : AOK A) (hd : d = 197 ∨ d = 213) (c : CR 2 A σ) (t : TB A σ) (g : GX (d + 8) A S x σ) : ∃ s, f_X2_find_22 d σ = some (b2 (decide (LE A S x < NV)), s) ∧ Fr (fun y => d ≤ y ∧ y ≤ d + 3) σ s ∧ FND d A S x s := by
  have hn := nSt_le (S := S) a
  obtain ⟨s1, e1, F1, f1⟩ := t_sizeUp (S := S) a hd c g.2
  have c1 := CR_fr a c F1 (fun y hy => by omega)
  have g1 := GX_fr g F1 (fun y hy => by omega)
  have t1 := TB_fr t F1 (fun y hy => by omega)
  obtain ⟨s2, e2, F2, v2, o2⟩ := t_clear (h := 0) a hd (by omega) f1
  have f2 := FD_fr f1 F2 (by omega)
  have hLE := LE_le (S := S) (x := x) a
  unfold f_X2_find_22
  simp (disch := omega) only [bind_s, bd2_s, rdI_ok, rdJ_ok, rdT_ok, ixR_ok, wrI_ok, wrJ_ok, wrT_none, pfI_s, pfJ_s, pfZ_0, pfZ_1, zr_b2, nl_n, nl_s, nI_add, nI_mul, nI_sub, nI_shlm, nI_shrd, nI_or8, nI_or8r, nI_or5r, nI_and255, nI_and31, nI_and7, nI_and1, nI_andK, nI_clr, Nat.one_mul, nI_eqz, nI_eqq, nI_ltq, nI_ltz, nI_zlt, nI_nm1, nI_m2, m1_z, m1_lt0, m1_m1, b2_z, nI1_z, nI0_z, tb_0, tb_1, ite_nI, I_at, I_ne, J_at, J_ne, J_setI, I_setJ, ↓reduceIte, ltN_T, ltN_F, eqN_T, eqN_F, pow8, pow5, b2_f0, b2_t0, reduceCtorEq, Bool.false_eq_true, Bool.true_eq_false, eq_self, false_and, true_and, and_false, and_true, not_false_eq_true, not_true_eq_false, e1, e2]
  obtain ⟨s3, e3, F3, v3, o3⟩ := t_find34 a hd f2 (k := fun s5 => f_X2_find_62 d (fun s8 => f_X2_find_97 d (fun x4_10 s11 => if x4_10 < nI 1048576 then f_X2_find_144 d d x4_10 x4_10 s11 else f_X2_find_144 d d x4_10 (-1) s11) FU (nI 1048576) (nI 0) s8) FU (nI 0) s5)
  rw [e3]
  have c3 := CR_fr a (CR_fr a c1 F2 (fun y hy => by omega)) F3 (fun y hy => by omega)
  have t3 := TB_fr (TB_fr t1 F2 (fun y hy => by omega)) F3 (fun y hy => by omega)
  have g3 := GX_fr (GX_fr g1 F2 (fun y hy => by omega)) F3 (fun y hy => by omega)
  have f3 := FD_fr f2 F3 (by omega)
  have h0 : ∀ i, i < nSt A S → s3.1 (d + 1) i = nI (CF A S x 0 i) := by
    intro i hi
    rw [CF_0 a]
    by_cases w : i < 2 ^ cK A 1
    · rw [if_pos w]; exact v3 i w
    · have := v2 i hi
      rw [Nat.zero_mul, Nat.zero_add] at this
      rw [if_neg w, o3 i (by omega)]; exact this
  obtain ⟨s4, e4, F4, v4⟩ := t_find62 a hd c3 t3 g3 f3 h0 (k := fun s8 => f_X2_find_97 d (fun x4_10 s11 => if x4_10 < nI 1048576 then f_X2_find_144 d d x4_10 x4_10 s11 else f_X2_find_144 d d x4_10 (-1) s11) FU (nI 1048576) (nI 0) s8)
  rw [e4]
  have f4 := FD_fr f3 F4 (by omega)
  have f10 : s4.1 d 10 = nI (nSt A S) := by rw [nSt_eq]; exact f4.2.2.2
  have L : ∃ v : Nat, f_X2_find_97 d (fun x4_10 s11 => if x4_10 < nI 1048576 then f_X2_find_144 d d x4_10 x4_10 s11 else f_X2_find_144 d d x4_10 (-1) s11) FU (nI 1048576) (nI 0) s4 = (if nI v < nI 1048576 then f_X2_find_144 d d (nI v) (nI v) s4 else f_X2_find_144 d d (nI v) (-1) s4) ∧ Mn 1048576 (fun y => ∃ i, i < nSt A S ∧ y = CF A S x 12 i) v := by
    refine loopE (fun n i v => f_X2_find_97 d (fun x4_10 s11 => if x4_10 < nI 1048576 then f_X2_find_144 d d x4_10 x4_10 s11 else f_X2_find_144 d d x4_10 (-1) s11) n (nI v) (nI i) s4) (nSt A S) (fun i v => Mn 1048576 (fun y => ∃ j, j < i ∧ y = CF A S x 12 j) v) (fun v => if nI v < nI 1048576 then f_X2_find_144 d d (nI v) (nI v) s4 else f_X2_find_144 d d (nI v) (-1) s4) ?_ ?_ FU 0 1048576 (by rw [FU_eq]; omega) (Nat.zero_le _) (Mn_emp (fun y q => by obtain ⟨_, q, _⟩ := q; omega))
    · intro n i v hi hm Q hQ
      have e12 := v4 12 i (by omega) hi
      have hv := hm.1
      have hcf := CF_ok (S := S) (x := x) (h := 12) a (by omega) i
      have hix : 12288 + i < 13312 := by omega
      show ∃ y, f_X2_find_97 d _ (n + 1) (nI v) (nI i) s4 = f_X2_find_97 d _ n (nI y) (nI (i + 1)) s4 ∧ _
      rw [f_X2_find_97]
      have e12' : s4.1 (d + 1) (12288 + i) = nI (CF A S x 12 i) := e12
      simp (disch := omega) only [bind_s, bd2_s, rdT_ok, ixR_ok, wrT_none, pfI_s, pfJ_s, pfZ_0, pfZ_1, zr_b2, nl_n, nl_s, nI_add, nI_mul, nI_sub, nI_shlm, nI_shrd, nI_or8, nI_or8r, nI_or5r, nI_and255, nI_and31, nI_and7, nI_and1, nI_andK, nI_clr, Nat.one_mul, nI_eqz, nI_eqq, nI_ltq, nI_ltz, nI_zlt, nI_nm1, nI_m2, m1_z, m1_lt0, m1_m1, b2_z, nI1_z, nI0_z, tb_0, tb_1, ite_nI, I_at, I_ne, J_at, J_ne, J_setI, I_setJ, ↓reduceIte, ltN_T, ltN_F, eqN_T, eqN_F, pow8, pow5, b2_f0, b2_t0, reduceCtorEq, Bool.false_eq_true, Bool.true_eq_false, eq_self, false_and, true_and, and_false, and_true, not_false_eq_true, not_true_eq_false, f10]
      rw [rdI_ok hix (by decide), e12']
      simp (disch := omega) only [bind_s, bd2_s, rdI_ok, rdJ_ok, rdT_ok, ixR_ok, wrI_ok, wrJ_ok, wrT_none, pfI_s, pfJ_s, pfZ_0, pfZ_1, zr_b2, nl_n, nl_s, nI_add, nI_mul, nI_sub, nI_shlm, nI_shrd, nI_or8, nI_or8r, nI_or5r, nI_and255, nI_and31, nI_and7, nI_and1, nI_andK, nI_clr, Nat.one_mul, nI_eqz, nI_eqq, nI_ltq, nI_ltz, nI_zlt, nI_nm1, nI_m2, m1_z, m1_lt0, m1_m1, b2_z, nI1_z, nI0_z, tb_0, tb_1, ite_nI, I_at, I_ne, J_at, J_ne, J_setI, I_setJ, ↓reduceIte, ltN_T, ltN_F, eqN_T, eqN_F, pow8, pow5, b2_f0, b2_t0, reduceCtorEq, Bool.false_eq_true, Bool.true_eq_false, eq_self, false_and, true_and, and_false, and_true, not_false_eq_true, not_true_eq_false]
      refine ⟨_, rfl, hQ _ (Mn_add hm fun y => ?_)⟩
      constructor
      · rintro ⟨j, hj, rfl⟩
        by_cases e : j = i
        · subst e; exact Or.inr rfl
        · exact Or.inl ⟨j, by omega, rfl⟩
      · rintro (⟨j, hj, rfl⟩ | rfl)
        · exact ⟨j, by omega, rfl⟩
        · exact ⟨i, by omega, rfl⟩
    · intro n v _
      show f_X2_find_97 d _ (n + 1) (nI v) (nI (nSt A S)) s4 = _
      rw [f_X2_find_97]
      simp (disch := omega) only [bind_s, bd2_s, rdI_ok, rdJ_ok, rdT_ok, ixR_ok, wrI_ok, wrJ_ok, wrT_none, pfI_s, pfJ_s, pfZ_0, pfZ_1, zr_b2, nl_n, nl_s, nI_add, nI_mul, nI_sub, nI_shlm, nI_shrd, nI_or8, nI_or8r, nI_or5r, nI_and255, nI_and31, nI_and7, nI_and1, nI_andK, nI_clr, Nat.one_mul, nI_eqz, nI_eqq, nI_ltq, nI_ltz, nI_zlt, nI_nm1, nI_m2, m1_z, m1_lt0, m1_m1, b2_z, nI1_z, nI0_z, tb_0, tb_1, ite_nI, I_at, I_ne, J_at, J_ne, J_setI, I_setJ, ↓reduceIte, ltN_T, ltN_F, eqN_T, eqN_F, pow8, pow5, b2_f0, b2_t0, reduceCtorEq, Bool.false_eq_true, Bool.true_eq_false, eq_self, false_and, true_and, and_false, and_true, not_false_eq_true, not_true_eq_false, f10]
  obtain ⟨v, e5, m5⟩ := L
  rw [e5]
  have hv := best_eq a m5
  have hv1 := m5.1
  have FF : Fr (fun y => d ≤ y ∧ y ≤ d + 3) σ s4 := (((F1.mono (fun y hy => by omega)).tr (F2.mono (fun y hy => by omega))).tr (F3.mono (fun y hy => by omega))).tr (F4.mono (fun y hy => by omega))
  have g4 := GX_fr g3 F4 (fun y hy => by omega)
  have fin : ∀ z : Int32, z = (if LE A S x < NV then nI (LE A S x) else -1) → Fr (fun y => d ≤ y ∧ y ≤ d + 3) σ (setJ (setI s4 d 12 z) d 13 0) ∧ FND d A S x (setJ (setI s4 d 12 z) d 13 0) := by
    intro z hz
    have G1 : Fr (fun y => y = d) s4 (setI s4 d 12 z) := Fr_setI rfl
    have G2 : Fr (fun y => y = d) (setI s4 d 12 z) (setJ (setI s4 d 12 z) d 13 0) := Fr_setJ rfl
    have G := G1.tr G2
    refine ⟨FF.tr (G.mono (fun y hy => by omega)), GX_fr g4 G (fun y hy => by omega), ?_, fun h i h1 h2 => ?_, ?_, ?_⟩
    · obtain ⟨q1, q2, q3, q4⟩ := f4
      exact ⟨by rw [I_setJ, I_ne (Or.inr (by omega))]; exact q1, by rw [I_setJ, I_ne (Or.inr (by omega))]; exact q2, by rw [I_setJ, I_ne (Or.inr (by omega))]; exact q3, by rw [I_setJ, I_ne (Or.inr (by omega))]; exact q4⟩
    · rw [G.I (by omega)]; exact v4 h i h1 h2
    · rw [I_setJ, I_at]; exact hz
    · rw [J_at]
  have u144 : ∀ z : Int32, f_X2_find_144 d d (nI v) z s4 = some (b2 (decide (v < 1048576)), setJ (setI s4 d 12 z) d 13 0) := by
    intro z
    unfold f_X2_find_144
    by_cases w : v < 1048576
    · rw [decide_eq_true w]
      simp (disch := omega) only [bind_s, bd2_s, rdI_ok, rdJ_ok, rdT_ok, ixR_ok, wrI_ok, wrJ_ok, wrT_none, pfI_s, pfJ_s, pfZ_0, pfZ_1, zr_b2, nl_n, nl_s, nI_add, nI_mul, nI_sub, nI_shlm, nI_shrd, nI_or8, nI_or8r, nI_or5r, nI_and255, nI_and31, nI_and7, nI_and1, nI_andK, nI_clr, Nat.one_mul, nI_eqz, nI_eqq, nI_ltq, nI_ltz, nI_zlt, nI_nm1, nI_m2, m1_z, m1_lt0, m1_m1, b2_z, nI1_z, nI0_z, tb_0, tb_1, ite_nI, I_at, I_ne, J_at, J_ne, J_setI, I_setJ, ↓reduceIte, ltN_T, ltN_F, eqN_T, eqN_F, pow8, pow5, b2_f0, b2_t0, reduceCtorEq, Bool.false_eq_true, Bool.true_eq_false, eq_self, false_and, true_and, and_false, and_true, not_false_eq_true, not_true_eq_false, w, b2_1]
    · rw [decide_eq_false w]
      simp (disch := omega) only [bind_s, bd2_s, rdI_ok, rdJ_ok, rdT_ok, ixR_ok, wrI_ok, wrJ_ok, wrT_none, pfI_s, pfJ_s, pfZ_0, pfZ_1, zr_b2, nl_n, nl_s, nI_add, nI_mul, nI_sub, nI_shlm, nI_shrd, nI_or8, nI_or8r, nI_or5r, nI_and255, nI_and31, nI_and7, nI_and1, nI_andK, nI_clr, Nat.one_mul, nI_eqz, nI_eqq, nI_ltq, nI_ltz, nI_zlt, nI_nm1, nI_m2, m1_z, m1_lt0, m1_m1, b2_z, nI1_z, nI0_z, tb_0, tb_1, ite_nI, I_at, I_ne, J_at, J_ne, J_setI, I_setJ, ↓reduceIte, ltN_T, ltN_F, eqN_T, eqN_F, pow8, pow5, b2_f0, b2_t0, reduceCtorEq, Bool.false_eq_true, Bool.true_eq_false, eq_self, false_and, true_and, and_false, and_true, not_false_eq_true, not_true_eq_false, w, b2_0]
  rw [u144, u144]
  by_cases w : LE A S x < NV
  · have := hLE w
    have hv2 : v = LE A S x := by rw [hv]; unfold cF; rw [if_pos w]
    rw [if_pos (by rw [nI_ltq (by omega) (by omega)]; omega)]
    obtain ⟨r1, r2⟩ := fin (nI v) (by rw [if_pos w, hv2])
    refine ⟨_, ?_, r1, r2⟩
    rw [decide_eq_true w, decide_eq_true (by omega)]
  · have hv2 : v = 1048576 := by rw [hv]; unfold cF; rw [if_neg w]
    rw [if_neg (by rw [nI_ltq (by omega) (by omega)]; omega)]
    obtain ⟨r1, r2⟩ := fin (-1) (by rw [if_neg w])
    refine ⟨_, ?_, r1, r2⟩
    rw [decide_eq_false w, decide_eq_false (by omega)]
theorem t_find (a : AOK A) (hd : d = 197 ∨ d = 213) (c : CR 2 A σ) (t : TB A σ) (hS : S < 2 ^ 16) (hx : 12 ≤ x.1) : ∃ s, f_X2_find d (nI S) (-1) (-1) σ = some (b2 (decide (LE A S x < NV)), s) ∧ Fr (fun y => d ≤ y ∧ y ≤ d + 15) σ s ∧ FND d A S x s := by
  obtain ⟨s1, e1, F1, g1⟩ := t_gather (q := d + 8) a (by omega) c S hS
  obtain ⟨s, e2, F2, r⟩ := t_find22 (x := x) a hd (CR_fr a c F1 (fun y hy => by omega)) (TB_fr t F1 (fun y hy => by omega)) (GX_none a g1 hx)
  refine ⟨s, ?_, (F1.mono (fun y hy => by omega)).tr (F2.mono (fun y hy => by omega)), r⟩
  unfold f_X2_find
  simp (disch := omega) only [bind_s, bd2_s, rdI_ok, rdJ_ok, rdT_ok, ixR_ok, wrI_ok, wrJ_ok, wrT_none, pfI_s, pfJ_s, pfZ_0, pfZ_1, zr_b2, nl_n, nl_s, nI_add, nI_mul, nI_sub, nI_shlm, nI_shrd, nI_or8, nI_or8r, nI_or5r, nI_and255, nI_and31, nI_and7, nI_and1, nI_andK, nI_clr, Nat.one_mul, nI_eqz, nI_eqq, nI_ltq, nI_ltz, nI_zlt, nI_nm1, nI_m2, m1_z, m1_lt0, m1_m1, b2_z, nI1_z, nI0_z, tb_0, tb_1, ite_nI, I_at, I_ne, J_at, J_ne, J_setI, I_setJ, ↓reduceIte, ltN_T, ltN_F, eqN_T, eqN_F, pow8, pow5, b2_f0, b2_t0, reduceCtorEq, Bool.false_eq_true, Bool.true_eq_false, eq_self, false_and, true_and, and_false, and_true, not_false_eq_true, not_true_eq_false, e1, e2]
theorem t_findX (a : AOK A) (hd : d = 197 ∨ d = 213) (c : CR 2 A σ) (t : TB A σ) (hS : S < 2 ^ 16) (hx : x.1 < 12) (hx2 : x.2 < nH A) : ∃ s, f_X2_find d (nI S) (nI x.2) (nI x.1) σ = some (b2 (decide (LE A S x < NV)), s) ∧ Fr (fun y => d ≤ y ∧ y ≤ d + 15) σ s ∧ FND d A S x s := by
  obtain ⟨s1, e1, F1, g1⟩ := t_gather (q := d + 8) a (by omega) c S hS
  obtain ⟨s2, e2, F2, g2⟩ := GX_one a (by omega) g1 hx hx2
  have hH := a.1.2.1
  obtain ⟨s, e3, F3, r⟩ := t_find22 (x := x) a hd (CR_fr a (CR_fr a c F1 (fun y hy => by omega)) F2 (fun y hy => by omega)) (TB_fr (TB_fr t F1 (fun y hy => by omega)) F2 (fun y hy => by omega)) g2
  refine ⟨s, ?_, ((F1.mono (fun y hy => by omega)).tr (F2.mono (fun y hy => by omega))).tr (F3.mono (fun y hy => by omega)), r⟩
  unfold f_X2_find
  simp (disch := omega) only [bind_s, bd2_s, rdI_ok, rdJ_ok, rdT_ok, ixR_ok, wrI_ok, wrJ_ok, wrT_none, pfI_s, pfJ_s, pfZ_0, pfZ_1, zr_b2, nl_n, nl_s, nI_add, nI_mul, nI_sub, nI_shlm, nI_shrd, nI_or8, nI_or8r, nI_or5r, nI_and255, nI_and31, nI_and7, nI_and1, nI_andK, nI_clr, Nat.one_mul, nI_eqz, nI_eqq, nI_ltq, nI_ltz, nI_zlt, nI_nm1, nI_m2, m1_z, m1_lt0, m1_m1, b2_z, nI1_z, nI0_z, tb_0, tb_1, ite_nI, I_at, I_ne, J_at, J_ne, J_setI, I_setJ, ↓reduceIte, ltN_T, ltN_F, eqN_T, eqN_F, pow8, pow5, b2_f0, b2_t0, reduceCtorEq, Bool.false_eq_true, Bool.true_eq_false, eq_self, false_and, true_and, and_false, and_true, not_false_eq_true, not_true_eq_false, e1, e2, e3]
end
