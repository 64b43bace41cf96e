section
/-! ===== the reference counts courses: the loops ===== -/
variable {A : AW} {σ : ST} {S h : Nat} {x : Nat × Nat}
def F8 (y : Nat) : Prop := (278 ≤ y ∧ y ≤ 281) ∨ y = 286 ∨ y = 287
theorem Fq.J {W : Nat → Prop} {σ s : ST} (h : Fq W σ s) {y : Nat} (h1 : y ≠ 247) (h2 : ¬ W y) (k : Nat) : s.2.1 y k = σ.2.1 y k := h.1.J (fun q => q.elim h1 h2) k
theorem nlt1024 : ¬ nI 1024 < nI 1024 := by decide
theorem PS_nil (n t : Nat) : PS A S x h n [] t = sm n (Wz A S x h t) := by
  unfold PS
  rw [ls, Nat.add_zero]
theorem PS_1024 (t : Nat) : PS A S x h 1024 [] t = NF A S x (h + 1) t := by rw [PS_nil, NF_succ]
theorem gz_z {s t : Nat} {z : Nat × Nat} (c : NF A S x h s = 0) : gz A S x h s t z = 0 := by
  unfold gz
  split
  · exact c
  · rfl
theorem t_co71 {x3 : Int32} {y1 : Int64} {k : Int64 → Int32 → ST → Option (Int64 × ST)} : ∃ u, f_X12_courses_71 k FU y1 x3 (nI 0) σ = k y1 x3 u ∧ Fr (fun y => y = 287) σ u ∧ ∀ t, t < 1024 → u.2.1 287 t = lN 0 := by
  refine Exists.elim (loopE (fun n i u => f_X12_courses_71 k n y1 x3 (nI i) u) 1024 (fun i u => Fr (fun y => y = 287) σ u ∧ ∀ t, t < i → u.2.1 287 t = lN 0) (fun u => k y1 x3 u) ?_ ?_ FU 0 σ (by rw [FU_eq]; omega) (by omega) ⟨Fr.rf _ _, fun t ht => by omega⟩) ?_
  · rintro n i u hi ⟨hF, hm⟩ Q hQ
    show ∃ y, f_X12_courses_71 k (n + 1) y1 x3 (nI i) u = f_X12_courses_71 k n y1 x3 (nI (i + 1)) y ∧ _
    rw [f_X12_courses_71, if_pos (lt1024 hi), wrJ_ok hi (by decide)]
    simp only [bind_s]
    rw [nI_add]
    refine ⟨_, rfl, hQ _ ⟨hF.tr (Fr_setJ rfl), fun t ht => ?_⟩⟩
    by_cases c : t = i
    · subst c; rw [J_at]; rfl
    · rw [J_ne (Or.inr c)]; exact hm t (by omega)
  · rintro n u -
    show f_X12_courses_71 k (n + 1) _ _ (nI 1024) u = _
    rw [f_X12_courses_71, if_neg nlt1024]
  · rintro u ⟨e, h1, h2⟩
    exact ⟨u, e, h1, h2⟩
theorem t_co96 (a : AOK A) (v : SV A S x σ) (hL : LE A S x < 100000000) (hh : h < 12) (mm : ∀ s, s < 1024 → σ.2.1 286 s = lN (cap (NF A S x h s))) (m0 : ∀ t, t < 1024 → σ.2.1 287 t = lN 0) {k : Int64 → Int32 → ST → Option (Int64 × ST)} : ∃ u, f_X12_courses_96 k FU 1000000000000000000 (nI h) (nI 0) σ = k 1000000000000000000 (nI h) u ∧ Fq (fun y => (278 ≤ y ∧ y ≤ 281) ∨ y = 287) σ u ∧ ∀ t, t < 1024 → u.2.1 287 t = lN (cap (NF A S x (h + 1) t)) := by
  refine Exists.elim (loopE (fun n s u => f_X12_courses_96 k n 1000000000000000000 (nI h) (nI s) u) 1024 (fun s u => Fq (fun y => (278 ≤ y ∧ y ≤ 281) ∨ y = 287) σ u ∧ ∀ t, t < 1024 → u.2.1 287 t = lN (cap (PS A S x h s [] t))) (fun u => k 1000000000000000000 (nI h) u) ?_ ?_ FU 0 σ (by rw [FU_eq]; omega) (by omega) ⟨Fq.rf _ _, m0⟩) ?_
  · rintro n s u hs ⟨hF, hm⟩ Q hQ
    have e286 : u.2.1 286 s = lN (cap (NF A S x h s)) := by rw [hF.J (by omega) (by omega)]; exact mm s hs
    have v1 := SV_fq v hF (fun y hy => by omega)
    have hcp := cap_le (NF A S x h s)
    have hz := lgc_z (n := cap (NF A S x h s)) (by omega)
    show ∃ y, f_X12_courses_96 k (n + 1) 1000000000000000000 (nI h) (nI s) u = f_X12_courses_96 k n 1000000000000000000 (nI h) (nI (s + 1)) y ∧ _
    rw [f_X12_courses_96, if_pos (lt1024 hs), rdJ_ok hs (by decide), e286]
    simp only [bind_s]
    by_cases c : NF A S x h s = 0
    · have cz : cap (NF A S x h s) = 0 := (cap_z _).mpr c
      rw [if_pos (hz.mpr cz), nI_add]
      refine ⟨u, rfl, hQ _ ⟨hF, fun t ht => ?_⟩⟩
      rw [hm t ht]
      unfold PS
      rw [sm, show Wz A S x h t s = 0 from sm_zero fun f _ => sm_zero fun act _ => gz_z c]
      rfl
    · have cz : ¬ cap (NF A S x h s) = 0 := fun w => c ((cap_z _).mp w)
      rw [if_neg (fun w => cz (hz.mp w))]
      have hlt := NF_lt a (by omega) (Nat.pos_of_ne_zero c)
      obtain ⟨vs, hfl⟩ := FW_v a hlt
      obtain ⟨w, e1, F1, d1⟩ := t_edgesOf a v1.1 hh vs hfl hs
      rw [e1]
      simp only [bind_s]
      have g : ∀ y, 282 ≤ y → w.2.1 y = u.2.1 y := fun y h1 => (F1.1.1 y (by omega)).2.1
      obtain ⟨w', e2, F2, m2⟩ := t_co129 a (SV_fe v1 F1) hL hh hs hlt d1 (by rw [g 286 (by omega)]; exact e286) (fun t ht => by rw [g 287 (by omega)]; exact hm t ht) (k := fun y1_24 x3_25 x4_26 s27 => (f_X12_courses_96 k n) y1_24 x3_25 (x4_26 + nI 1) s27)
      rw [e2, nI_add]
      exact ⟨w', rfl, hQ _ ⟨(hF.tr (Fq_e F1 (fun y h1 h2 => Or.inl ⟨h1, h2⟩))).tr ⟨F2.mono (fun y hy => Or.inr (Or.inr hy)), fun k _ => F2.I (by omega) k⟩, m2⟩⟩
  · rintro n u -
    show f_X12_courses_96 k (n + 1) _ _ (nI 1024) u = _
    rw [f_X12_courses_96, if_neg nlt1024]
  · rintro u ⟨e, h1, h2⟩
    refine ⟨u, e, h1, fun t ht => ?_⟩
    rw [h2 t ht, PS_1024]
theorem t_co204 {x3 : Int32} {y1 : Int64} {k : Int64 → Int32 → ST → Option (Int64 × ST)} : ∃ u, f_X12_courses_204 k FU y1 x3 (nI 0) σ = k y1 x3 u ∧ Fr (fun y => y = 286) σ u ∧ ∀ t, t < 1024 → u.2.1 286 t = σ.2.1 287 t := by
  refine Exists.elim (loopE (fun n i u => f_X12_courses_204 k n y1 x3 (nI i) u) 1024 (fun i u => Fr (fun y => y = 286) σ u ∧ ∀ t, t < i → u.2.1 286 t = σ.2.1 287 t) (fun u => k y1 x3 u) ?_ ?_ FU 0 σ (by rw [FU_eq]; omega) (by omega) ⟨Fr.rf _ _, fun t ht => by omega⟩) ?_
  · rintro n i u hi ⟨hF, hm⟩ Q hQ
    show ∃ y, f_X12_courses_204 k (n + 1) y1 x3 (nI i) u = f_X12_courses_204 k n y1 x3 (nI (i + 1)) y ∧ _
    rw [f_X12_courses_204, if_pos (lt1024 hi), rdJ_ok hi (by decide)]
    simp only [bind_s]
    rw [wrJ_ok hi (by decide)]
    simp only [bind_s]
    rw [nI_add, hF.J (by omega) i]
    refine ⟨_, rfl, hQ _ ⟨hF.tr (Fr_setJ rfl), fun t ht => ?_⟩⟩
    by_cases c : t = i
    · subst c; rw [J_at]
    · rw [J_ne (Or.inr c)]; exact hm t (by omega)
  · rintro n u -
    show f_X12_courses_204 k (n + 1) _ _ (nI 1024) u = _
    rw [f_X12_courses_204, if_neg nlt1024]
  · rintro u ⟨e, h1, h2⟩
    exact ⟨u, e, h1, h2⟩
theorem t_co62 (a : AOK A) (v : SV A S x σ) (hL : LE A S x < 100000000) (mm : ∀ s, s < 1024 → σ.2.1 286 s = lN (cap (NF A S x 0 s))) {k : Int64 → ST → Option (Int64 × ST)} : ∃ u, f_X12_courses_62 k FU 1000000000000000000 (nI 0) σ = k 1000000000000000000 u ∧ Fq F8 σ u ∧ ∀ s, s < 1024 → u.2.1 286 s = lN (cap (NF A S x 12 s)) := by
  refine Exists.elim (loopE (fun n h u => f_X12_courses_62 k n 1000000000000000000 (nI h) u) 12 (fun h u => Fq F8 σ u ∧ ∀ s, s < 1024 → u.2.1 286 s = lN (cap (NF A S x h s))) (fun u => k 1000000000000000000 u) ?_ ?_ FU 0 σ (by rw [FU_eq]; omega) (by omega) ⟨Fq.rf _ _, mm⟩) ?_
  · rintro n h u hh ⟨hF, hm⟩ Q hQ
    show ∃ y, f_X12_courses_62 k (n + 1) 1000000000000000000 (nI h) u = f_X12_courses_62 k n 1000000000000000000 (nI (h + 1)) y ∧ _
    rw [f_X12_courses_62, if_pos ((nI_ltI (by omega) (by omega)).mpr hh)]
    obtain ⟨u1, e1, F1, m1⟩ := t_co71 (σ := u) (x3 := nI h) (y1 := 1000000000000000000) (k := fun y1_12 x3_13 s14 => f_X12_courses_96 (fun y1_28 x3_29 s30 => f_X12_courses_204 (fun y1_33 x3_34 s35 => (f_X12_courses_62 k n) y1_33 (x3_34 + nI 1) s35) FU y1_28 x3_29 (nI 0) s30) FU y1_12 x3_13 (nI 0) s14)
    rw [e1]
    have G1 : Fq F8 u u1 := ⟨F1.mono (fun y hy => Or.inr (Or.inr (Or.inr hy))), fun k _ => F1.I (by omega) k⟩
    have w1 := SV_fq v (hF.tr G1) (fun y hy => by unfold F8 at hy; omega)
    obtain ⟨u2, e2, F2, m2⟩ := t_co96 a w1 hL hh (fun s hs => by rw [F1.J (by omega)]; exact hm s hs) m1 (k := fun y1_28 x3_29 s30 => f_X12_courses_204 (fun y1_33 x3_34 s35 => (f_X12_courses_62 k n) y1_33 (x3_34 + nI 1) s35) FU y1_28 x3_29 (nI 0) s30)
    rw [e2]
    obtain ⟨u3, e3, F3, m3⟩ := t_co204 (σ := u2) (x3 := nI h) (y1 := 1000000000000000000) (k := fun y1_33 x3_34 s35 => (f_X12_courses_62 k n) y1_33 (x3_34 + nI 1) s35)
    rw [e3, nI_add]
    have G2 : Fq F8 u1 u2 := F2.mono (fun y hy => by unfold F8; omega)
    have G3 : Fq F8 u2 u3 := ⟨F3.mono (fun y hy => Or.inr (Or.inr (Or.inl hy))), fun k _ => F3.I (by omega) k⟩
    exact ⟨u3, rfl, hQ _ ⟨((hF.tr G1).tr G2).tr G3, fun s hs => by rw [m3 s hs]; exact m2 s hs⟩⟩
  · rintro n u -
    show f_X12_courses_62 k (n + 1) _ (nI 12) u = _
    rw [f_X12_courses_62, if_neg (fun w => Nat.lt_irrefl _ ((nI_ltI (by omega) (by omega)).mp w))]
  · rintro u ⟨e, h1, h2⟩
    exact ⟨u, e, h1, h2⟩
theorem t_co243 (a : AOK A) (v : SV A S x σ) (mm : ∀ s, s < 1024 → σ.2.1 286 s = lN (cap (NF A S x 12 s))) : f_X12_courses_243 FU 1000000000000000000 0 (nI 0) σ = some (lN (cap (sm 1024 (fun s => if glS A S s = true then NF A S x 12 s else 0))), σ) := by
  have h2 := nS_le (S := S) a
  have hP := Nat.two_pow_pos (nS A S)
  have hS4 := S4 (S := S) a
  have h36 : σ.1 247 36 = nI (nS A S) := v.1.2.1.2.1
  refine Exists.elim (loopE (A := Int64) (fun n i y => f_X12_courses_243 n 1000000000000000000 y (nI i) σ) 1024 (fun i y => y = lN (cap (sm i (fun s => if glS A S s = true then NF A S x 12 s else 0)))) (fun y => some (y, σ)) ?_ ?_ FU 0 0 (by rw [FU_eq]; omega) (by omega) rfl) ?_
  · rintro n i y hi hy Q hQ
    have hy : y = lN (cap (sm i (fun s => if glS A S s = true then NF A S x 12 s else 0))) := hy
    have sh : nI i >>> (nI 8 &&& 31) = nI (i / 256) := by rw [nI_shrd (by omega) (by omega)]
    have e36 : ((nI 1) <<< ((σ.1 247 36) &&& 31)) - (nI 1) = nI (2 ^ nS A S - 1) := by simp (disch := omega) only [bind_s, bd2_s, rdT_ok, ixR_ok, wrT_none, pfI_s, pfJ_s, pfZ_0, pfZ_1, zr_b2, nl_n, nl_s, nI_add, nI_mul, nI_sub, nI_shlm, nI_shrd, nI_or8, nI_or8r, nI_or5r, nI_and255, nI_and31, nI_and7, nI_and1, nI_andK, nI_clr, Nat.one_mul, nI_eqz, nI_eqq, nI_ltq, nI_ltz, nI_zlt, nI_nm1, nI_m2, m1_z, m1_lt0, m1_m1, b2_z, nI1_z, nI0_z, tb_0, tb_1, ite_nI, I_at, I_ne, J_at, J_ne, J_setI, I_setJ, ↓reduceIte, ltN_T, ltN_F, eqN_T, eqN_F, pow8, pow5, b2_f0, b2_t0, reduceCtorEq, Bool.false_eq_true, Bool.true_eq_false, eq_self, false_and, true_and, and_false, and_true, not_false_eq_true, not_true_eq_false, h36]
    show ∃ y', f_X12_courses_243 (n + 1) 1000000000000000000 y (nI i) σ = f_X12_courses_243 n 1000000000000000000 y' (nI (i + 1)) σ ∧ _
    rw [f_X12_courses_243, if_pos (lt1024 hi), sh, e36, nI_add]
    by_cases hg : i / 256 = 2 ^ nS A S - 1
    · have hg2 : glS A S i = true := by unfold glS; rw [decide_eq_true hg]
      rw [if_pos (congrArg nI hg), rdJ_ok hi (by decide)]
      simp only [bind_s]
      rw [mm i hi, hy, lN_capm (cap_le _) (cap_le _), cap_add]
      refine ⟨_, rfl, hQ _ ?_⟩
      show _ = lN (cap (sm (i + 1) _))
      rw [sm, if_pos hg2]
    · have hg2 : ¬ glS A S i = true := by unfold glS; rw [decide_eq_true_iff]; exact hg
      rw [if_neg (fun q => hg ((nI_eq (by omega) (by omega)).mp q))]
      refine ⟨y, rfl, hQ _ ?_⟩
      show y = lN (cap (sm (i + 1) _))
      rw [sm, if_neg hg2, Nat.add_zero]; exact hy
  · rintro n y -
    show f_X12_courses_243 (n + 1) _ _ (nI 1024) σ = _
    rw [f_X12_courses_243, if_neg nlt1024]
  · rintro y ⟨e, m⟩
    rw [e]
    have m : y = lN (cap (sm 1024 (fun s => if glS A S s = true then NF A S x 12 s else 0))) := m
    rw [m]
theorem t_co21 (a : AOK A) (v : SV A S x σ) {y1 : Int64} {k : Int64 → ST → Option (Int64 × ST)} : ∃ u, f_X12_courses_21 k FU y1 (nI 0) σ = k y1 u ∧ Fr (fun y => y = 286) σ u ∧ ∀ s, s < 1024 → u.2.1 286 s = lN (cap (NF A S x 0 s)) := by
  have hK := K32 a
  refine Exists.elim (loopE (fun n i u => f_X12_courses_21 k n y1 (nI i) u) 1024 (fun i u => Fr (fun y => y = 286) σ u ∧ ∀ s, s < i → u.2.1 286 s = lN (cap (NF A S x 0 s))) (fun u => k y1 u) ?_ ?_ FU 0 σ (by rw [FU_eq]; omega) (by omega) ⟨Fr.rf _ _, fun t ht => by omega⟩) ?_
  · rintro n i u hi ⟨hF, hm⟩ Q hQ
    have ew : u.1 276 i = nI (FW A S x 0 i) := by
      rw [hF.I (by omega)]
      have := v.2.1 0 i (by omega) hi
      rwa [Nat.mul_zero, Nat.zero_add] at this
    have hfw : FW A S x 0 i = if i < 2 ^ cK A 1 then 0 else 100000000 := rfl
    have hnf : NF A S x 0 i = if i < 2 ^ cK A 1 then 1 else 0 := rfl
    show ∃ y, f_X12_courses_21 k (n + 1) y1 (nI i) u = f_X12_courses_21 k n y1 (nI (i + 1)) y ∧ _
    rw [f_X12_courses_21, if_pos (lt1024 hi), rdI_ok (show i < 13312 by omega) (by decide), ew]
    simp only [bind_s]
    have fin : ∀ w : Int64, w = lN (cap (NF A S x 0 i)) → Q (setJ u 286 i w) := by
      intro w hw
      refine hQ _ ⟨hF.tr (Fr_setJ rfl), fun t ht => ?_⟩
      by_cases c : t = i
      · subst c; rw [J_at]; exact hw
      · rw [J_ne (Or.inr c)]; exact hm t (by omega)
    by_cases c : i < 2 ^ cK A 1
    · rw [hfw, if_pos c, if_pos (show nI 0 = 0 by decide), if_pos ((nI_ltI (by omega) (by decide)).mpr (show i < 32 by omega)), wrJ_ok hi (by decide)]
      simp only [bind_s]
      rw [nI_add]
      exact ⟨_, rfl, fin _ (by rw [hnf, if_pos c]; rfl)⟩
    · rw [hfw, if_neg c, if_neg (show ¬ nI 100000000 = 0 by decide), wrJ_ok hi (by decide)]
      simp only [bind_s]
      rw [nI_add]
      exact ⟨_, rfl, fin _ (by rw [hnf, if_neg c]; rfl)⟩
  · rintro n u -
    show f_X12_courses_21 k (n + 1) _ (nI 1024) u = _
    rw [f_X12_courses_21, if_neg nlt1024]
  · rintro u ⟨e, h1, h2⟩
    exact ⟨u, e, h1, h2⟩
end
