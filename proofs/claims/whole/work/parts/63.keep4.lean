section
/-! ===== keepBest ===== -/
variable {A : AW} {σ : ST} {d S h : Nat} {x : Nat × Nat}
theorem CK_CF (a : AOK A) (hh : h < 12) (i : Nat) : (if WV A S x h i = 0 then nI 1048576 else nI (CF A S x h i)) = nI (CK A S x h i) := by
  have e := WV_z (S := S) (x := x) a (show h ≤ 12 by omega) (i := i)
  by_cases w : i % 256 < LW A ∧ KPc A S x h (stc A (i % 256) (i / 256))
  · rw [if_neg (fun q => e.mp q w), CK_t w]
    have := (KP_FP a (by omega) w.2).1
    unfold CF cF
    rw [if_pos w.1, if_pos this]
  · rw [if_pos (e.mpr w), CK_f w]
theorem m1_big : (-1 : Int32) = nI 4294967295 := by decide
theorem NT_0 {s : ST} (e4 : s.1 (d + 4) h = -1) (e5 : s.1 (d + 5) h = nI 0) (e6 : s.1 (d + 6) h = nI 0) (e7 : s.1 (d + 7) h = nI 0) {P : (Nat → Nat → Nat → Prop) → Prop} (hP : ∀ p, ¬ P p) : NT d h s P A := by
  refine ⟨⟨4294967295, by rw [e4]; exact m1_big, fun j hj => ⟨fun _ => hP _, fun _ => ?_⟩, fun q => absurd q (hP _)⟩, ⟨0, by decide, e5, fun j hj => ⟨fun q => by simp at q, fun q => absurd q (hP _)⟩⟩, ⟨0, by decide, e6, fun j hj => ⟨fun q => by simp at q, fun q => absurd q (hP _)⟩⟩, ⟨0, by decide, e7, fun j hj => ⟨fun q => by simp at q, fun q => absurd q (hP _)⟩⟩⟩
  rw [show (4294967295 : Nat) = 2 ^ 32 - 1 from rfl, Nat.testBit_two_pow_sub_one, decide_eq_true_iff]
  omega
theorem NT_eq {s u : ST} {P : (Nat → Nat → Nat → Prop) → Prop} (n : NT d h s P A) (e4 : u.1 (d + 4) h = s.1 (d + 4) h) (e5 : u.1 (d + 5) h = s.1 (d + 5) h) (e6 : u.1 (d + 6) h = s.1 (d + 6) h) (e7 : u.1 (d + 7) h = s.1 (d + 7) h) : NT d h u P A := by
  obtain ⟨⟨m4, a1, a2, a3⟩, ⟨m5, b1, b2, b3⟩, ⟨m6, c1, c2, c3⟩, ⟨m7, d1, d2, d3⟩⟩ := n
  exact ⟨⟨m4, by rw [e4]; exact a1, a2, a3⟩, ⟨m5, b1, by rw [e5]; exact b2, b3⟩, ⟨m6, c1, by rw [e6]; exact c2, c3⟩, ⟨m7, d1, by rw [e7]; exact d2, d3⟩⟩
def ini (d h : Nat) (s : ST) : ST := setI (setI (setI (setI s (d + 4) h (-1)) (d + 5) h (nI 0)) (d + 6) h (nI 0)) (d + 7) h (nI 0)
theorem row_lt {g h i : Nat} (hg : g < h) (hi : i < 1024) : g * 1024 + i < h * 1024 := by omega
theorem t_khour (a : AOK A) (hd : d = 197 ∨ d = 213) (hh : h < 12) (c : CR 2 A σ) (t : TB A σ) (g : GX (d + 8) A S x σ) (f : FD d A S σ) (hc : ∀ i, i < nSt A S → σ.1 (d + 1) (h * 1024 + i) = nI (CF A S x h i)) (hc1 : ∀ i, i < nSt A S → σ.1 (d + 1) ((h + 1) * 1024 + i) = nI (CK A S x (h + 1) i)) (hw : ∀ i, i < nSt A S → σ.2.1 (d + 2) ((h + 1) % 2 * 1024 + i) = lN (cap (WV A S x (h + 1) i))) : ∃ s1 s2 s, f_X2_clearWays d (nI h) (ini d h σ) = some s1 ∧ f_X2_walk d (nI 1) (nI h) s1 = some s2 ∧ f_X2_dropUnkept d (nI h) s2 = some s ∧ Fr (fun y => d + 1 ≤ y ∧ y ≤ d + 7) σ s ∧ (∀ i, i < nSt A S → s.1 (d + 1) (h * 1024 + i) = nI (CK A S x h i)) ∧ (∀ j, j < h * 1024 ∨ h * 1024 + 1024 ≤ j → s.1 (d + 1) j = σ.1 (d + 1) j) ∧ (∀ i, i < nSt A S → s.2.1 (d + 2) (h % 2 * 1024 + i) = lN (cap (WV A S x h i))) ∧ NT d h s (eO A S x h) A ∧ ∀ u, u ≠ h → s.1 (d + 4) u = σ.1 (d + 4) u ∧ s.1 (d + 5) u = σ.1 (d + 5) u ∧ s.1 (d + 6) u = σ.1 (d + 6) u ∧ s.1 (d + 7) u = σ.1 (d + 7) u := by
  have hn := nSt_le (S := S) a
  have hLW := LW_256 a
  have F0 : Fr (fun y => d + 4 ≤ y ∧ y ≤ d + 7) σ (ini d h σ) := (((Fr_setI (by omega)).tr (Fr_setI (by omega))).tr (Fr_setI (by omega))).tr (Fr_setI (by omega))
  have f0 := FD_fr f F0 (by omega)
  obtain ⟨s1, e1, F1, v1, o1⟩ := t_clearWays (h := h) a hd f0
  have F01 := (F0.mono (W := fun y => d + 2 ≤ y ∧ y ≤ d + 7) (fun y hy => by omega)).tr (F1.mono (fun y hy => by omega))
  have hC : ∀ fl low, cF (FP A S x h (stc A low fl)) = 1048576 ∨ cF (FP A S x h (stc A low fl)) ≤ 2000 := fun fl low => cF_FP a (by omega) _
  have b : BS d A S x h (fun fl low => cF (FP A S x h (stc A low fl))) s1 := by
    refine ⟨CR_fr a c F01 (fun y hy => by omega), TB_fr t F01 (fun y hy => by omega), GX_fr g F01 (fun y hy => by omega), FD_fr f F01 (by omega), fun fl low h1 h2 => ?_⟩
    rw [F01.I (by omega), hc _ (ix_lt h1 h2), CF_at a h2]
  obtain ⟨s1', e2, F2, v2⟩ := t_gatherLooks (pass := 1) a hd hh (by omega) (fun fl low => by rcases hC fl low with q | q <;> omega) b
  have b2 := BS_fr a hd b F2 (fun y hy => by omega)
  have F02 := F01.tr (F2.mono (W := fun y => d + 2 ≤ y ∧ y ≤ d + 7) (fun y hy => by omega))
  have hlen := lkA_len (S := S) (h := h) (C := fun fl low => cF (FP A S x h (stc A low fl))) (pass := 1) a (LW A)
  have c1' : ∀ i, i < nSt A S → s1'.1 (d + 1) ((h + 1) * 1024 + i) = nI (CK A S x (h + 1) i) := fun i hi => by rw [F02.I (by omega)]; exact hc1 i hi
  have o1' : ∀ j, j < 1024 → s1'.2.1 (d + 2) ((h + 1) % 2 * 1024 + j) = σ.2.1 (d + 2) ((h + 1) % 2 * 1024 + j) := by
    intro j hj
    rw [F2.J (by omega), o1 j hj, F0.J (by omega)]
  have w1' : ∀ i, i < nSt A S → i % 256 < LW A → s1'.2.1 (d + 2) ((h + 1) % 2 * 1024 + i) = lN (cap (NB A S x (11 - h) (stc A (i % 256) (i / 256)))) := by
    intro i hi hl
    rw [o1' i (Nat.lt_of_lt_of_le hi hn), hw i hi]
    unfold WV
    rw [if_pos hl, show 12 - (h + 1) = 11 - h by omega]
  have w := WOK_K (x := x) (σ := s1') (lk := lkA A S h 1 (fun fl low => cF (FP A S x h (stc A low fl))) (LW A)) a hd hh (lk_ok a) c1' w1'
  have j0 : JK d A S x h (fun fl low => cF (FP A S x h (stc A low fl))) (lkA A S h 1 (fun fl low => cF (FP A S x h (stc A low fl))) (LW A)) s1' (fun _ _ _ => False) s1' := by
    refine ⟨⟨b2, v2⟩, Fr.rf _ _, fun j => Or.inl rfl, fun i hi => ?_, ?_, fun u _ => ⟨rfl, rfl, rfl, rfl⟩⟩
    · have : wS A S x h (lkA A S h 1 (fun fl low => cF (FP A S x h (stc A low fl))) (LW A)) (fun _ _ _ => False) i = 0 := sm_zero fun f _ => sm_zero fun act _ => iteP_f (fun q => q.2.2.2)
      rw [this, F2.J (by omega)]
      exact v1 i hi
    · refine NT_0 ?_ ?_ ?_ ?_ (fun p q => by obtain ⟨_, _, _, _, _, _, _, q, _⟩ := q; exact q)
      · rw [F2.I (by omega), F1.I (by omega)]; unfold ini; rw [I_ne (Or.inl (by omega)), I_ne (Or.inl (by omega)), I_ne (Or.inl (by omega)), I_at]
      · rw [F2.I (by omega), F1.I (by omega)]; unfold ini; rw [I_ne (Or.inl (by omega)), I_ne (Or.inl (by omega)), I_at]
      · rw [F2.I (by omega), F1.I (by omega)]; unfold ini; rw [I_ne (Or.inl (by omega)), I_at]
      · rw [F2.I (by omega), F1.I (by omega)]; unfold ini; rw [I_at]
  have W := t_walk10 (σ := s1') a hd hh hC (show (lkA A S h 1 (fun fl low => cF (FP A S x h (stc A low fl))) (LW A)).length ≤ 1024 from Nat.le_trans hlen (by omega)) (lkA_nd _ hLW) (lk_ok a) w j0
  obtain ⟨s2, e3, ⟨b3, -⟩, F3, -, w3, n3, g3⟩ := W
  have f3 := b3.2.2.2.1
  have w3' : ∀ i, i < nSt A S → s2.2.1 (d + 2) (h % 2 * 1024 + i) = lN (cap (WV A S x h i)) := fun i hi => by rw [w3 i hi, wS_all a hh hi]
  obtain ⟨s, e4, F4, v4, o4⟩ := t_drop (h := h) a hd hh f3 w3'
  have F03 := F02.tr F3
  refine ⟨s1, s2, s, e1, ?_, e4, (F03.mono (fun y hy => by omega)).tr (F4.mono (fun y hy => by omega)), fun i hi => ?_, fun j hj => ?_, fun i hi => ?_, ?_, fun u hu => ?_⟩
  · unfold f_X2_walk
    simp (disch := omega) only [bind_s, bd2_s, rdI_ok, rdJ_ok, rdT_ok, ixR_ok, wrI_ok, wrJ_ok, wrT_none, pfI_s, pfJ_s, pfZ_0, pfZ_1, zr_b2, nl_n, nl_s, nI_add, nI_mul, nI_sub, nI_shlm, nI_shrd, nI_or8, nI_or8r, nI_or5r, nI_and255, nI_and31, nI_and7, nI_and1, nI_andK, nI_clr, Nat.one_mul, nI_eqz, nI_eqq, nI_ltq, nI_ltz, nI_zlt, nI_nm1, nI_m2, m1_z, m1_lt0, m1_m1, b2_z, nI1_z, nI0_z, tb_0, tb_1, ite_nI, I_at, I_ne, J_at, J_ne, J_setI, I_setJ, ↓reduceIte, ltN_T, ltN_F, eqN_T, eqN_F, pow8, pow5, b2_f0, b2_t0, reduceCtorEq, Bool.false_eq_true, Bool.true_eq_false, eq_self, false_and, true_and, and_false, and_true, not_false_eq_true, not_true_eq_false, e2, e3]
  · rw [v4 i hi, F03.I (by omega), hc i hi]
    exact CK_CF a hh i
  · rw [o4 j hj, F03.I (by omega)]
  · rw [F4.J (by omega)]; exact w3' i hi
  · refine NT_eq (NT_c (fun p => sO_eO a hh p) n3) ?_ ?_ ?_ ?_ <;> rw [F4.I (by omega)]
  · obtain ⟨q4, q5, q6, q7⟩ := g3 u hu
    have r : ∀ k, 4 ≤ k → k ≤ 7 → s1'.1 (d + k) u = σ.1 (d + k) u := by
      intro k h1 h2
      rw [F2.I (by omega), F1.I (by omega)]
      unfold ini
      rw [I_ne (Or.inr hu), I_ne (Or.inr hu), I_ne (Or.inr hu), I_ne (Or.inr hu)]
    refine ⟨?_, ?_, ?_, ?_⟩
    · rw [F4.I (by omega), q4, r 4 (by omega) (by omega)]
    · rw [F4.I (by omega), q5, r 5 (by omega) (by omega)]
    · rw [F4.I (by omega), q6, r 6 (by omega) (by omega)]
    · rw [F4.I (by omega), q7, r 7 (by omega) (by omega)]
def hI (m : Nat) : Int32 := if m = 0 then -1 else nI (m - 1)
theorem hI_dec {m : Nat} (h : m < 2 ^ 31) : nI m + (-1) = hI m := by
  unfold hI
  by_cases e : m = 0
  · subst e; decide
  · rw [if_neg e]
    have := pk_m1 (m - 1)
    rwa [show m - 1 + 1 = m by omega] at this
/-- what stands when the cheapest ways are kept from an hour on -/
def KPT (d : Nat) (A : AW) (S : Nat) (x : Nat × Nat) (first : Nat) (σ : ST) : Prop := GX (d + 8) A S x σ ∧ FD d A S σ ∧ (∀ h i, first ≤ h → h ≤ 12 → i < nSt A S → σ.1 (d + 1) (h * 1024 + i) = nI (CK A S x h i)) ∧ σ.1 d 12 = nI (LE A S x) ∧ (∀ h, first ≤ h → h < 12 → NT d h σ (eO A S x h) A) ∧ (first = 0 → σ.2.1 d 13 = lN (cap (sm 1024 (NB A S x 12))))
theorem t_keep89 (a : AOK A) (hd : d = 197 ∨ d = 213) {first : Nat} (hf : first ≤ 11) (c : CR 2 A σ) (t : TB A σ) (g : GX (d + 8) A S x σ) (f : FD d A S σ) (hc : ∀ h i, h < 12 → i < nSt A S → σ.1 (d + 1) (h * 1024 + i) = nI (CF A S x h i)) (hc1 : ∀ i, i < nSt A S → σ.1 (d + 1) (12 * 1024 + i) = nI (CK A S x 12 i)) (hw : ∀ i, i < nSt A S → σ.2.1 (d + 2) (12 % 2 * 1024 + i) = lN (cap (WV A S x 12 i))) {k : Int32 → ST → Option ST} : ∃ s, f_X2_keepBest_89 d k FU (nI first) (nI 11) σ = k (nI first) s ∧ Fr (fun y => d + 1 ≤ y ∧ y ≤ d + 7) σ s ∧ (∀ h i, first ≤ h → h ≤ 12 → i < nSt A S → s.1 (d + 1) (h * 1024 + i) = nI (CK A S x h i)) ∧ (∀ i, i < nSt A S → s.2.1 (d + 2) (first % 2 * 1024 + i) = lN (cap (WV A S x first i))) ∧ ∀ h, first ≤ h → h < 12 → NT d h s (eO A S x h) A := by
  have hn := nSt_le (S := S) a
  refine Exists.elim (loopE (fun n j s => f_X2_keepBest_89 d k n (nI first) (hI (12 - j)) s) (12 - first) (fun j s => Fr (fun y => d + 1 ≤ y ∧ y ≤ d + 7) σ s ∧ (∀ h i, h < 12 - j → i < nSt A S → s.1 (d + 1) (h * 1024 + i) = nI (CF A S x h i)) ∧ (∀ h i, 12 - j ≤ h → h ≤ 12 → i < nSt A S → s.1 (d + 1) (h * 1024 + i) = nI (CK A S x h i)) ∧ (∀ i, i < nSt A S → s.2.1 (d + 2) ((12 - j) % 2 * 1024 + i) = lN (cap (WV A S x (12 - j) i))) ∧ ∀ h, 12 - j ≤ h → h < 12 → NT d h s (eO A S x h) A) (fun s => k (nI first) s) ?_ ?_ FU 0 σ (by rw [FU_eq]; omega) (by omega) ⟨Fr.rf _ _, fun h i h1 h2 => hc h i (by omega) h2, fun h i h1 h2 h3 => ?_, hw, fun h h1 h2 => absurd h1 (by omega)⟩) ?_
  · rintro n j s hj ⟨hF, v1, v2, v3, v4⟩ Q hQ
    obtain ⟨m, hm⟩ : ∃ m, 12 - j = m + 1 := ⟨11 - j, by omega⟩
    rw [hm] at v1 v2 v3 v4
    have hm12 : m < 12 := by omega
    obtain ⟨s1, s2, s3, e1, e2, e3, F3, r1, r2, r3, r4, r5⟩ := t_khour a hd hm12 (CR_fr a c hF (fun y hy => by omega)) (TB_fr t hF (fun y hy => by omega)) (GX_fr g hF (fun y hy => by omega)) (FD_fr f hF (by omega)) (fun i hi => v1 m i (by omega) hi) (fun i hi => v2 (m + 1) i (Nat.le_refl _) (by omega) hi) v3
    have h12 : 12 - (j + 1) = m := by omega
    show ∃ y, f_X2_keepBest_89 d k (n + 1) (nI first) (hI (12 - j)) s = f_X2_keepBest_89 d k n (nI first) (hI (12 - (j + 1))) y ∧ _
    rw [f_X2_keepBest_89, hm, h12]
    rw [h12] at hQ
    have eh : hI (m + 1) = nI m := rfl
    have hnl : ¬ m < first := by omega
    rw [eh]
    have e1' : f_X2_clearWays d (nI m) (setI (setI (setI (setI s (d + 4) m (-1)) (d + 5) m (nI 0)) (d + 6) m (nI 0)) (d + 7) m (nI 0)) = some s1 := e1
    simp (disch := omega) only [bind_s, bd2_s, rdI_ok, rdJ_ok, rdT_ok, ixR_ok, wrI_ok, wrJ_ok, wrT_none, pfI_s, pfJ_s, pfZ_0, pfZ_1, zr_b2, nl_n, nl_s, nI_add, nI_mul, nI_sub, nI_shlm, nI_shrd, nI_or8, nI_or8r, nI_or5r, nI_and255, nI_and31, nI_and7, nI_and1, nI_andK, nI_clr, Nat.one_mul, nI_eqz, nI_eqq, nI_ltq, nI_ltz, nI_zlt, nI_nm1, nI_m2, m1_z, m1_lt0, m1_m1, b2_z, nI1_z, nI0_z, tb_0, tb_1, ite_nI, I_at, I_ne, J_at, J_ne, J_setI, I_setJ, ↓reduceIte, ltN_T, ltN_F, eqN_T, eqN_F, pow8, pow5, b2_f0, b2_t0, reduceCtorEq, Bool.false_eq_true, Bool.true_eq_false, eq_self, false_and, true_and, and_false, and_true, not_false_eq_true, not_true_eq_false, hnl, e1', e2, e3]
    rw [hI_dec (by omega)]
    refine ⟨s3, rfl, hQ _ ⟨hF.tr F3, fun h i h1 h2 => ?_, fun h i h1 h2 h3 => ?_, r3, fun h h1 h2 => ?_⟩⟩
    · rw [r2 _ (Or.inl (row_lt h1 (Nat.lt_of_lt_of_le h2 hn)))]
      exact v1 h i (by omega) h2
    · by_cases e : h = m
      · subst e; exact r1 i h3
      · have hlt : m < h := by omega
        have h5 : (m + 1) * 1024 ≤ h * 1024 := Nat.mul_le_mul_right _ hlt
        rw [Nat.succ_mul] at h5
        rw [r2 _ (Or.inr (Nat.le_trans h5 (Nat.le_add_right _ _)))]
        exact v2 h i (by omega) h2 h3
    · by_cases e : h = m
      · subst e; exact r4
      · obtain ⟨q4, q5, q6, q7⟩ := r5 h e
        exact NT_eq (v4 h (by omega) h2) q4 q5 q6 q7
  · rintro n s -
    show f_X2_keepBest_89 d k (n + 1) (nI first) (hI (12 - (12 - first))) s = _
    rw [f_X2_keepBest_89, show 12 - (12 - first) = first by omega]
    have : hI first < nI first := by
      unfold hI
      by_cases e : first = 0
      · subst e; decide
      · rw [if_neg e]
        exact (nI_ltI (by omega) (by omega)).mpr (by omega)
    rw [if_pos this]
  · have : h = 12 := by omega
    subst this
    exact hc1 i h3
  · rintro s ⟨e, h1, h2, h3, h4, h5⟩
    rw [show 12 - (12 - first) = first by omega] at h3 h4 h5
    exact ⟨s, e, h1, h3, h4, h5⟩
end
