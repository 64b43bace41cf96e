section
/-! ===== the reference solves ===== -/
variable {A : AW} {σ : ST} {S h : Nat} {x : Nat × Nat}
noncomputable def BK (A : AW) (S : Nat) (x : Nat × Nat) (k s : Nat) : Nat := Bw (EG A S x) (glS A S) k s
theorem BK_le (k s : Nat) : BK A S x k s ≤ 100000000 := Bw_le k s
def PB (A : AW) (S : Nat) (x : Nat × Nat) (h s0 : Nat) (M : List (Nat × Nat)) (y : Nat) : Prop := ∃ q, q ∈ M ∧ y = BK A S x (11 - h) (tos A S h s0 q.1 q.2) + cst A S x h q.2
theorem t_bw354 (a : AOK A) (hh : h < 12) {s0 : Nat} (hs : s0 < 1024) (ed : EdA A S x h s0 (EL A S x h s0) σ) (hw : FW A S x h s0 < 100000000) (hb : ∀ t, t < 1024 → FW A S x (h + 1) t < 100000000 → σ.1 277 (1024 * (h + 1) + t) = nI (BK A S x (11 - h) t)) (h0 : σ.1 277 (1024 * h + s0) = nI 100000000) {k : Int32 → Int32 → ST → Option (Int32 × ST)} : ∃ u, f_X12_solve_354 k FU (nI h) (nI s0) (nI 0) σ = k (nI h) (nI s0) u ∧ Fr (fun y => y = 277) σ u ∧ (∀ j, j ≠ 1024 * h + s0 → u.1 277 j = σ.1 277 j) ∧ u.1 277 (1024 * h + s0) = nI (BK A S x (12 - h) s0) := by
  have hlen := EL_len (S := S) (x := x) (h := h) (s := s0) a
  have h99 := FW_99 a hw
  refine Exists.elim (loopE (fun n e u => f_X12_solve_354 k n (nI h) (nI s0) (nI e) u) (EL A S x h s0).length (fun e u => Fr (fun y => y = 277) σ u ∧ (∀ j, j ≠ 1024 * h + s0 → u.1 277 j = σ.1 277 j) ∧ ∃ v, u.1 277 (1024 * h + s0) = nI v ∧ Mn 100000000 (PB A S x h s0 ((EL A S x h s0).take e)) v) (fun u => k (nI h) (nI s0) u) ?_ ?_ FU 0 σ (by rw [FU_eq]; omega) (Nat.zero_le _) ⟨Fr.rf _ _, fun j _ => rfl, 100000000, h0, by rw [List.take_zero]; exact Mn_emp (fun y q => by obtain ⟨_, q, _⟩ := q; cases q)⟩) ?_
  · rintro n e u he ⟨hF, ho, v, ev, mv⟩ Q hQ
    have ed' := EdA_fr ed hF (fun y hy => by omega)
    obtain ⟨-, -, e3, e4⟩ := ed'.2 e he
    have e40 := ed'.1
    have hE := EL_at (S := S) (x := x) (h := h) (s := s0) a he
    have gE := EG_ok a h s0 _ _ _ _ hE
    have htg : TG A S x h s0 ((EL A S x h s0).getD e (0, 0)).1 ((EL A S x h s0).getD e (0, 0)).2 = tos A S h s0 ((EL A S x h s0).getD e (0, 0)).1 ((EL A S x h s0).getD e (0, 0)).2 := tg_of hE
    rw [htg] at e3
    have hq2 : ∀ z, z ∈ (EL A S x h s0).take (e + 1) ↔ z ∈ (EL A S x h s0).take e ∨ z = (EL A S x h s0).getD e (0, 0) := fun z => tk_mem he
    generalize hq : (EL A S x h s0).getD e (0, 0) = q at *
    have ht1 := gE.2.1
    have hc1 := gE.2.2.2.2
    have hfw : FW A S x (h + 1) (tos A S h s0 q.1 q.2) < 100000000 := by
      have := Fw_step (I := 2 ^ cK A 1) hE hw
      have h3 : FW A S x (h + 1) (tos A S h s0 q.1 q.2) ≤ FW A S x h s0 + cst A S x h q.2 := this
      omega
    have ebt : u.1 277 (1024 * (h + 1) + tos A S h s0 q.1 q.2) = nI (BK A S x (11 - h) (tos A S h s0 q.1 q.2)) := by
      rw [ho _ (by omega)]; exact hb _ ht1 hfw
    have hble := BK_le (A := A) (S := S) (x := x) (11 - h) (tos A S h s0 q.1 q.2)
    have hvl := mv.1
    have hnew : PB A S x h s0 ((EL A S x h s0).take (e + 1)) = fun y => PB A S x h s0 ((EL A S x h s0).take e) y ∨ y = BK A S x (11 - h) (tos A S h s0 q.1 q.2) + cst A S x h q.2 := by
      funext y
      apply propext
      constructor
      · rintro ⟨z, z1, z2⟩
        rcases (hq2 z).mp z1 with z1 | rfl
        · exact Or.inl ⟨z, z1, z2⟩
        · exact Or.inr z2
      · rintro (⟨z, z1, z2⟩ | z2)
        · exact ⟨z, (hq2 z).mpr (Or.inl z1), z2⟩
        · exact ⟨q, (hq2 q).mpr (Or.inr rfl), z2⟩
    have mnew := Mn_add (x := BK A S x (11 - h) (tos A S h s0 q.1 q.2) + cst A S x h q.2) mv (Q := PB A S x h s0 ((EL A S x h s0).take (e + 1))) (fun y => by rw [hnew])
    generalize BK A S x (11 - h) (tos A S h s0 q.1 q.2) = bt at *
    generalize tos A S h s0 q.1 q.2 = t at *
    generalize cst A S x h q.2 = c at *
    have hix : 1024 * (h + 1) + t < 13312 := by omega
    have hix0 : 1024 * h + s0 < 13312 := by omega
    show ∃ y, f_X12_solve_354 k (n + 1) (nI h) (nI s0) (nI e) u = f_X12_solve_354 k n (nI h) (nI s0) (nI (e + 1)) y ∧ _
    rw [f_X12_solve_354]
    simp (disch := omega) only [bind_s, bd2_s, rdT_ok, ixR_ok, wrT_none, pfI_s, pfJ_s, pfZ_0, pfZ_1, zr_b2, nl_n, nl_s, nI_add, nI_mul, nI_sub, nI_shlm, nI_shrd, nI_or8, nI_or8r, nI_or5r, nI_and255, nI_and31, nI_and7, nI_and1, nI_andK, nI_clr, Nat.one_mul, nI_eqz, nI_eqq, nI_ltq, nI_ltz, nI_zlt, nI_nm1, nI_m2, m1_z, m1_lt0, m1_m1, b2_z, nI1_z, nI0_z, tb_0, tb_1, ite_nI, I_at, I_ne, J_at, J_ne, J_setI, I_setJ, ↓reduceIte, ltN_T, ltN_F, eqN_T, eqN_F, pow8, pow5, b2_f0, b2_t0, reduceCtorEq, Bool.false_eq_true, Bool.true_eq_false, eq_self, false_and, true_and, and_false, and_true, not_false_eq_true, not_true_eq_false, e40, rdI_ok (show e < 28 by omega) (show 28 < 2 ^ 31 by decide), e3, e4]
    rw [rdI_ok hix (by decide), ebt]
    simp (disch := omega) only [bind_s, bd2_s, rdT_ok, ixR_ok, wrT_none, pfI_s, pfJ_s, pfZ_0, pfZ_1, zr_b2, nl_n, nl_s, nI_add, nI_mul, nI_sub, nI_shlm, nI_shrd, nI_or8, nI_or8r, nI_or5r, nI_and255, nI_and31, nI_and7, nI_and1, nI_andK, nI_clr, Nat.one_mul, nI_eqz, nI_eqq, nI_ltq, nI_ltz, nI_zlt, nI_nm1, nI_m2, m1_z, m1_lt0, m1_m1, b2_z, nI1_z, nI0_z, tb_0, tb_1, ite_nI, I_at, I_ne, J_at, J_ne, J_setI, I_setJ, ↓reduceIte, ltN_T, ltN_F, eqN_T, eqN_F, pow8, pow5, b2_f0, b2_t0, reduceCtorEq, Bool.false_eq_true, Bool.true_eq_false, eq_self, false_and, true_and, and_false, and_true, not_false_eq_true, not_true_eq_false]
    rw [rdI_ok hix0 (by decide), ev]
    by_cases hlt : bt + c < v
    · rw [if_pos hlt] at mnew
      simp (disch := omega) only [bind_s, bd2_s, rdT_ok, ixR_ok, wrT_none, pfI_s, pfJ_s, pfZ_0, pfZ_1, zr_b2, nl_n, nl_s, nI_add, nI_mul, nI_sub, nI_shlm, nI_shrd, nI_or8, nI_or8r, nI_or5r, nI_and255, nI_and31, nI_and7, nI_and1, nI_andK, nI_clr, Nat.one_mul, nI_eqz, nI_eqq, nI_ltq, nI_ltz, nI_zlt, nI_nm1, nI_m2, m1_z, m1_lt0, m1_m1, b2_z, nI1_z, nI0_z, tb_0, tb_1, ite_nI, I_at, I_ne, J_at, J_ne, J_setI, I_setJ, ↓reduceIte, ltN_T, ltN_F, eqN_T, eqN_F, pow8, pow5, b2_f0, b2_t0, reduceCtorEq, Bool.false_eq_true, Bool.true_eq_false, eq_self, false_and, true_and, and_false, and_true, not_false_eq_true, not_true_eq_false, hlt]
      rw [wrI_ok hix0 (by decide)]
      simp (disch := omega) only [bind_s, bd2_s, rdT_ok, ixR_ok, wrT_none, pfI_s, pfJ_s, pfZ_0, pfZ_1, zr_b2, nl_n, nl_s, nI_add, nI_mul, nI_sub, nI_shlm, nI_shrd, nI_or8, nI_or8r, nI_or5r, nI_and255, nI_and31, nI_and7, nI_and1, nI_andK, nI_clr, Nat.one_mul, nI_eqz, nI_eqq, nI_ltq, nI_ltz, nI_zlt, nI_nm1, nI_m2, m1_z, m1_lt0, m1_m1, b2_z, nI1_z, nI0_z, tb_0, tb_1, ite_nI, I_at, I_ne, J_at, J_ne, J_setI, I_setJ, ↓reduceIte, ltN_T, ltN_F, eqN_T, eqN_F, pow8, pow5, b2_f0, b2_t0, reduceCtorEq, Bool.false_eq_true, Bool.true_eq_false, eq_self, false_and, true_and, and_false, and_true, not_false_eq_true, not_true_eq_false]
      exact ⟨_, rfl, hQ _ ⟨hF.tr (Fr_setI rfl), fun j hj => by rw [I_ne (Or.inr hj)]; exact ho j hj, _, by rw [I_at], mnew⟩⟩
    · rw [if_neg hlt] at mnew
      simp (disch := omega) only [bind_s, bd2_s, rdT_ok, ixR_ok, wrT_none, pfI_s, pfJ_s, pfZ_0, pfZ_1, zr_b2, nl_n, nl_s, nI_add, nI_mul, nI_sub, nI_shlm, nI_shrd, nI_or8, nI_or8r, nI_or5r, nI_and255, nI_and31, nI_and7, nI_and1, nI_andK, nI_clr, Nat.one_mul, nI_eqz, nI_eqq, nI_ltq, nI_ltz, nI_zlt, nI_nm1, nI_m2, m1_z, m1_lt0, m1_m1, b2_z, nI1_z, nI0_z, tb_0, tb_1, ite_nI, I_at, I_ne, J_at, J_ne, J_setI, I_setJ, ↓reduceIte, ltN_T, ltN_F, eqN_T, eqN_F, pow8, pow5, b2_f0, b2_t0, reduceCtorEq, Bool.false_eq_true, Bool.true_eq_false, eq_self, false_and, true_and, and_false, and_true, not_false_eq_true, not_true_eq_false, hlt]
      exact ⟨u, rfl, hQ _ ⟨hF, ho, v, ev, mnew⟩⟩
  · rintro n u ⟨hF, -, -⟩
    have e40 := (EdA_fr ed hF (fun y hy => by omega)).1
    show f_X12_solve_354 k (n + 1) _ _ (nI (EL A S x h s0).length) u = _
    rw [f_X12_solve_354]
    simp (disch := omega) only [bind_s, bd2_s, rdI_ok, rdJ_ok, rdT_ok, ixR_ok, wrI_ok, wrJ_ok, wrT_none, pfI_s, pfJ_s, pfZ_0, pfZ_1, zr_b2, nl_n, nl_s, nI_add, nI_mul, nI_sub, nI_shlm, nI_shrd, nI_or8, nI_or8r, nI_or5r, nI_and255, nI_and31, nI_and7, nI_and1, nI_andK, nI_clr, Nat.one_mul, nI_eqz, nI_eqq, nI_ltq, nI_ltz, nI_zlt, nI_nm1, nI_m2, m1_z, m1_lt0, m1_m1, b2_z, nI1_z, nI0_z, tb_0, tb_1, ite_nI, I_at, I_ne, J_at, J_ne, J_setI, I_setJ, ↓reduceIte, ltN_T, ltN_F, eqN_T, eqN_F, pow8, pow5, b2_f0, b2_t0, reduceCtorEq, Bool.false_eq_true, Bool.true_eq_false, eq_self, false_and, true_and, and_false, and_true, not_false_eq_true, not_true_eq_false, e40]
  · rintro u ⟨e, h1, h2, v, ev, mv⟩
    rw [List.take_length] at mv
    refine ⟨u, e, h1, h2, ?_⟩
    rw [ev]
    congr 1
    have m2 : Mn 100000000 (fun y => ∃ f act t c, EG A S x (11 - (11 - h)) s0 f act = some (t, c) ∧ Bw (EG A S x) (glS A S) (11 - h) t < NV ∧ y = Bw (EG A S x) (glS A S) (11 - h) t + c) (BK A S x (12 - h) s0) := by
      have := mn_sp NV (fun y => ∃ f act t c, EG A S x (11 - (11 - h)) s0 f act = some (t, c) ∧ Bw (EG A S x) (glS A S) (11 - h) t < NV ∧ y = Bw (EG A S x) (glS A S) (11 - h) t + c)
      have e : BK A S x (12 - h) s0 = mn NV (fun y => ∃ f act t c, EG A S x (11 - (11 - h)) s0 f act = some (t, c) ∧ Bw (EG A S x) (glS A S) (11 - h) t < NV ∧ y = Bw (EG A S x) (glS A S) (11 - h) t + c) := by
        rw [show 12 - h = 11 - h + 1 by omega]; rfl
      rw [e]
      exact this
    refine Mn_un2 (fun y hy => ?_) mv m2
    rw [show 11 - (11 - h) = h by omega]
    constructor
    · rintro ⟨q, q1, rfl⟩
      refine ⟨q.1, q.2, _, _, (EL_mem a).mp q1, ?_, rfl⟩
      have : BK A S x (11 - h) (tos A S h s0 q.1 q.2) < 100000000 := by omega
      exact this
    · rintro ⟨f, act, t, c, r1, r2, rfl⟩
      obtain ⟨-, rfl, rfl⟩ := EG_iff.mp r1
      exact ⟨(f, act), (EL_mem a).mpr r1, rfl⟩
theorem t_bw312 (a : AOK A) (hh : h < 12) (b : MB A S x σ) (hw : ∀ s, s < 1024 → σ.1 276 (1024 * h + s) = nI (FW A S x h s)) (hb : ∀ t, t < 1024 → FW A S x (h + 1) t < 100000000 → σ.1 277 (1024 * (h + 1) + t) = nI (BK A S x (11 - h) t)) (h0 : ∀ s, s < 1024 → σ.1 277 (1024 * h + s) = nI 100000000) {k : Int32 → ST → Option (Int32 × ST)} : ∃ u, f_X12_solve_312 k FU (nI h) (nI 0) σ = k (nI h) u ∧ Fs (fun y => y = 277 ∨ (278 ≤ y ∧ y ≤ 281)) σ u ∧ u.1 247 39 = σ.1 247 39 ∧ (∀ j, j < 1024 * h ∨ 1024 * (h + 1) ≤ j → u.1 277 j = σ.1 277 j) ∧ ∀ s, s < 1024 → FW A S x h s < 100000000 → u.1 277 (1024 * h + s) = nI (BK A S x (12 - h) s) := by
  refine Exists.elim (loopE (fun n s0 u => f_X12_solve_312 k n (nI h) (nI s0) u) 1024 (fun s0 u => Fs (fun y => y = 277 ∨ (278 ≤ y ∧ y ≤ 281)) σ u ∧ u.1 247 39 = σ.1 247 39 ∧ (∀ j, j < 1024 * h ∨ 1024 * h + s0 ≤ j → u.1 277 j = σ.1 277 j) ∧ ∀ s, s < s0 → FW A S x h s < 100000000 → u.1 277 (1024 * h + s) = nI (BK A S x (12 - h) s)) (fun u => k (nI h) u) ?_ ?_ FU 0 σ (by rw [FU_eq]; omega) (by omega) ⟨Fs.rf _ _, rfl, fun j _ => rfl, fun s hs => by omega⟩) ?_
  · rintro n s0 u hs ⟨hF, h39, ho, hv⟩ Q hQ
    have b' := MB_fs b hF (fun y hy => by omega)
    have ew : u.1 276 (1024 * h + s0) = nI (FW A S x h s0) := by rw [hF.I (by omega) (by omega)]; exact hw s0 hs
    have hle := FW_le (A := A) (S := S) (x := x) h s0
    have hix : 1024 * h + s0 < 13312 := by omega
    show ∃ y, f_X12_solve_312 k (n + 1) (nI h) (nI s0) u = f_X12_solve_312 k n (nI h) (nI (s0 + 1)) y ∧ _
    rw [f_X12_solve_312]
    simp (disch := omega) only [bind_s, bd2_s, rdT_ok, ixR_ok, wrT_none, pfI_s, pfJ_s, pfZ_0, pfZ_1, zr_b2, nl_n, nl_s, nI_add, nI_mul, nI_sub, nI_shlm, nI_shrd, nI_or8, nI_or8r, nI_or5r, nI_and255, nI_and31, nI_and7, nI_and1, nI_andK, nI_clr, Nat.one_mul, nI_eqz, nI_eqq, nI_ltq, nI_ltz, nI_zlt, nI_nm1, nI_m2, m1_z, m1_lt0, m1_m1, b2_z, nI1_z, nI0_z, tb_0, tb_1, ite_nI, I_at, I_ne, J_at, J_ne, J_setI, I_setJ, ↓reduceIte, ltN_T, ltN_F, eqN_T, eqN_F, pow8, pow5, b2_f0, b2_t0, reduceCtorEq, Bool.false_eq_true, Bool.true_eq_false, eq_self, false_and, true_and, and_false, and_true, not_false_eq_true, not_true_eq_false]
    rw [rdI_ok hix (by decide), ew]
    by_cases hn : FW A S x h s0 = 100000000
    · simp (disch := omega) only [bind_s, bd2_s, rdT_ok, ixR_ok, wrT_none, pfI_s, pfJ_s, pfZ_0, pfZ_1, zr_b2, nl_n, nl_s, nI_add, nI_mul, nI_sub, nI_shlm, nI_shrd, nI_or8, nI_or8r, nI_or5r, nI_and255, nI_and31, nI_and7, nI_and1, nI_andK, nI_clr, Nat.one_mul, nI_eqz, nI_eqq, nI_ltq, nI_ltz, nI_zlt, nI_nm1, nI_m2, m1_z, m1_lt0, m1_m1, b2_z, nI1_z, nI0_z, tb_0, tb_1, ite_nI, I_at, I_ne, J_at, J_ne, J_setI, I_setJ, ↓reduceIte, ltN_T, ltN_F, eqN_T, eqN_F, pow8, pow5, b2_f0, b2_t0, reduceCtorEq, Bool.false_eq_true, Bool.true_eq_false, eq_self, false_and, true_and, and_false, and_true, not_false_eq_true, not_true_eq_false, hn]
      refine ⟨u, rfl, hQ _ ⟨hF, h39, fun j hj => ho j (by omega), fun s h1 h2 => ?_⟩⟩
      by_cases e : s = s0
      · subst e; omega
      · exact hv s (by omega) h2
    · have hlt : FW A S x h s0 < 100000000 := by omega
      obtain ⟨vs, hfl⟩ := FW_v a hlt
      obtain ⟨w, e1, F1, d1⟩ := t_edgesOf a b' hh vs hfl hs
      obtain ⟨z, e2, F2, o2, v2⟩ := t_bw354 (k := fun x5_32 x6_33 s34 => f_X12_solve_312 k n x5_32 (x6_33 + nI 1) s34) a hh hs d1 hlt (fun t h1 h2 => by rw [F1.I (by omega) (by omega), ho _ (by omega)]; exact hb t h1 h2) (by rw [F1.I (by omega) (by omega), ho _ (by omega)]; exact h0 s0 hs)
      simp (disch := omega) only [bind_s, bd2_s, rdT_ok, ixR_ok, wrT_none, pfI_s, pfJ_s, pfZ_0, pfZ_1, zr_b2, nl_n, nl_s, nI_add, nI_mul, nI_sub, nI_shlm, nI_shrd, nI_or8, nI_or8r, nI_or5r, nI_and255, nI_and31, nI_and7, nI_and1, nI_andK, nI_clr, Nat.one_mul, nI_eqz, nI_eqq, nI_ltq, nI_ltz, nI_zlt, nI_nm1, nI_m2, m1_z, m1_lt0, m1_m1, b2_z, nI1_z, nI0_z, tb_0, tb_1, ite_nI, I_at, I_ne, J_at, J_ne, J_setI, I_setJ, ↓reduceIte, ltN_T, ltN_F, eqN_T, eqN_F, pow8, pow5, b2_f0, b2_t0, reduceCtorEq, Bool.false_eq_true, Bool.true_eq_false, eq_self, false_and, true_and, and_false, and_true, not_false_eq_true, not_true_eq_false, hn, e1, e2]
      refine ⟨z, rfl, hQ _ ⟨(hF.tr (Fs_e F1 (fun y h1 h2 => Or.inr ⟨h1, h2⟩))).tr ⟨F2.mono (fun y hy => Or.inr (Or.inl hy)), fun j _ _ => F2.I (by omega) j⟩, by rw [F2.I (by omega), F1.2 39 (by omega)]; exact h39, fun j hj => by rw [o2 j (by omega), F1.I (by omega) (by omega)]; exact ho j (by omega), fun s h1 h2 => ?_⟩⟩
      by_cases e : s = s0
      · subst e; exact v2
      · rw [o2 _ (by omega), F1.I (by omega) (by omega)]; exact hv s (by omega) h2
  · rintro n u -
    show f_X12_solve_312 k (n + 1) _ (nI 1024) u = _
    rw [f_X12_solve_312]
    simp (disch := omega) only [bind_s, bd2_s, rdI_ok, rdJ_ok, rdT_ok, ixR_ok, wrI_ok, wrJ_ok, wrT_none, pfI_s, pfJ_s, pfZ_0, pfZ_1, zr_b2, nl_n, nl_s, nI_add, nI_mul, nI_sub, nI_shlm, nI_shrd, nI_or8, nI_or8r, nI_or5r, nI_and255, nI_and31, nI_and7, nI_and1, nI_andK, nI_clr, Nat.one_mul, nI_eqz, nI_eqq, nI_ltq, nI_ltz, nI_zlt, nI_nm1, nI_m2, m1_z, m1_lt0, m1_m1, b2_z, nI1_z, nI0_z, tb_0, tb_1, ite_nI, I_at, I_ne, J_at, J_ne, J_setI, I_setJ, ↓reduceIte, ltN_T, ltN_F, eqN_T, eqN_F, pow8, pow5, b2_f0, b2_t0, reduceCtorEq, Bool.false_eq_true, Bool.true_eq_false, eq_self, false_and, true_and, and_false, and_true, not_false_eq_true, not_true_eq_false]
  · rintro u ⟨e, h1, h39, h2, h3⟩
    exact ⟨u, e, h1, h39, fun j hj => h2 j (by omega), h3⟩
/-- what stands when the reference has solved -/
def SV (A : AW) (S : Nat) (x : Nat × Nat) (σ : ST) : Prop := MB A S x σ ∧ (∀ h s, h ≤ 12 → s < 1024 → σ.1 276 (1024 * h + s) = nI (FW A S x h s)) ∧ σ.1 247 39 = nI (LE A S x) ∧ (LE A S x < 100000000 → ∀ h s, h ≤ 12 → s < 1024 → FW A S x h s < 100000000 → σ.1 277 (1024 * h + s) = nI (BK A S x (12 - h) s))
theorem t_bw304 (a : AOK A) (b : MB A S x σ) (hw : ∀ h s, h ≤ 12 → s < 1024 → σ.1 276 (1024 * h + s) = nI (FW A S x h s)) (h12 : ∀ s, s < 1024 → σ.1 277 (1024 * 12 + s) = nI (BK A S x 0 s)) (h0 : ∀ h s, h < 12 → s < 1024 → σ.1 277 (1024 * h + s) = nI 100000000) : ∃ u, f_X12_solve_304 FU (nI 11) σ = some (nI 1, u) ∧ Fs (fun y => y = 277 ∨ (278 ≤ y ∧ y ≤ 281)) σ u ∧ u.1 247 39 = σ.1 247 39 ∧ ∀ h s, h ≤ 12 → s < 1024 → FW A S x h s < 100000000 → u.1 277 (1024 * h + s) = nI (BK A S x (12 - h) s) := by
  refine Exists.elim (loopE (fun n j u => f_X12_solve_304 n (hI (12 - j)) u) 12 (fun j u => Fs (fun y => y = 277 ∨ (278 ≤ y ∧ y ≤ 281)) σ u ∧ u.1 247 39 = σ.1 247 39 ∧ (∀ i, i < 1024 * (12 - j) → u.1 277 i = σ.1 277 i) ∧ ∀ h s, 12 - j ≤ h → h ≤ 12 → s < 1024 → FW A S x h s < 100000000 → u.1 277 (1024 * h + s) = nI (BK A S x (12 - h) s)) (fun u => some (nI 1, u)) ?_ ?_ FU 0 σ (by rw [FU_eq]; omega) (by omega) ⟨Fs.rf _ _, rfl, fun i _ => rfl, fun h s h1 h2 h3 _ => ?_⟩) ?_
  · rintro n j u hj ⟨hF, h39, ho, hv⟩ Q hQ
    obtain ⟨m, hm⟩ : ∃ m, 12 - j = m + 1 := ⟨11 - j, by omega⟩
    rw [hm] at ho hv
    have hm12 : m < 12 := by omega
    have h12' : 12 - (j + 1) = m := by omega
    have b' := MB_fs b hF (fun y hy => by omega)
    obtain ⟨w, e1, F1, g39, o1, v1⟩ := t_bw312 (k := fun x5_35 s36 => f_X12_solve_304 n (x5_35 + (-1)) s36) a hm12 b' (fun s hs => by rw [hF.I (by omega) (by omega)]; exact hw m s (by omega) hs) (fun t h1 h2 => by
      have := hv (m + 1) t (Nat.le_refl _) (by omega) h1 h2
      rwa [show 12 - (m + 1) = 11 - m by omega] at this) (fun s hs => by rw [ho _ (by omega)]; exact h0 m s hm12 hs)
    rw [h12'] at hQ
    show ∃ y, f_X12_solve_304 (n + 1) (hI (12 - j)) u = f_X12_solve_304 n (hI (12 - (j + 1))) y ∧ _
    rw [hm, h12', f_X12_solve_304]
    have eh : hI (m + 1) = nI m := rfl
    rw [eh, if_neg (nI_pos (by omega)), e1, hI_dec (by omega)]
    refine ⟨w, rfl, hQ _ ⟨hF.tr F1, by rw [g39]; exact h39, fun i hi => by rw [o1 i (Or.inl hi)]; exact ho i (by omega), fun h s h1 h2 h3 h4 => ?_⟩⟩
    by_cases e : h = m
    · subst e; exact v1 s h3 h4
    · rw [o1 _ (Or.inr (by omega))]; exact hv h s (by omega) h2 h3 h4
  · rintro n u -
    show f_X12_solve_304 (n + 1) (hI (12 - 12)) u = _
    rw [f_X12_solve_304]
    have : hI (12 - 12) < 0 := by decide
    rw [if_pos this]
  · have : h = 12 := by omega
    subst this
    exact h12 s h3
  · rintro u ⟨e, h1, h2, -, h3⟩
    exact ⟨u, e, h1, h2, fun h s h4 h5 h6 => h3 h s (by omega) h4 h5 h6⟩
end
