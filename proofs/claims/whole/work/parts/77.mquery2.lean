section
/-! ===== the reference's questions: could, surelyMay ===== -/
variable {A : AW} {σ : ST} {S h : Nat} {x : Nat × Nat}
theorem t_could27 (a : AOK A) (v : SV A S x σ) (hL : LE A S x < 100000000) (hh : h < 12) : ∃ u m, f_X12_could_27 FU (nI h) (nI 0) (nI 0) σ = some (nI m, u) ∧ Fe σ u ∧ bitsE (EP A S x h 1024 []) 7 (fun j act _ _ => act = j) m := by
  refine Exists.elim (loopE (A := Nat × ST) (fun n s0 y => f_X12_could_27 n (nI h) (nI y.1) (nI s0) y.2) 1024 (fun s0 y => Fe σ y.2 ∧ bitsE (EP A S x h s0 []) 7 (fun j act _ _ => act = j) y.1) (fun y => some (nI y.1, y.2)) ?_ ?_ FU 0 (0, σ) (by rw [FU_eq]; omega) (by omega) ⟨Fe.rf _, (show (0 : Nat) < 2 ^ 7 by decide), fun j _ => ⟨fun q => by simp at q, fun q => absurd q (EP_0 _)⟩⟩) ?_
  · rintro n s0 ⟨m, u⟩ hs ⟨hF, hm1, hm2⟩ Q hQ
    have v' := SV_fe v hF
    have ew := v'.2.1 h s0 (by omega) hs
    have hle := FW_le (A := A) (S := S) (x := x) h s0
    have hix : 1024 * h + s0 < 13312 := by omega
    show ∃ y : Nat × ST, f_X12_could_27 (n + 1) (nI h) (nI m) (nI s0) u = f_X12_could_27 n (nI h) (nI y.1) (nI (s0 + 1)) y.2 ∧ _
    rw [f_X12_could_27]
    simp (disch := omega) only [bind_s, bd2_s, rdT_ok, ixR_ok, wrT_none, pfI_s, pfJ_s, pfZ_0, pfZ_1, zr_b2, nl_n, nl_s, nI_add, nI_mul, nI_sub, nI_shlm, nI_shrd, nI_or8, nI_or8r, nI_or5r, nI_and255, nI_and31, nI_and7, nI_and1, nI_andK, nI_clr, Nat.one_mul, nI_eqz, nI_eqq, nI_ltq, nI_ltz, nI_zlt, nI_nm1, nI_m2, m1_z, m1_lt0, m1_m1, b2_z, nI1_z, nI0_z, tb_0, tb_1, ite_nI, I_at, I_ne, J_at, J_ne, J_setI, I_setJ, ↓reduceIte, ltN_T, ltN_F, eqN_T, eqN_F, pow8, pow5, b2_f0, b2_t0, reduceCtorEq, Bool.false_eq_true, Bool.true_eq_false, eq_self, false_and, true_and, and_false, and_true, not_false_eq_true, not_true_eq_false]
    rw [rdI_ok hix (by decide), ew]
    by_cases hn : FW A S x h s0 = 100000000
    · simp (disch := omega) only [bind_s, bd2_s, rdT_ok, ixR_ok, wrT_none, pfI_s, pfJ_s, pfZ_0, pfZ_1, zr_b2, nl_n, nl_s, nI_add, nI_mul, nI_sub, nI_shlm, nI_shrd, nI_or8, nI_or8r, nI_or5r, nI_and255, nI_and31, nI_and7, nI_and1, nI_andK, nI_clr, Nat.one_mul, nI_eqz, nI_eqq, nI_ltq, nI_ltz, nI_zlt, nI_nm1, nI_m2, m1_z, m1_lt0, m1_m1, b2_z, nI1_z, nI0_z, tb_0, tb_1, ite_nI, I_at, I_ne, J_at, J_ne, J_setI, I_setJ, ↓reduceIte, ltN_T, ltN_F, eqN_T, eqN_F, pow8, pow5, b2_f0, b2_t0, reduceCtorEq, Bool.false_eq_true, Bool.true_eq_false, eq_self, false_and, true_and, and_false, and_true, not_false_eq_true, not_true_eq_false, hn]
      exact ⟨(m, u), rfl, hQ _ ⟨hF, hm1, fun j hj => (hm2 j hj).trans (EP_skip hn _).symm⟩⟩
    · have hlt : FW A S x h s0 < 100000000 := by omega
      obtain ⟨vs, hfl⟩ := FW_v a hlt
      obtain ⟨w, e1, F1, d1⟩ := t_edgesOf a v'.1 hh vs hfl hs
      have v1 := SV_fe v' F1
      simp (disch := omega) only [bind_s, bd2_s, rdT_ok, ixR_ok, wrT_none, pfI_s, pfJ_s, pfZ_0, pfZ_1, zr_b2, nl_n, nl_s, nI_add, nI_mul, nI_sub, nI_shlm, nI_shrd, nI_or8, nI_or8r, nI_or5r, nI_and255, nI_and31, nI_and7, nI_and1, nI_andK, nI_clr, Nat.one_mul, nI_eqz, nI_eqq, nI_ltq, nI_ltz, nI_zlt, nI_nm1, nI_m2, m1_z, m1_lt0, m1_m1, b2_z, nI1_z, nI0_z, tb_0, tb_1, ite_nI, I_at, I_ne, J_at, J_ne, J_setI, I_setJ, ↓reduceIte, ltN_T, ltN_F, eqN_T, eqN_F, pow8, pow5, b2_f0, b2_t0, reduceCtorEq, Bool.false_eq_true, Bool.true_eq_false, eq_self, false_and, true_and, and_false, and_true, not_false_eq_true, not_true_eq_false, hn, e1]
      have L := loopE (fun k e (m : Nat) => f_X12_could_64 (fun x1_12 x2_13 x3_14 s15 => f_X12_could_27 n x1_12 x2_13 (x3_14 + nI 1) s15) k (nI h) (nI m) (nI s0) (nI e) w) (EL A S x h s0).length (fun e m => bitsE (EP A S x h s0 ((EL A S x h s0).take e)) 7 (fun j act _ _ => act = j) m) (fun m => f_X12_could_27 n (nI h) (nI m) (nI s0 + nI 1) w) ?_ ?_ FU 0 m (by have := EL_len (S := S) (x := x) (h := h) (s := s0) a; rw [FU_eq]; omega) (Nat.zero_le _) ⟨hm1, hm2⟩
      · obtain ⟨m', e2, hm1', hm2'⟩ := L
        rw [e2]
        simp (disch := omega) only [bind_s, bd2_s, rdT_ok, ixR_ok, wrT_none, pfI_s, pfJ_s, pfZ_0, pfZ_1, zr_b2, nl_n, nl_s, nI_add, nI_mul, nI_sub, nI_shlm, nI_shrd, nI_or8, nI_or8r, nI_or5r, nI_and255, nI_and31, nI_and7, nI_and1, nI_andK, nI_clr, Nat.one_mul, nI_eqz, nI_eqq, nI_ltq, nI_ltz, nI_zlt, nI_nm1, nI_m2, m1_z, m1_lt0, m1_m1, b2_z, nI1_z, nI0_z, tb_0, tb_1, ite_nI, I_at, I_ne, J_at, J_ne, J_setI, I_setJ, ↓reduceIte, ltN_T, ltN_F, eqN_T, eqN_F, pow8, pow5, b2_f0, b2_t0, reduceCtorEq, Bool.false_eq_true, Bool.true_eq_false, eq_self, false_and, true_and, and_false, and_true, not_false_eq_true, not_true_eq_false]
        exact ⟨(m', w), rfl, hQ _ ⟨hF.tr F1, hm1', fun j hj => (hm2' j hj).trans (EP_end a _)⟩⟩
      · rintro k e m he ⟨hm1, hm2⟩ Q hQ
        have hl28 := EL_len (S := S) (x := x) (h := h) (s := s0) a
        have hil := t_isLeast a v1 hL hh hs hlt d1 he
        have e40' : w.1 247 40 = nI (EL A S x h s0).length := d1.1
        obtain ⟨-, q1, -, -⟩ := d1.2 e he
        have hst := fun p => EP_step (p := p) a he
        have hE := EL_at (S := S) (x := x) (h := h) (s := s0) a he
        have q1' : w.1 279 e = nI ((EL A S x h s0).getD e (0, 0)).2 := q1
        generalize (EL A S x h s0).getD e (0, 0) = q at *
        have ha7 : q.2 < 7 := (EG_ok a h s0 _ _ _ _ hE).2.2.2.1
        show ∃ y, f_X12_could_64 _ (k + 1) (nI h) (nI m) (nI s0) (nI e) w = f_X12_could_64 _ k (nI h) (nI y) (nI s0) (nI (e + 1)) w ∧ _
        rw [f_X12_could_64]
        cases hob : obX A S x h s0 q.1 q.2 with
        | false =>
          rw [hob] at hil
          simp (disch := omega) only [bind_s, bd2_s, rdT_ok, ixR_ok, wrT_none, pfI_s, pfJ_s, pfZ_0, pfZ_1, zr_b2, nl_n, nl_s, nI_add, nI_mul, nI_sub, nI_shlm, nI_shrd, nI_or8, nI_or8r, nI_or5r, nI_and255, nI_and31, nI_and7, nI_and1, nI_andK, nI_clr, Nat.one_mul, nI_eqz, nI_eqq, nI_ltq, nI_ltz, nI_zlt, nI_nm1, nI_m2, m1_z, m1_lt0, m1_m1, b2_z, nI1_z, nI0_z, tb_0, tb_1, ite_nI, I_at, I_ne, J_at, J_ne, J_setI, I_setJ, ↓reduceIte, ltN_T, ltN_F, eqN_T, eqN_F, pow8, pow5, b2_f0, b2_t0, reduceCtorEq, Bool.false_eq_true, Bool.true_eq_false, eq_self, false_and, true_and, and_false, and_true, not_false_eq_true, not_true_eq_false, e40', hil]
          exact ⟨m, rfl, hQ _ ⟨hm1, fun j hj => (hm2 j hj).trans ((hst _).trans ⟨fun r => r.resolve_right (fun r => by rw [hob] at r; cases r.1), Or.inl⟩).symm⟩⟩
        | true =>
          rw [hob] at hil
          have o2 : nI m ||| nI (2 ^ q.2) = nI (m ||| 2 ^ q.2) := nI_or _ _
          simp (disch := omega) only [bind_s, bd2_s, rdT_ok, ixR_ok, wrT_none, pfI_s, pfJ_s, pfZ_0, pfZ_1, zr_b2, nl_n, nl_s, nI_add, nI_mul, nI_sub, nI_shlm, nI_shrd, nI_or8, nI_or8r, nI_or5r, nI_and255, nI_and31, nI_and7, nI_and1, nI_andK, nI_clr, Nat.one_mul, nI_eqz, nI_eqq, nI_ltq, nI_ltz, nI_zlt, nI_nm1, nI_m2, m1_z, m1_lt0, m1_m1, b2_z, nI1_z, nI0_z, tb_0, tb_1, ite_nI, I_at, I_ne, J_at, J_ne, J_setI, I_setJ, ↓reduceIte, ltN_T, ltN_F, eqN_T, eqN_F, pow8, pow5, b2_f0, b2_t0, reduceCtorEq, Bool.false_eq_true, Bool.true_eq_false, eq_self, false_and, true_and, and_false, and_true, not_false_eq_true, not_true_eq_false, e40', hil, rdI_ok (show e < 28 by omega) (show 28 < 2 ^ 31 by decide), q1', o2]
          refine ⟨_, rfl, hQ _ ⟨Nat.or_lt_two_pow hm1 (Nat.pow_lt_pow_right (by omega) ha7), fun j hj => ?_⟩⟩
          rw [tb_set, Bool.or_eq_true, hm2 j hj, hst, decide_eq_true_iff]
          exact or_congr Iff.rfl ⟨fun r => ⟨hob, r⟩, fun r => r.2⟩
      · intro k m _
        have e40' : w.1 247 40 = nI (EL A S x h s0).length := d1.1
        have hl28 := EL_len (S := S) (x := x) (h := h) (s := s0) a
        show f_X12_could_64 _ (k + 1) _ _ _ (nI (EL A S x h s0).length) w = _
        rw [f_X12_could_64]
        simp (disch := omega) only [bind_s, bd2_s, rdT_ok, ixR_ok, wrT_none, pfI_s, pfJ_s, pfZ_0, pfZ_1, zr_b2, nl_n, nl_s, nI_add, nI_mul, nI_sub, nI_shlm, nI_shrd, nI_or8, nI_or8r, nI_or5r, nI_and255, nI_and31, nI_and7, nI_and1, nI_andK, nI_clr, Nat.one_mul, nI_eqz, nI_eqq, nI_ltq, nI_ltz, nI_zlt, nI_nm1, nI_m2, m1_z, m1_lt0, m1_m1, b2_z, nI1_z, nI0_z, tb_0, tb_1, ite_nI, I_at, I_ne, J_at, J_ne, J_setI, I_setJ, ↓reduceIte, ltN_T, ltN_F, eqN_T, eqN_F, pow8, pow5, b2_f0, b2_t0, reduceCtorEq, Bool.false_eq_true, Bool.true_eq_false, eq_self, false_and, true_and, and_false, and_true, not_false_eq_true, not_true_eq_false, e40']
  · rintro n ⟨m, u⟩ -
    show f_X12_could_27 (n + 1) _ _ (nI 1024) u = _
    rw [f_X12_could_27]
    simp (disch := omega) only [bind_s, bd2_s, rdT_ok, ixR_ok, wrT_none, pfI_s, pfJ_s, pfZ_0, pfZ_1, zr_b2, nl_n, nl_s, nI_add, nI_mul, nI_sub, nI_shlm, nI_shrd, nI_or8, nI_or8r, nI_or5r, nI_and255, nI_and31, nI_and7, nI_and1, nI_andK, nI_clr, Nat.one_mul, nI_eqz, nI_eqq, nI_ltq, nI_ltz, nI_zlt, nI_nm1, nI_m2, m1_z, m1_lt0, m1_m1, b2_z, nI1_z, nI0_z, tb_0, tb_1, ite_nI, I_at, I_ne, J_at, J_ne, J_setI, I_setJ, ↓reduceIte, ltN_T, ltN_F, eqN_T, eqN_F, pow8, pow5, b2_f0, b2_t0, reduceCtorEq, Bool.false_eq_true, Bool.true_eq_false, eq_self, false_and, true_and, and_false, and_true, not_false_eq_true, not_true_eq_false]
  · rintro ⟨m, u⟩ ⟨e, h1, h2⟩
    exact ⟨u, m, e, h1, h2⟩
/-- bits that stand in all steps -/
def bitsN (E : (Nat → Nat → Nat → Prop) → Prop) (n : Nat) (P : Nat → Nat → Nat → Nat → Prop) (m : Nat) : Prop := m < 64 ∧ ∀ j, j < n → (m.testBit j = true ↔ ¬ E (P j))
theorem t_surelyMay (a : AOK A) (v : SV A S x σ) (hL : LE A S x < 100000000) (hh : h < 12) : ∃ u m, f_X12_surelyMay (nI h) σ = some (nI (if sX A S x h = true then 64 else m), u) ∧ Fe σ u ∧ bitsN (EP A S x h 1024 []) (nH A) (fun j _ f s => hc A j (so A f (s % 32) (s / 32 % 8)) (s / 32 % 8) = false) m := by
  have hH := a.1.2.1
  unfold f_X12_surelyMay
  refine Exists.elim (loopE (A := Nat × ST) (fun n s0 y => f_X12_surelyMay_5 (fun x1_11 x2_12 s13 => (rdI s13 270 12 x1_11).bind fun v14 => if v14 < 0 then (some (x2_12, s13)) else (some ((nI 64), s13))) n (nI h) (nI y.1) (nI s0) y.2) 1024 (fun s0 y => Fe σ y.2 ∧ bitsN (EP A S x h s0 []) (nH A) (fun j _ f s => hc A j (so A f (s % 32) (s / 32 % 8)) (s / 32 % 8) = false) y.1) (fun y => (rdI y.2 270 12 (nI h)).bind fun v14 => if v14 < 0 then (some (nI y.1, y.2)) else (some ((nI 64), y.2))) ?_ ?_ FU 0 (63, σ) (by rw [FU_eq]; omega) (by omega) ⟨Fe.rf _, (show (63 : Nat) < 64 by decide), fun j hj => ⟨fun _ => EP_0 _, fun _ => ?_⟩⟩) ?_
  · rintro n s0 ⟨m, u⟩ hs ⟨hF, hm1, hm2⟩ Q hQ
    have v' := SV_fe v hF
    have ew := v'.2.1 h s0 (by omega) hs
    have hle := FW_le (A := A) (S := S) (x := x) h s0
    have hix : 1024 * h + s0 < 13312 := by omega
    show ∃ y : Nat × ST, f_X12_surelyMay_5 (fun x1_11 x2_12 s13 => (rdI s13 270 12 x1_11).bind fun v14 => if v14 < 0 then (some (x2_12, s13)) else (some ((nI 64), s13))) (n + 1) (nI h) (nI m) (nI s0) u = f_X12_surelyMay_5 (fun x1_11 x2_12 s13 => (rdI s13 270 12 x1_11).bind fun v14 => if v14 < 0 then (some (x2_12, s13)) else (some ((nI 64), s13))) n (nI h) (nI y.1) (nI (s0 + 1)) y.2 ∧ _
    rw [f_X12_surelyMay_5]
    simp (disch := omega) only [bind_s, bd2_s, rdT_ok, ixR_ok, wrT_none, pfI_s, pfJ_s, pfZ_0, pfZ_1, zr_b2, nl_n, nl_s, nI_add, nI_mul, nI_sub, nI_shlm, nI_shrd, nI_or8, nI_or8r, nI_or5r, nI_and255, nI_and31, nI_and7, nI_and1, nI_andK, nI_clr, Nat.one_mul, nI_eqz, nI_eqq, nI_ltq, nI_ltz, nI_zlt, nI_nm1, nI_m2, m1_z, m1_lt0, m1_m1, b2_z, nI1_z, nI0_z, tb_0, tb_1, ite_nI, I_at, I_ne, J_at, J_ne, J_setI, I_setJ, ↓reduceIte, ltN_T, ltN_F, eqN_T, eqN_F, pow8, pow5, b2_f0, b2_t0, reduceCtorEq, Bool.false_eq_true, Bool.true_eq_false, eq_self, false_and, true_and, and_false, and_true, not_false_eq_true, not_true_eq_false]
    rw [rdI_ok hix (by decide), ew]
    by_cases hn : FW A S x h s0 = 100000000
    · simp (disch := omega) only [bind_s, bd2_s, rdT_ok, ixR_ok, wrT_none, pfI_s, pfJ_s, pfZ_0, pfZ_1, zr_b2, nl_n, nl_s, nI_add, nI_mul, nI_sub, nI_shlm, nI_shrd, nI_or8, nI_or8r, nI_or5r, nI_and255, nI_and31, nI_and7, nI_and1, nI_andK, nI_clr, Nat.one_mul, nI_eqz, nI_eqq, nI_ltq, nI_ltz, nI_zlt, nI_nm1, nI_m2, m1_z, m1_lt0, m1_m1, b2_z, nI1_z, nI0_z, tb_0, tb_1, ite_nI, I_at, I_ne, J_at, J_ne, J_setI, I_setJ, ↓reduceIte, ltN_T, ltN_F, eqN_T, eqN_F, pow8, pow5, b2_f0, b2_t0, reduceCtorEq, Bool.false_eq_true, Bool.true_eq_false, eq_self, false_and, true_and, and_false, and_true, not_false_eq_true, not_true_eq_false, hn]
      exact ⟨(m, u), rfl, hQ _ ⟨hF, hm1, fun j hj => (hm2 j hj).trans (not_congr (EP_skip hn _).symm)⟩⟩
    · have hlt : FW A S x h s0 < 100000000 := by omega
      obtain ⟨vs, hfl⟩ := FW_v a hlt
      obtain ⟨w, e1, F1, d1⟩ := t_edgesOf a v'.1 hh vs hfl hs
      have v1 := SV_fe v' F1
      simp (disch := omega) only [bind_s, bd2_s, rdT_ok, ixR_ok, wrT_none, pfI_s, pfJ_s, pfZ_0, pfZ_1, zr_b2, nl_n, nl_s, nI_add, nI_mul, nI_sub, nI_shlm, nI_shrd, nI_or8, nI_or8r, nI_or5r, nI_and255, nI_and31, nI_and7, nI_and1, nI_andK, nI_clr, Nat.one_mul, nI_eqz, nI_eqq, nI_ltq, nI_ltz, nI_zlt, nI_nm1, nI_m2, m1_z, m1_lt0, m1_m1, b2_z, nI1_z, nI0_z, tb_0, tb_1, ite_nI, I_at, I_ne, J_at, J_ne, J_setI, I_setJ, ↓reduceIte, ltN_T, ltN_F, eqN_T, eqN_F, pow8, pow5, b2_f0, b2_t0, reduceCtorEq, Bool.false_eq_true, Bool.true_eq_false, eq_self, false_and, true_and, and_false, and_true, not_false_eq_true, not_true_eq_false, hn, e1]
      have L := loopE (fun k e (m : Nat) => f_X12_surelyMay_42 (fun x1_7 x2_8 x3_9 s10 => f_X12_surelyMay_5 (fun x1_11 x2_12 s13 => (rdI s13 270 12 x1_11).bind fun v14 => if v14 < 0 then (some (x2_12, s13)) else (some ((nI 64), s13))) n x1_7 x2_8 (x3_9 + nI 1) s10) k (nI h) (nI m) (nI s0) (nI e) w) (EL A S x h s0).length (fun e m => bitsN (EP A S x h s0 ((EL A S x h s0).take e)) (nH A) (fun j _ f s => hc A j (so A f (s % 32) (s / 32 % 8)) (s / 32 % 8) = false) m) (fun m => f_X12_surelyMay_5 (fun x1_11 x2_12 s13 => (rdI s13 270 12 x1_11).bind fun v14 => if v14 < 0 then (some (x2_12, s13)) else (some ((nI 64), s13))) n (nI h) (nI m) (nI s0 + nI 1) w) ?_ ?_ FU 0 m (by have := EL_len (S := S) (x := x) (h := h) (s := s0) a; rw [FU_eq]; omega) (Nat.zero_le _) ⟨hm1, hm2⟩
      · obtain ⟨m', e2, hm1', hm2'⟩ := L
        rw [e2]
        simp (disch := omega) only [bind_s, bd2_s, rdT_ok, ixR_ok, wrT_none, pfI_s, pfJ_s, pfZ_0, pfZ_1, zr_b2, nl_n, nl_s, nI_add, nI_mul, nI_sub, nI_shlm, nI_shrd, nI_or8, nI_or8r, nI_or5r, nI_and255, nI_and31, nI_and7, nI_and1, nI_andK, nI_clr, Nat.one_mul, nI_eqz, nI_eqq, nI_ltq, nI_ltz, nI_zlt, nI_nm1, nI_m2, m1_z, m1_lt0, m1_m1, b2_z, nI1_z, nI0_z, tb_0, tb_1, ite_nI, I_at, I_ne, J_at, J_ne, J_setI, I_setJ, ↓reduceIte, ltN_T, ltN_F, eqN_T, eqN_F, pow8, pow5, b2_f0, b2_t0, reduceCtorEq, Bool.false_eq_true, Bool.true_eq_false, eq_self, false_and, true_and, and_false, and_true, not_false_eq_true, not_true_eq_false]
        exact ⟨(m', w), rfl, hQ _ ⟨hF.tr F1, hm1', fun j hj => (hm2' j hj).trans (not_congr (EP_end a _))⟩⟩
      · rintro k e m he ⟨hm1, hm2⟩ Q hQ
        have hl28 := EL_len (S := S) (x := x) (h := h) (s := s0) a
        have hil := t_isLeast a v1 hL hh hs hlt d1 he
        have e40' : w.1 247 40 = nI (EL A S x h s0).length := d1.1
        obtain ⟨q1, -, -, -⟩ := d1.2 e he
        have hst := fun p => EP_step (p := p) a he
        have hE := EL_at (S := S) (x := x) (h := h) (s := s0) a he
        have q1' : w.1 278 e = nI (((EL A S x h s0).getD e (0, 0)).1 * 256 + s0 % 256) := q1
        generalize (EL A S x h s0).getD e (0, 0) = q at *
        have gE := (EG_iff.mp hE).1
        have hf4 := F4 a
        have hqf : q.1 < 4 := Nat.lt_of_lt_of_le gE.2.1.1 hf4
        have hmm : (q.1 * 256 + s0 % 256) % 32 = s0 % 32 ∧ (q.1 * 256 + s0 % 256) / 32 % 8 = s0 / 32 % 8 ∧ (q.1 * 256 + s0 % 256) / 256 = q.1 := by omega
        have hvm : VM A (q.1 * 256 + s0 % 256) := by
          unfold VM
          rw [hmm.1, hmm.2.1, hmm.2.2]
          exact ⟨vs.1, gE.2.1.1, vs.2⟩
        have hsm : q.1 * 256 + s0 % 256 < 1024 := by omega
        have tb := ((v1.1.2.2.1 _ hsm).2 hvm).2.1
        have hso : som A (q.1 * 256 + s0 % 256) = so A q.1 (s0 % 32) (s0 / 32 % 8) := by unfold som; rw [hmm.1, hmm.2.1, hmm.2.2]
        rw [hso, hmm.2.1] at tb
        have hbt := fun j => msk_tb (fun b => hc A b (so A q.1 (s0 % 32) (s0 / 32 % 8)) (s0 / 32 % 8)) j (nH A)
        generalize msk (fun b => hc A b (so A q.1 (s0 % 32) (s0 / 32 % 8)) (s0 / 32 % 8)) (nH A) = mk at *
        show ∃ y, f_X12_surelyMay_42 _ (k + 1) (nI h) (nI m) (nI s0) (nI e) w = f_X12_surelyMay_42 _ k (nI h) (nI y) (nI s0) (nI (e + 1)) w ∧ _
        rw [f_X12_surelyMay_42]
        cases hob : obX A S x h s0 q.1 q.2 with
        | false =>
          rw [hob] at hil
          simp (disch := omega) only [bind_s, bd2_s, rdT_ok, ixR_ok, wrT_none, pfI_s, pfJ_s, pfZ_0, pfZ_1, zr_b2, nl_n, nl_s, nI_add, nI_mul, nI_sub, nI_shlm, nI_shrd, nI_or8, nI_or8r, nI_or5r, nI_and255, nI_and31, nI_and7, nI_and1, nI_andK, nI_clr, Nat.one_mul, nI_eqz, nI_eqq, nI_ltq, nI_ltz, nI_zlt, nI_nm1, nI_m2, m1_z, m1_lt0, m1_m1, b2_z, nI1_z, nI0_z, tb_0, tb_1, ite_nI, I_at, I_ne, J_at, J_ne, J_setI, I_setJ, ↓reduceIte, ltN_T, ltN_F, eqN_T, eqN_F, pow8, pow5, b2_f0, b2_t0, reduceCtorEq, Bool.false_eq_true, Bool.true_eq_false, eq_self, false_and, true_and, and_false, and_true, not_false_eq_true, not_true_eq_false, e40', hil]
          exact ⟨m, rfl, hQ _ ⟨hm1, fun j hj => (hm2 j hj).trans (not_congr ((hst _).trans ⟨fun r => r.resolve_right (fun r => by rw [hob] at r; cases r.1), Or.inl⟩).symm)⟩⟩
        | true =>
          rw [hob] at hil
          have o2 : nI m &&& nI mk = nI (m &&& mk) := nI_and _ _
          simp (disch := omega) only [bind_s, bd2_s, rdT_ok, ixR_ok, wrT_none, pfI_s, pfJ_s, pfZ_0, pfZ_1, zr_b2, nl_n, nl_s, nI_add, nI_mul, nI_sub, nI_shlm, nI_shrd, nI_or8, nI_or8r, nI_or5r, nI_and255, nI_and31, nI_and7, nI_and1, nI_andK, nI_clr, Nat.one_mul, nI_eqz, nI_eqq, nI_ltq, nI_ltz, nI_zlt, nI_nm1, nI_m2, m1_z, m1_lt0, m1_m1, b2_z, nI1_z, nI0_z, tb_0, tb_1, ite_nI, I_at, I_ne, J_at, J_ne, J_setI, I_setJ, ↓reduceIte, ltN_T, ltN_F, eqN_T, eqN_F, pow8, pow5, b2_f0, b2_t0, reduceCtorEq, Bool.false_eq_true, Bool.true_eq_false, eq_self, false_and, true_and, and_false, and_true, not_false_eq_true, not_true_eq_false, e40', hil, rdI_ok (show e < 28 by omega) (show 28 < 2 ^ 31 by decide), q1', rdI_ok hsm (show 1024 < 2 ^ 31 by decide), tb, o2]
          refine ⟨_, rfl, hQ _ ⟨Nat.lt_of_le_of_lt Nat.and_le_left hm1, fun j hj => ?_⟩⟩
          rw [Nat.testBit_and, Bool.and_eq_true, hm2 j hj, hst, hbt, decide_eq_true hj, Bool.true_and]
          constructor
          · rintro ⟨r1, r2⟩ (r3 | r3)
            · exact r1 r3
            · have r4 : hc A j (so A q.1 (s0 % 32) (s0 / 32 % 8)) (s0 / 32 % 8) = false := r3.2
              rw [r2] at r4; cases r4
          · intro r
            refine ⟨fun q => r (Or.inl q), ?_⟩
            cases hcc : hc A j (so A q.1 (s0 % 32) (s0 / 32 % 8)) (s0 / 32 % 8) with
            | true => rfl
            | false => exact absurd (Or.inr ⟨hob, hcc⟩) r
      · intro k m _
        have e40' : w.1 247 40 = nI (EL A S x h s0).length := d1.1
        have hl28 := EL_len (S := S) (x := x) (h := h) (s := s0) a
        show f_X12_surelyMay_42 _ (k + 1) _ _ _ (nI (EL A S x h s0).length) w = _
        rw [f_X12_surelyMay_42]
        simp (disch := omega) only [bind_s, bd2_s, rdT_ok, ixR_ok, wrT_none, pfI_s, pfJ_s, pfZ_0, pfZ_1, zr_b2, nl_n, nl_s, nI_add, nI_mul, nI_sub, nI_shlm, nI_shrd, nI_or8, nI_or8r, nI_or5r, nI_and255, nI_and31, nI_and7, nI_and1, nI_andK, nI_clr, Nat.one_mul, nI_eqz, nI_eqq, nI_ltq, nI_ltz, nI_zlt, nI_nm1, nI_m2, m1_z, m1_lt0, m1_m1, b2_z, nI1_z, nI0_z, tb_0, tb_1, ite_nI, I_at, I_ne, J_at, J_ne, J_setI, I_setJ, ↓reduceIte, ltN_T, ltN_F, eqN_T, eqN_F, pow8, pow5, b2_f0, b2_t0, reduceCtorEq, Bool.false_eq_true, Bool.true_eq_false, eq_self, false_and, true_and, and_false, and_true, not_false_eq_true, not_true_eq_false, e40']
  · rintro n ⟨m, u⟩ -
    show f_X12_surelyMay_5 _ (n + 1) _ _ (nI 1024) u = _
    rw [f_X12_surelyMay_5]
    simp (disch := omega) only [bind_s, bd2_s, rdT_ok, ixR_ok, wrT_none, pfI_s, pfJ_s, pfZ_0, pfZ_1, zr_b2, nl_n, nl_s, nI_add, nI_mul, nI_sub, nI_shlm, nI_shrd, nI_or8, nI_or8r, nI_or5r, nI_and255, nI_and31, nI_and7, nI_and1, nI_andK, nI_clr, Nat.one_mul, nI_eqz, nI_eqq, nI_ltq, nI_ltz, nI_zlt, nI_nm1, nI_m2, m1_z, m1_lt0, m1_m1, b2_z, nI1_z, nI0_z, tb_0, tb_1, ite_nI, I_at, I_ne, J_at, J_ne, J_setI, I_setJ, ↓reduceIte, ltN_T, ltN_F, eqN_T, eqN_F, pow8, pow5, b2_f0, b2_t0, reduceCtorEq, Bool.false_eq_true, Bool.true_eq_false, eq_self, false_and, true_and, and_false, and_true, not_false_eq_true, not_true_eq_false]
  · show (63 : Nat).testBit j = true
    rw [show (63 : Nat) = 2 ^ 6 - 1 from rfl, Nat.testBit_two_pow_sub_one, decide_eq_true_iff]
    omega
  · rintro ⟨m, u⟩ ⟨e, hF, h2⟩
    refine ⟨u, m, ?_, hF, h2⟩
    rw [e]
    have g1 := ((SV_fe v hF).1.2.1.1 h hh).1
    rcases g1 with ⟨v1, v2, -⟩ | ⟨c, hc6, v1, v2, -⟩ | ⟨v1, v2, -⟩
    · have v1' : u.1 270 h = -1 := v1
      rw [v2]; simp (disch := omega) only [bind_s, bd2_s, rdI_ok, rdJ_ok, rdT_ok, ixR_ok, wrI_ok, wrJ_ok, wrT_none, pfI_s, pfJ_s, pfZ_0, pfZ_1, zr_b2, nl_n, nl_s, nI_add, nI_mul, nI_sub, nI_shlm, nI_shrd, nI_or8, nI_or8r, nI_or5r, nI_and255, nI_and31, nI_and7, nI_and1, nI_andK, nI_clr, Nat.one_mul, nI_eqz, nI_eqq, nI_ltq, nI_ltz, nI_zlt, nI_nm1, nI_m2, m1_z, m1_lt0, m1_m1, b2_z, nI1_z, nI0_z, tb_0, tb_1, ite_nI, I_at, I_ne, J_at, J_ne, J_setI, I_setJ, ↓reduceIte, ltN_T, ltN_F, eqN_T, eqN_F, pow8, pow5, b2_f0, b2_t0, reduceCtorEq, Bool.false_eq_true, Bool.true_eq_false, eq_self, false_and, true_and, and_false, and_true, not_false_eq_true, not_true_eq_false, v1']
    · have v1' : u.1 270 h = nI c := v1
      rw [v2]; simp (disch := omega) only [bind_s, bd2_s, rdI_ok, rdJ_ok, rdT_ok, ixR_ok, wrI_ok, wrJ_ok, wrT_none, pfI_s, pfJ_s, pfZ_0, pfZ_1, zr_b2, nl_n, nl_s, nI_add, nI_mul, nI_sub, nI_shlm, nI_shrd, nI_or8, nI_or8r, nI_or5r, nI_and255, nI_and31, nI_and7, nI_and1, nI_andK, nI_clr, Nat.one_mul, nI_eqz, nI_eqq, nI_ltq, nI_ltz, nI_zlt, nI_nm1, nI_m2, m1_z, m1_lt0, m1_m1, b2_z, nI1_z, nI0_z, tb_0, tb_1, ite_nI, I_at, I_ne, J_at, J_ne, J_setI, I_setJ, ↓reduceIte, ltN_T, ltN_F, eqN_T, eqN_F, pow8, pow5, b2_f0, b2_t0, reduceCtorEq, Bool.false_eq_true, Bool.true_eq_false, eq_self, false_and, true_and, and_false, and_true, not_false_eq_true, not_true_eq_false, v1']
    · exfalso
      -- no course there
      obtain ⟨s, k⟩ := KP_all (EG_ok a) (show Le (EG A S x) (2 ^ cK A 1) (glS A S) < NV from hL) (12 - h) (by omega)
      rw [show 12 - (12 - h) = h by omega] at k
      obtain ⟨f, act, t, c, o⟩ := KP_out (EG_ok a) hh k
      have o2 := (EG_iff.mp o.1).1.2.2.2.1
      rw [aX_eq] at o2
      have g1 := ((SV_fe v hF).1.2.1.1 h hh).1
      rcases g1 with ⟨w1, -, -⟩ | ⟨c, hc6, w1, -, -⟩ | ⟨-, -, w3⟩
      · rw [v1] at w1; exact absurd w1 (by decide)
      · have := nI_m2 (a := c) (by omega)
        rw [← w1, v1] at this
        simp at this
      · have q : (sOK A S (nP A) h act && !(decide (h = x.1 ∧ act ≠ x.2))) = false := w3 act
        rw [q] at o2
        cases o2
end
