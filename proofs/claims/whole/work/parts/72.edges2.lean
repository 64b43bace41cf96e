section
/-! ===== the reference's steps from a state, all of them ===== -/
variable {A : AW} {σ : ST} {S h : Nat} {x : Nat × Nat}
theorem aX_eq {a : Nat} : aX A S x h a = ((sOK A S (nP A) h a && !(decide (h = x.1 ∧ a ≠ x.2))) && !nB A S (nP A) h a) := by
  unfold aX
  rw [aN_eq]
  cases sOK A S (nP A) h a <;> cases nB A S (nP A) h a <;> cases decide (h = x.1 ∧ a ≠ x.2) <;> rfl
theorem EG_at {s f act : Nat} (v : vst A s) (hfl : s / 256 < 2 ^ nS A S) (ok : okf A S h s f) : ((EG A S x h s f act).isSome = true ↔ oka A S x h s f act) ∧ ((EG A S x h s f act).isSome = true → EG A S x h s f act = some (tos A S h s f act, cst A S x h act)) := by
  have key : oka A S x h s f act → EG A S x h s f act = some (tos A S h s f act, cst A S x h act) := fun o => EG_iff.mpr ⟨⟨⟨v, hfl⟩, ok, o⟩, rfl, rfl⟩
  have back : (EG A S x h s f act).isSome = true → oka A S x h s f act := by
    intro q
    obtain ⟨⟨t, c⟩, e⟩ := Option.isSome_iff_exists.mp q
    exact (EG_iff.mp e).1.2.2
  exact ⟨⟨back, fun o => by rw [key o]; rfl⟩, fun q => key (back q)⟩
theorem t_197 (a : AOK A) (b : MB A S x σ) (hh : h < 12) {s f act : Nat} (vs : vst A s) (hs : s < 1024) (hf : f < 2 ^ cK A 0) (ha : act = 6 ∨ act < nH A) {k : Int32 → Int32 → Int32 → Int32 → Int32 → ST → Option ST} : f_X12_edgesOf_197 k (nI h) (nI s) (nI f) (nI (f * 256 + s % 256)) (nI act) σ = if (nB A S (nP A) h act || blk A (so A f (s % 32) (s / 32 % 8)) (s / 32 % 8) act) = true then k (nI h) (nI s) (nI f) (nI (f * 256 + s % 256)) (nI (act + 1)) σ else f_X12_edgesOf_251 k (nI h) (nI s) (nI f) (nI (f * 256 + s % 256)) (nI act) σ := by
  have hH := a.1.2.1
  have hF4 := F4 a
  obtain ⟨-, ⟨m, g2, g3, g4⟩, -⟩ := b.2.1.1 h hh
  have hsm : f * 256 + s % 256 < 1024 := by omega
  have hmm : (f * 256 + s % 256) % 32 = s % 32 ∧ (f * 256 + s % 256) / 32 % 8 = s / 32 % 8 ∧ (f * 256 + s % 256) / 256 = f := by omega
  have hvm : VM A (f * 256 + s % 256) := by
    unfold VM
    rw [hmm.1, hmm.2.1, hmm.2.2]
    exact ⟨vs.1, hf, vs.2⟩
  have hso : som A (f * 256 + s % 256) = so A f (s % 32) (s / 32 % 8) := by unfold som; rw [hmm.1, hmm.2.1, hmm.2.2]
  obtain ⟨-, tb2, -⟩ := (b.2.2.1 _ hsm).2 hvm
  rw [hso, hmm.2.1] at tb2
  have hml := msk_lt (fun b => hc A b (so A f (s % 32) (s / 32 % 8)) (s / 32 % 8)) (nH A)
  have h64 : (2 : Nat) ^ nH A ≤ 64 := two_le (m := 6) hH
  have hg4 := g4 act (by omega)
  rw [f_X12_edgesOf_197]
  cases hnb : nB A S (nP A) h act with
  | true =>
    rw [hnb] at hg4
    simp (disch := omega) only [bind_s, bd2_s, rdI_ok, rdJ_ok, rdT_ok, ixR_ok, wrI_ok, wrJ_ok, wrT_none, pfI_s, pfJ_s, pfZ_0, pfZ_1, zr_b2, nl_n, nl_s, nI_add, nI_mul, nI_sub, nI_shlm, nI_shrd, nI_or8, nI_or8r, nI_or5r, nI_and255, nI_and31, nI_and7, nI_and1, nI_andK, nI_clr, Nat.one_mul, nI_eqz, nI_eqq, nI_ltq, nI_ltz, nI_zlt, nI_nm1, nI_m2, m1_z, m1_lt0, m1_m1, b2_z, nI1_z, nI0_z, tb_0, tb_1, ite_nI, I_at, I_ne, J_at, J_ne, J_setI, I_setJ, ↓reduceIte, ltN_T, ltN_F, eqN_T, eqN_F, pow8, pow5, b2_f0, b2_t0, reduceCtorEq, Bool.false_eq_true, Bool.true_eq_false, eq_self, false_and, true_and, and_false, and_true, not_false_eq_true, not_true_eq_false, g3, hg4, Bool.true_or]
  | false =>
    rw [hnb] at hg4
    by_cases e6 : act < 6
    · have han : act < nH A := by omega
      obtain ⟨len, -, -, -, -, -, -, hst⟩ := b.1.2.2.1 act han
      have hsr := (a.2.2.2.1 act han).2.1
      have hbit := msk_tb (fun b => hc A b (so A f (s % 32) (s / 32 % 8)) (s / 32 % 8)) act (nH A)
      rw [decide_eq_true han, Bool.true_and] at hbit
      unfold blk
      rw [decide_eq_true han]
      by_cases e1 : sr A act = 1
      · rw [e1] at hst
        cases hcc : hc A act (so A f (s % 32) (s / 32 % 8)) (s / 32 % 8) with
        | true =>
          rw [hcc] at hbit
          simp (disch := omega) only [bind_s, bd2_s, rdI_ok, rdJ_ok, rdT_ok, ixR_ok, wrI_ok, wrJ_ok, wrT_none, pfI_s, pfJ_s, pfZ_0, pfZ_1, zr_b2, nl_n, nl_s, nI_add, nI_mul, nI_sub, nI_shlm, nI_shrd, nI_or8, nI_or8r, nI_or5r, nI_and255, nI_and31, nI_and7, nI_and1, nI_andK, nI_clr, Nat.one_mul, nI_eqz, nI_eqq, nI_ltq, nI_ltz, nI_zlt, nI_nm1, nI_m2, m1_z, m1_lt0, m1_m1, b2_z, nI1_z, nI0_z, tb_0, tb_1, ite_nI, I_at, I_ne, J_at, J_ne, J_setI, I_setJ, ↓reduceIte, ltN_T, ltN_F, eqN_T, eqN_F, pow8, pow5, b2_f0, b2_t0, reduceCtorEq, Bool.false_eq_true, Bool.true_eq_false, eq_self, false_and, true_and, and_false, and_true, not_false_eq_true, not_true_eq_false, g3, hg4, e6, hst, tb2, hbit, e1, decide_true, Bool.not_true, Bool.and_false, Bool.or_false]
        | false =>
          rw [hcc] at hbit
          simp (disch := omega) only [bind_s, bd2_s, rdI_ok, rdJ_ok, rdT_ok, ixR_ok, wrI_ok, wrJ_ok, wrT_none, pfI_s, pfJ_s, pfZ_0, pfZ_1, zr_b2, nl_n, nl_s, nI_add, nI_mul, nI_sub, nI_shlm, nI_shrd, nI_or8, nI_or8r, nI_or5r, nI_and255, nI_and31, nI_and7, nI_and1, nI_andK, nI_clr, Nat.one_mul, nI_eqz, nI_eqq, nI_ltq, nI_ltz, nI_zlt, nI_nm1, nI_m2, m1_z, m1_lt0, m1_m1, b2_z, nI1_z, nI0_z, tb_0, tb_1, ite_nI, I_at, I_ne, J_at, J_ne, J_setI, I_setJ, ↓reduceIte, ltN_T, ltN_F, eqN_T, eqN_F, pow8, pow5, b2_f0, b2_t0, reduceCtorEq, Bool.false_eq_true, Bool.true_eq_false, eq_self, false_and, true_and, and_false, and_true, not_false_eq_true, not_true_eq_false, g3, hg4, e6, hst, tb2, hbit, e1, decide_true, Bool.not_false, Bool.and_true, Bool.or_true]
      · simp (disch := omega) only [bind_s, bd2_s, rdI_ok, rdJ_ok, rdT_ok, ixR_ok, wrI_ok, wrJ_ok, wrT_none, pfI_s, pfJ_s, pfZ_0, pfZ_1, zr_b2, nl_n, nl_s, nI_add, nI_mul, nI_sub, nI_shlm, nI_shrd, nI_or8, nI_or8r, nI_or5r, nI_and255, nI_and31, nI_and7, nI_and1, nI_andK, nI_clr, Nat.one_mul, nI_eqz, nI_eqq, nI_ltq, nI_ltz, nI_zlt, nI_nm1, nI_m2, m1_z, m1_lt0, m1_m1, b2_z, nI1_z, nI0_z, tb_0, tb_1, ite_nI, I_at, I_ne, J_at, J_ne, J_setI, I_setJ, ↓reduceIte, ltN_T, ltN_F, eqN_T, eqN_F, pow8, pow5, b2_f0, b2_t0, reduceCtorEq, Bool.false_eq_true, Bool.true_eq_false, eq_self, false_and, true_and, and_false, and_true, not_false_eq_true, not_true_eq_false, g3, hg4, e6, hst, e1, decide_false, Bool.false_and, Bool.and_false, Bool.or_false]
    · have hn : ¬ act < nH A := by omega
      unfold blk
      rw [decide_eq_false hn]
      simp (disch := omega) only [bind_s, bd2_s, rdI_ok, rdJ_ok, rdT_ok, ixR_ok, wrI_ok, wrJ_ok, wrT_none, pfI_s, pfJ_s, pfZ_0, pfZ_1, zr_b2, nl_n, nl_s, nI_add, nI_mul, nI_sub, nI_shlm, nI_shrd, nI_or8, nI_or8r, nI_or5r, nI_and255, nI_and31, nI_and7, nI_and1, nI_andK, nI_clr, Nat.one_mul, nI_eqz, nI_eqq, nI_ltq, nI_ltz, nI_zlt, nI_nm1, nI_m2, m1_z, m1_lt0, m1_m1, b2_z, nI1_z, nI0_z, tb_0, tb_1, ite_nI, I_at, I_ne, J_at, J_ne, J_setI, I_setJ, ↓reduceIte, ltN_T, ltN_F, eqN_T, eqN_F, pow8, pow5, b2_f0, b2_t0, reduceCtorEq, Bool.false_eq_true, Bool.true_eq_false, eq_self, false_and, true_and, and_false, and_true, not_false_eq_true, not_true_eq_false, g3, hg4, e6, Bool.false_and, Bool.or_false]
theorem t_125 (a : AOK A) (b : MB A S x σ) (hh : h < 12) {s f : Nat} (vs : vst A s) (hfl : s / 256 < 2 ^ nS A S) (hs : s < 1024) (ok : okf A S h s f) {L : List (Nat × Nat)} (hL : L.length ≤ 7 * f) (ed : EdA A S x h s L σ) (ht : σ.1 270 h ≠ -2) {k : Int32 → Int32 → Int32 → ST → Option ST} : ∃ u, f_X12_edgesOf_125 k FU (nI h) (nI s) (nI f) (nI (f * 256 + s % 256)) (nI 0) σ = k (nI h) (nI s) (nI f) u ∧ Fe σ u ∧ EdA A S x h s (L ++ eA (fun c => (EG A S x h s f c).isSome) f 7) u := by
  have hH := a.1.2.1
  have hF4 := F4 a
  have hf := ok.1
  refine loopE (fun n i u => f_X12_edgesOf_125 k n (nI h) (nI s) (nI f) (nI (f * 256 + s % 256)) (nI i) u) 7 (fun i u => Fe σ u ∧ EdA A S x h s (L ++ eA (fun c => (EG A S x h s f c).isSome) f i) u) (fun u => k (nI h) (nI s) (nI f) u) ?_ ?_ FU 0 σ (by rw [FU_eq]; omega) (by omega) ⟨Fe.rf _, by rw [eA, List.append_nil]; exact ed⟩
  · rintro n i u hi ⟨hF, he⟩ Q hQ
    have b' := MB_fe b hF
    have m4 := b'.1.1.2.1
    obtain ⟨g1, -⟩ := b'.2.1.1 h hh
    have ht' : u.1 270 h ≠ -2 := by rw [hF.I (by omega) (by omega)]; exact ht
    obtain ⟨q1, q2⟩ := EG_at (x := x) (act := i) vs hfl ok
    have hlen := eA_len (fun c => (EG A S x h s f c).isSome) f i
    have hlen2 : (L ++ eA (fun c => (EG A S x h s f c).isSome) f i).length < 28 := by rw [List.length_append]; omega
    have skip : ¬ oka A S x h s f i → Q u := by
      intro hn
      refine hQ _ ⟨hF, ?_⟩
      rw [eA, if_neg (fun w => hn (q1.mp w))]
      exact he
    have go : oka A S x h s f i → ∃ y, f_X12_edgesOf_251 (f_X12_edgesOf_125 k n) (nI h) (nI s) (nI f) (nI (f * 256 + s % 256)) (nI i) u = f_X12_edgesOf_125 k n (nI h) (nI s) (nI f) (nI (f * 256 + s % 256)) (nI (i + 1)) y ∧ Q y := by
      intro ho
      obtain ⟨w, w1, w2, w3⟩ := t_edge (k := f_X12_edgesOf_125 k n) a b' hh vs hfl hs hf ho.1 hlen2 he (q2 (q1.mpr ho)) ht'
      refine ⟨w, w1, hQ _ ⟨hF.tr w2, ?_⟩⟩
      rw [eA, if_pos (q1.mpr ho), ← List.append_assoc]
      exact w3
    -- behind the told ones
    have mid : (i = 6 ∨ i < nH A) → (sOK A S (nP A) h i && !(decide (h = x.1 ∧ i ≠ x.2))) = true → ∃ y, f_X12_edgesOf_197 (f_X12_edgesOf_125 k n) (nI h) (nI s) (nI f) (nI (f * 256 + s % 256)) (nI i) u = f_X12_edgesOf_125 k n (nI h) (nI s) (nI f) (nI (f * 256 + s % 256)) (nI (i + 1)) y ∧ Q y := by
      intro h1 h2
      rw [t_197 a b' hh vs hs hf h1]
      by_cases w : (nB A S (nP A) h i || blk A (so A f (s % 32) (s / 32 % 8)) (s / 32 % 8) i) = true
      · rw [if_pos w]
        refine ⟨u, rfl, skip (fun o => ?_)⟩
        have o2 := o.2.1
        rw [aX_eq, h2] at o2
        rw [Bool.or_eq_true] at w
        rcases w with w | w
        · rw [w] at o2; cases o2
        · rw [o.2.2] at w; cases w
      · rw [if_neg w]
        refine go ⟨h1, ?_, ?_⟩
        · rw [aX_eq, h2]
          cases q : nB A S (nP A) h i with
          | false => rfl
          | true => rw [q] at w; exact absurd (Bool.true_or _) w
        · cases q : blk A (so A f (s % 32) (s / 32 % 8)) (s / 32 % 8) i with
          | false => rfl
          | true => rw [q] at w; exact absurd (Bool.or_true _) w
    show ∃ y, f_X12_edgesOf_125 k (n + 1) (nI h) (nI s) (nI f) (nI (f * 256 + s % 256)) (nI i) u = f_X12_edgesOf_125 k n (nI h) (nI s) (nI f) (nI (f * 256 + s % 256)) (nI (i + 1)) y ∧ _
    rw [f_X12_edgesOf_125]
    have nok : (sOK A S (nP A) h i && !(decide (h = x.1 ∧ i ≠ x.2))) = false → ¬ oka A S x h s f i := fun q o => by
      have o2 := o.2.1
      rw [aX_eq, q] at o2
      cases o2
    by_cases e6 : i < 6
    · by_cases en : i < nH A
      · simp (disch := omega) only [bind_s, bd2_s, rdI_ok, rdJ_ok, rdT_ok, ixR_ok, wrI_ok, wrJ_ok, wrT_none, pfI_s, pfJ_s, pfZ_0, pfZ_1, zr_b2, nl_n, nl_s, nI_add, nI_mul, nI_sub, nI_shlm, nI_shrd, nI_or8, nI_or8r, nI_or5r, nI_and255, nI_and31, nI_and7, nI_and1, nI_andK, nI_clr, Nat.one_mul, nI_eqz, nI_eqq, nI_ltq, nI_ltz, nI_zlt, nI_nm1, nI_m2, m1_z, m1_lt0, m1_m1, b2_z, nI1_z, nI0_z, tb_0, tb_1, ite_nI, I_at, I_ne, J_at, J_ne, J_setI, I_setJ, ↓reduceIte, ltN_T, ltN_F, eqN_T, eqN_F, pow8, pow5, b2_f0, b2_t0, reduceCtorEq, Bool.false_eq_true, Bool.true_eq_false, eq_self, false_and, true_and, and_false, and_true, not_false_eq_true, not_true_eq_false, m4, e6, en]
        rw [f_X12_edgesOf_148]
        have hi6 : ¬ i = 6 := by omega
        simp (disch := omega) only [bind_s, bd2_s, rdI_ok, rdJ_ok, rdT_ok, ixR_ok, wrI_ok, wrJ_ok, wrT_none, pfI_s, pfJ_s, pfZ_0, pfZ_1, zr_b2, nl_n, nl_s, nI_add, nI_mul, nI_sub, nI_shlm, nI_shrd, nI_or8, nI_or8r, nI_or5r, nI_and255, nI_and31, nI_and7, nI_and1, nI_andK, nI_clr, Nat.one_mul, nI_eqz, nI_eqq, nI_ltq, nI_ltz, nI_zlt, nI_nm1, nI_m2, m1_z, m1_lt0, m1_m1, b2_z, nI1_z, nI0_z, tb_0, tb_1, ite_nI, I_at, I_ne, J_at, J_ne, J_setI, I_setJ, ↓reduceIte, ltN_T, ltN_F, eqN_T, eqN_F, pow8, pow5, b2_f0, b2_t0, reduceCtorEq, Bool.false_eq_true, Bool.true_eq_false, eq_self, false_and, true_and, and_false, and_true, not_false_eq_true, not_true_eq_false, hi6]
        rw [f_X12_edgesOf_167]
        rcases g1 with ⟨v1, -, v3⟩ | ⟨c, hc6, v1, -, v3⟩ | ⟨v1, -⟩
        · simp (disch := omega) only [bind_s, bd2_s, rdI_ok, rdJ_ok, rdT_ok, ixR_ok, wrI_ok, wrJ_ok, wrT_none, pfI_s, pfJ_s, pfZ_0, pfZ_1, zr_b2, nl_n, nl_s, nI_add, nI_mul, nI_sub, nI_shlm, nI_shrd, nI_or8, nI_or8r, nI_or5r, nI_and255, nI_and31, nI_and7, nI_and1, nI_andK, nI_clr, Nat.one_mul, nI_eqz, nI_eqq, nI_ltq, nI_ltz, nI_zlt, nI_nm1, nI_m2, m1_z, m1_lt0, m1_m1, b2_z, nI1_z, nI0_z, tb_0, tb_1, ite_nI, I_at, I_ne, J_at, J_ne, J_setI, I_setJ, ↓reduceIte, ltN_T, ltN_F, eqN_T, eqN_F, pow8, pow5, b2_f0, b2_t0, reduceCtorEq, Bool.false_eq_true, Bool.true_eq_false, eq_self, false_and, true_and, and_false, and_true, not_false_eq_true, not_true_eq_false, e6, v1]
          exact mid (Or.inr en) (v3 i)
        · by_cases ec : i = c
          · simp (disch := omega) only [bind_s, bd2_s, rdI_ok, rdJ_ok, rdT_ok, ixR_ok, wrI_ok, wrJ_ok, wrT_none, pfI_s, pfJ_s, pfZ_0, pfZ_1, zr_b2, nl_n, nl_s, nI_add, nI_mul, nI_sub, nI_shlm, nI_shrd, nI_or8, nI_or8r, nI_or5r, nI_and255, nI_and31, nI_and7, nI_and1, nI_andK, nI_clr, Nat.one_mul, nI_eqz, nI_eqq, nI_ltq, nI_ltz, nI_zlt, nI_nm1, nI_m2, m1_z, m1_lt0, m1_m1, b2_z, nI1_z, nI0_z, tb_0, tb_1, ite_nI, I_at, I_ne, J_at, J_ne, J_setI, I_setJ, ↓reduceIte, ltN_T, ltN_F, eqN_T, eqN_F, pow8, pow5, b2_f0, b2_t0, reduceCtorEq, Bool.false_eq_true, Bool.true_eq_false, eq_self, false_and, true_and, and_false, and_true, not_false_eq_true, not_true_eq_false, e6, v1, ec]
            rw [← ec]
            exact mid (Or.inr en) (by have := v3 i; rw [decide_eq_true ec] at this; exact this)
          · simp (disch := omega) only [bind_s, bd2_s, rdI_ok, rdJ_ok, rdT_ok, ixR_ok, wrI_ok, wrJ_ok, wrT_none, pfI_s, pfJ_s, pfZ_0, pfZ_1, zr_b2, nl_n, nl_s, nI_add, nI_mul, nI_sub, nI_shlm, nI_shrd, nI_or8, nI_or8r, nI_or5r, nI_and255, nI_and31, nI_and7, nI_and1, nI_andK, nI_clr, Nat.one_mul, nI_eqz, nI_eqq, nI_ltq, nI_ltz, nI_zlt, nI_nm1, nI_m2, m1_z, m1_lt0, m1_m1, b2_z, nI1_z, nI0_z, tb_0, tb_1, ite_nI, I_at, I_ne, J_at, J_ne, J_setI, I_setJ, ↓reduceIte, ltN_T, ltN_F, eqN_T, eqN_F, pow8, pow5, b2_f0, b2_t0, reduceCtorEq, Bool.false_eq_true, Bool.true_eq_false, eq_self, false_and, true_and, and_false, and_true, not_false_eq_true, not_true_eq_false, e6, v1, ec]
            exact ⟨u, rfl, skip (nok (by have := v3 i; rw [decide_eq_false ec] at this; exact this))⟩
        · exact absurd v1 ht'
      · simp (disch := omega) only [bind_s, bd2_s, rdI_ok, rdJ_ok, rdT_ok, ixR_ok, wrI_ok, wrJ_ok, wrT_none, pfI_s, pfJ_s, pfZ_0, pfZ_1, zr_b2, nl_n, nl_s, nI_add, nI_mul, nI_sub, nI_shlm, nI_shrd, nI_or8, nI_or8r, nI_or5r, nI_and255, nI_and31, nI_and7, nI_and1, nI_andK, nI_clr, Nat.one_mul, nI_eqz, nI_eqq, nI_ltq, nI_ltz, nI_zlt, nI_nm1, nI_m2, m1_z, m1_lt0, m1_m1, b2_z, nI1_z, nI0_z, tb_0, tb_1, ite_nI, I_at, I_ne, J_at, J_ne, J_setI, I_setJ, ↓reduceIte, ltN_T, ltN_F, eqN_T, eqN_F, pow8, pow5, b2_f0, b2_t0, reduceCtorEq, Bool.false_eq_true, Bool.true_eq_false, eq_self, false_and, true_and, and_false, and_true, not_false_eq_true, not_true_eq_false, m4, e6, en]
        exact ⟨u, rfl, skip (fun o => by have := o.1; omega)⟩
    · have e7 : i = 6 := by omega
      subst e7
      simp (disch := omega) only [bind_s, bd2_s, rdI_ok, rdJ_ok, rdT_ok, ixR_ok, wrI_ok, wrJ_ok, wrT_none, pfI_s, pfJ_s, pfZ_0, pfZ_1, zr_b2, nl_n, nl_s, nI_add, nI_mul, nI_sub, nI_shlm, nI_shrd, nI_or8, nI_or8r, nI_or5r, nI_and255, nI_and31, nI_and7, nI_and1, nI_andK, nI_clr, Nat.one_mul, nI_eqz, nI_eqq, nI_ltq, nI_ltz, nI_zlt, nI_nm1, nI_m2, m1_z, m1_lt0, m1_m1, b2_z, nI1_z, nI0_z, tb_0, tb_1, ite_nI, I_at, I_ne, J_at, J_ne, J_setI, I_setJ, ↓reduceIte, ltN_T, ltN_F, eqN_T, eqN_F, pow8, pow5, b2_f0, b2_t0, reduceCtorEq, Bool.false_eq_true, Bool.true_eq_false, eq_self, false_and, true_and, and_false, and_true, not_false_eq_true, not_true_eq_false, e6]
      rw [f_X12_edgesOf_148]
      simp (disch := omega) only [bind_s, bd2_s, rdI_ok, rdJ_ok, rdT_ok, ixR_ok, wrI_ok, wrJ_ok, wrT_none, pfI_s, pfJ_s, pfZ_0, pfZ_1, zr_b2, nl_n, nl_s, nI_add, nI_mul, nI_sub, nI_shlm, nI_shrd, nI_or8, nI_or8r, nI_or5r, nI_and255, nI_and31, nI_and7, nI_and1, nI_andK, nI_clr, Nat.one_mul, nI_eqz, nI_eqq, nI_ltq, nI_ltz, nI_zlt, nI_nm1, nI_m2, m1_z, m1_lt0, m1_m1, b2_z, nI1_z, nI0_z, tb_0, tb_1, ite_nI, I_at, I_ne, J_at, J_ne, J_setI, I_setJ, ↓reduceIte, ltN_T, ltN_F, eqN_T, eqN_F, pow8, pow5, b2_f0, b2_t0, reduceCtorEq, Bool.false_eq_true, Bool.true_eq_false, eq_self, false_and, true_and, and_false, and_true, not_false_eq_true, not_true_eq_false]
      rcases g1 with ⟨v1, -, v3⟩ | ⟨c, hc6, v1, -, v3⟩ | ⟨v1, -⟩
      · simp (disch := omega) only [bind_s, bd2_s, rdI_ok, rdJ_ok, rdT_ok, ixR_ok, wrI_ok, wrJ_ok, wrT_none, pfI_s, pfJ_s, pfZ_0, pfZ_1, zr_b2, nl_n, nl_s, nI_add, nI_mul, nI_sub, nI_shlm, nI_shrd, nI_or8, nI_or8r, nI_or5r, nI_and255, nI_and31, nI_and7, nI_and1, nI_andK, nI_clr, Nat.one_mul, nI_eqz, nI_eqq, nI_ltq, nI_ltz, nI_zlt, nI_nm1, nI_m2, m1_z, m1_lt0, m1_m1, b2_z, nI1_z, nI0_z, tb_0, tb_1, ite_nI, I_at, I_ne, J_at, J_ne, J_setI, I_setJ, ↓reduceIte, ltN_T, ltN_F, eqN_T, eqN_F, pow8, pow5, b2_f0, b2_t0, reduceCtorEq, Bool.false_eq_true, Bool.true_eq_false, eq_self, false_and, true_and, and_false, and_true, not_false_eq_true, not_true_eq_false, v1]
        rw [f_X12_edgesOf_167]
        simp (disch := omega) only [bind_s, bd2_s, rdI_ok, rdJ_ok, rdT_ok, ixR_ok, wrI_ok, wrJ_ok, wrT_none, pfI_s, pfJ_s, pfZ_0, pfZ_1, zr_b2, nl_n, nl_s, nI_add, nI_mul, nI_sub, nI_shlm, nI_shrd, nI_or8, nI_or8r, nI_or5r, nI_and255, nI_and31, nI_and7, nI_and1, nI_andK, nI_clr, Nat.one_mul, nI_eqz, nI_eqq, nI_ltq, nI_ltz, nI_zlt, nI_nm1, nI_m2, m1_z, m1_lt0, m1_m1, b2_z, nI1_z, nI0_z, tb_0, tb_1, ite_nI, I_at, I_ne, J_at, J_ne, J_setI, I_setJ, ↓reduceIte, ltN_T, ltN_F, eqN_T, eqN_F, pow8, pow5, b2_f0, b2_t0, reduceCtorEq, Bool.false_eq_true, Bool.true_eq_false, eq_self, false_and, true_and, and_false, and_true, not_false_eq_true, not_true_eq_false]
        exact mid (Or.inl rfl) (v3 6)
      · simp (disch := omega) only [bind_s, bd2_s, rdI_ok, rdJ_ok, rdT_ok, ixR_ok, wrI_ok, wrJ_ok, wrT_none, pfI_s, pfJ_s, pfZ_0, pfZ_1, zr_b2, nl_n, nl_s, nI_add, nI_mul, nI_sub, nI_shlm, nI_shrd, nI_or8, nI_or8r, nI_or5r, nI_and255, nI_and31, nI_and7, nI_and1, nI_andK, nI_clr, Nat.one_mul, nI_eqz, nI_eqq, nI_ltq, nI_ltz, nI_zlt, nI_nm1, nI_m2, m1_z, m1_lt0, m1_m1, b2_z, nI1_z, nI0_z, tb_0, tb_1, ite_nI, I_at, I_ne, J_at, J_ne, J_setI, I_setJ, ↓reduceIte, ltN_T, ltN_F, eqN_T, eqN_F, pow8, pow5, b2_f0, b2_t0, reduceCtorEq, Bool.false_eq_true, Bool.true_eq_false, eq_self, false_and, true_and, and_false, and_true, not_false_eq_true, not_true_eq_false, v1]
        exact ⟨u, rfl, skip (nok (by have := v3 6; rw [decide_eq_false (show ¬ 6 = c by omega)] at this; exact this))⟩
      · exact absurd v1 ht'
  · rintro n u -
    show f_X12_edgesOf_125 k (n + 1) _ _ _ _ (nI 7) u = _
    rw [f_X12_edgesOf_125]
    simp (disch := omega) only [bind_s, bd2_s, rdI_ok, rdJ_ok, rdT_ok, ixR_ok, wrI_ok, wrJ_ok, wrT_none, pfI_s, pfJ_s, pfZ_0, pfZ_1, zr_b2, nl_n, nl_s, nI_add, nI_mul, nI_sub, nI_shlm, nI_shrd, nI_or8, nI_or8r, nI_or5r, nI_and255, nI_and31, nI_and7, nI_and1, nI_andK, nI_clr, Nat.one_mul, nI_eqz, nI_eqq, nI_ltq, nI_ltz, nI_zlt, nI_nm1, nI_m2, m1_z, m1_lt0, m1_m1, b2_z, nI1_z, nI0_z, tb_0, tb_1, ite_nI, I_at, I_ne, J_at, J_ne, J_setI, I_setJ, ↓reduceIte, ltN_T, ltN_F, eqN_T, eqN_F, pow8, pow5, b2_f0, b2_t0, reduceCtorEq, Bool.false_eq_true, Bool.true_eq_false, eq_self, false_and, true_and, and_false, and_true, not_false_eq_true, not_true_eq_false]
theorem eA_nil {p : Nat → Bool} {f : Nat} (h : ∀ a, p a = false) : ∀ n, eA p f n = [] := by
  intro n
  induction n with
  | zero => rfl
  | succ n ih => rw [eA, if_neg (by rw [h]; simp), ih]
theorem eF_nil {E : GR} {s : Nat} (h0 : ∀ f a, E h s f a = none) : ∀ n, eF E h s n = [] := by
  intro n
  induction n with
  | zero => rfl
  | succ n ih => rw [eF, ih, eA_nil (fun a => by rw [h0]; rfl)]; rfl
theorem t_edgesOf (a : AOK A) (b : MB A S x σ) (hh : h < 12) {s : Nat} (vs : vst A s) (hfl : s / 256 < 2 ^ nS A S) (hs : s < 1024) : ∃ u, f_X12_edgesOf (nI h) (nI s) σ = some u ∧ Fe σ u ∧ EdA A S x h s (eF (EG A S x) h s (2 ^ cK A 0)) u := by
  have hF4 := F4 a
  have hF2 := a.2.2.1.1
  have F0 : Fe σ (setI σ 247 40 (nI 0)) := Fe_40
  have b0 := MB_fe b F0
  obtain ⟨g1, -⟩ := b.2.1.1 h hh
  have ed0 : EdA A S x h s [] (setI σ 247 40 (nI 0)) := ⟨by rw [I_at]; rfl, fun e he => by simp at he⟩
  unfold f_X12_edgesOf
  simp (disch := omega) only [bind_s, bd2_s, rdI_ok, rdJ_ok, rdT_ok, ixR_ok, wrI_ok, wrJ_ok, wrT_none, pfI_s, pfJ_s, pfZ_0, pfZ_1, zr_b2, nl_n, nl_s, nI_add, nI_mul, nI_sub, nI_shlm, nI_shrd, nI_or8, nI_or8r, nI_or5r, nI_and255, nI_and31, nI_and7, nI_and1, nI_andK, nI_clr, Nat.one_mul, nI_eqz, nI_eqq, nI_ltq, nI_ltz, nI_zlt, nI_nm1, nI_m2, m1_z, m1_lt0, m1_m1, b2_z, nI1_z, nI0_z, tb_0, tb_1, ite_nI, I_at, I_ne, J_at, J_ne, J_setI, I_setJ, ↓reduceIte, ltN_T, ltN_F, eqN_T, eqN_F, pow8, pow5, b2_f0, b2_t0, reduceCtorEq, Bool.false_eq_true, Bool.true_eq_false, eq_self, false_and, true_and, and_false, and_true, not_false_eq_true, not_true_eq_false]
  by_cases ht : σ.1 270 h = -2
  · rw [if_pos ht]
    refine ⟨_, rfl, F0, ?_⟩
    have : eF (EG A S x) h s (2 ^ cK A 0) = [] := by
      refine eF_nil (fun f c => ?_) _
      cases e : EG A S x h s f c with
      | none => rfl
      | some p =>
        obtain ⟨t, d⟩ := p
        have o := (EG_iff.mp e).1.2.2.2.1
        rcases g1 with ⟨v1, -⟩ | ⟨c', hc6, v1, -⟩ | ⟨-, -, v3⟩
        · rw [v1] at ht; exact absurd ht (by decide)
        · rw [v1] at ht
          have := nI_m2 (a := c') (by omega)
          rw [ht] at this
          simp at this
        · rw [aX_eq] at o
          have q : (sOK A S (nP A) h c && !(decide (h = x.1 ∧ c ≠ x.2))) = false := v3 c
          rw [q] at o
          cases o
    rw [this]
    exact ed0
  · rw [if_neg ht]
    refine Exists.elim (loopE (fun n f u => f_X12_edgesOf_19 n (nI h) (nI s) (nI f) u) (2 ^ cK A 0) (fun f u => Fe σ u ∧ EdA A S x h s (eF (EG A S x) h s f) u) (fun u => some u) ?_ ?_ FU 0 (setI σ 247 40 (nI 0)) (by rw [FU_eq]; omega) (Nat.zero_le _) ⟨F0, ed0⟩) ?_
    · rintro n f u hf ⟨hF, he⟩ Q hQ
      have b' := MB_fe b hF
      have c29 := b'.2.2.2.2.2
      obtain ⟨-, -, g5, g6, g7⟩ := b'.2.1.1 h hh
      have ht' : u.1 270 h ≠ -2 := by rw [hF.I (by omega) (by omega)]; exact ht
      have hsm : f * 256 + s % 256 < 1024 := by omega
      have hmm : (f * 256 + s % 256) % 32 = s % 32 ∧ (f * 256 + s % 256) / 32 % 8 = s / 32 % 8 ∧ (f * 256 + s % 256) / 256 = f := by omega
      have hvm : VM A (f * 256 + s % 256) := by
        unfold VM
        rw [hmm.1, hmm.2.1, hmm.2.2]
        exact ⟨vs.1, hf, vs.2⟩
      have hso : som A (f * 256 + s % 256) = so A f (s % 32) (s / 32 % 8) := by unfold som; rw [hmm.1, hmm.2.1, hmm.2.2]
      obtain ⟨tb1, -, -⟩ := (b'.2.2.1 _ hsm).2 hvm
      rw [hso] at tb1
      have hsl : so A f (s % 32) (s / 32 % 8) < 1024 := so_lt a
      have n1 := nOn_lt a (S := S) (h := h) (nP A) (Nat.le_refl _)
      have n2 := nOff_lt a (S := S) (h := h) (nP A) (Nat.le_refl _)
      have n3 : so A f (s % 32) (s / 32 % 8) &&& nOn A S (nP A) h < 2 ^ 10 := Nat.lt_of_le_of_lt Nat.and_le_right n1
      have n4 : so A f (s % 32) (s / 32 % 8) &&& nOff A S (nP A) h < 2 ^ 10 := Nat.lt_of_le_of_lt Nat.and_le_right n2
      have a1 : nI (so A f (s % 32) (s / 32 % 8)) &&& nI (nOn A S (nP A) h) = nI (so A f (s % 32) (s / 32 % 8) &&& nOn A S (nP A) h) := nI_and _ _
      have a2 : nI (so A f (s % 32) (s / 32 % 8)) &&& nI (nOff A S (nP A) h) = nI (so A f (s % 32) (s / 32 % 8) &&& nOff A S (nP A) h) := nI_and _ _
      have hr8 : s / 32 % 8 < 8 := by omega
      have skip : ¬ okf A S h s f → Q u := by
        intro hn
        refine hQ _ ⟨hF, ?_⟩
        rw [eF, eA_nil, List.append_nil]
        · exact he
        · intro c
          cases e : EG A S x h s f c with
          | none => rfl
          | some p => obtain ⟨t, d⟩ := p; exact absurd (EG_iff.mp e).1.2.1 hn
      have go : okf A S h s f → ∃ y, f_X12_edgesOf_122 (f_X12_edgesOf_19 n) (nI h) (nI s) (nI f) (nI (f * 256 + s % 256)) u = f_X12_edgesOf_19 n (nI h) (nI s) (nI (f + 1)) y ∧ Q y := by
        intro ok
        obtain ⟨w, w1, w2, w3⟩ := t_125 (k := fun x1_37 x2_38 x3_39 s40 => f_X12_edgesOf_19 n x1_37 x2_38 (x3_39 + nI 1) s40) a b' hh vs hfl hs ok (eF_len _ _ _ _) he ht'
        rw [f_X12_edgesOf_122, w1]
        simp (disch := omega) only [bind_s, bd2_s, rdI_ok, rdJ_ok, rdT_ok, ixR_ok, wrI_ok, wrJ_ok, wrT_none, pfI_s, pfJ_s, pfZ_0, pfZ_1, zr_b2, nl_n, nl_s, nI_add, nI_mul, nI_sub, nI_shlm, nI_shrd, nI_or8, nI_or8r, nI_or5r, nI_and255, nI_and31, nI_and7, nI_and1, nI_andK, nI_clr, Nat.one_mul, nI_eqz, nI_eqq, nI_ltq, nI_ltz, nI_zlt, nI_nm1, nI_m2, m1_z, m1_lt0, m1_m1, b2_z, nI1_z, nI0_z, tb_0, tb_1, ite_nI, I_at, I_ne, J_at, J_ne, J_setI, I_setJ, ↓reduceIte, ltN_T, ltN_F, eqN_T, eqN_F, pow8, pow5, b2_f0, b2_t0, reduceCtorEq, Bool.false_eq_true, Bool.true_eq_false, eq_self, false_and, true_and, and_false, and_true, not_false_eq_true, not_true_eq_false]
        exact ⟨w, rfl, hQ _ ⟨hF.tr w2, w3⟩⟩
      show ∃ y, f_X12_edgesOf_19 (n + 1) (nI h) (nI s) (nI f) u = f_X12_edgesOf_19 n (nI h) (nI s) (nI (f + 1)) y ∧ _
      rw [f_X12_edgesOf_19]
      by_cases c1 : so A f (s % 32) (s / 32 % 8) &&& nOn A S (nP A) h = nOn A S (nP A) h
      · by_cases c2 : so A f (s % 32) (s / 32 % 8) &&& nOff A S (nP A) h = 0
        · rcases g7 with ⟨v7, r7⟩ | ⟨c, hc, v7, r7⟩ | ⟨v7, r7⟩
          · have ok : okf A S h s f := ⟨hf, c1, c2, r7 _⟩
            have := go ok
            simp (disch := omega) only [bind_s, bd2_s, rdI_ok, rdJ_ok, rdT_ok, ixR_ok, wrI_ok, wrJ_ok, wrT_none, pfI_s, pfJ_s, pfZ_0, pfZ_1, zr_b2, nl_n, nl_s, nI_add, nI_mul, nI_sub, nI_shlm, nI_shrd, nI_or8, nI_or8r, nI_or5r, nI_and255, nI_and31, nI_and7, nI_and1, nI_andK, nI_clr, Nat.one_mul, nI_eqz, nI_eqq, nI_ltq, nI_ltz, nI_zlt, nI_nm1, nI_m2, m1_z, m1_lt0, m1_m1, b2_z, nI1_z, nI0_z, tb_0, tb_1, ite_nI, I_at, I_ne, J_at, J_ne, J_setI, I_setJ, ↓reduceIte, ltN_T, ltN_F, eqN_T, eqN_F, pow8, pow5, b2_f0, b2_t0, reduceCtorEq, Bool.false_eq_true, Bool.true_eq_false, eq_self, false_and, true_and, and_false, and_true, not_false_eq_true, not_true_eq_false, c29, tb1, g5, g6, a1, a2, c1, c2, v7]
            exact this
          · by_cases ec : c = s / 32 % 8
            · have ok : okf A S h s f := ⟨hf, c1, c2, by rw [r7, decide_eq_true ec.symm]⟩
              have := go ok
              simp (disch := omega) only [bind_s, bd2_s, rdI_ok, rdJ_ok, rdT_ok, ixR_ok, wrI_ok, wrJ_ok, wrT_none, pfI_s, pfJ_s, pfZ_0, pfZ_1, zr_b2, nl_n, nl_s, nI_add, nI_mul, nI_sub, nI_shlm, nI_shrd, nI_or8, nI_or8r, nI_or5r, nI_and255, nI_and31, nI_and7, nI_and1, nI_andK, nI_clr, Nat.one_mul, nI_eqz, nI_eqq, nI_ltq, nI_ltz, nI_zlt, nI_nm1, nI_m2, m1_z, m1_lt0, m1_m1, b2_z, nI1_z, nI0_z, tb_0, tb_1, ite_nI, I_at, I_ne, J_at, J_ne, J_setI, I_setJ, ↓reduceIte, ltN_T, ltN_F, eqN_T, eqN_F, pow8, pow5, b2_f0, b2_t0, reduceCtorEq, Bool.false_eq_true, Bool.true_eq_false, eq_self, false_and, true_and, and_false, and_true, not_false_eq_true, not_true_eq_false, c29, tb1, g5, g6, a1, a2, c1, c2, v7, ec]
              exact this
            · simp (disch := omega) only [bind_s, bd2_s, rdI_ok, rdJ_ok, rdT_ok, ixR_ok, wrI_ok, wrJ_ok, wrT_none, pfI_s, pfJ_s, pfZ_0, pfZ_1, zr_b2, nl_n, nl_s, nI_add, nI_mul, nI_sub, nI_shlm, nI_shrd, nI_or8, nI_or8r, nI_or5r, nI_and255, nI_and31, nI_and7, nI_and1, nI_andK, nI_clr, Nat.one_mul, nI_eqz, nI_eqq, nI_ltq, nI_ltz, nI_zlt, nI_nm1, nI_m2, m1_z, m1_lt0, m1_m1, b2_z, nI1_z, nI0_z, tb_0, tb_1, ite_nI, I_at, I_ne, J_at, J_ne, J_setI, I_setJ, ↓reduceIte, ltN_T, ltN_F, eqN_T, eqN_F, pow8, pow5, b2_f0, b2_t0, reduceCtorEq, Bool.false_eq_true, Bool.true_eq_false, eq_self, false_and, true_and, and_false, and_true, not_false_eq_true, not_true_eq_false, c29, tb1, g5, g6, a1, a2, c1, c2, v7, ec]
              exact ⟨u, rfl, skip (fun o => by have := o.2.2.2; rw [r7, decide_eq_false (fun q => ec q.symm)] at this; cases this)⟩
          · have hne : ¬ ((-2 : Int32) = nI (s / 32 % 8)) := fun q => by have := nI_m2 (a := s / 32 % 8) (by omega); rw [← q] at this; simp at this
            simp (disch := omega) only [bind_s, bd2_s, rdI_ok, rdJ_ok, rdT_ok, ixR_ok, wrI_ok, wrJ_ok, wrT_none, pfI_s, pfJ_s, pfZ_0, pfZ_1, zr_b2, nl_n, nl_s, nI_add, nI_mul, nI_sub, nI_shlm, nI_shrd, nI_or8, nI_or8r, nI_or5r, nI_and255, nI_and31, nI_and7, nI_and1, nI_andK, nI_clr, Nat.one_mul, nI_eqz, nI_eqq, nI_ltq, nI_ltz, nI_zlt, nI_nm1, nI_m2, m1_z, m1_lt0, m1_m1, b2_z, nI1_z, nI0_z, tb_0, tb_1, ite_nI, I_at, I_ne, J_at, J_ne, J_setI, I_setJ, ↓reduceIte, ltN_T, ltN_F, eqN_T, eqN_F, pow8, pow5, b2_f0, b2_t0, reduceCtorEq, Bool.false_eq_true, Bool.true_eq_false, eq_self, false_and, true_and, and_false, and_true, not_false_eq_true, not_true_eq_false, c29, tb1, g5, g6, a1, a2, c1, c2, v7, m2_m1, hne]
            exact ⟨u, rfl, skip (fun o => by have := o.2.2.2; rw [r7] at this; cases this)⟩
        · simp (disch := omega) only [bind_s, bd2_s, rdI_ok, rdJ_ok, rdT_ok, ixR_ok, wrI_ok, wrJ_ok, wrT_none, pfI_s, pfJ_s, pfZ_0, pfZ_1, zr_b2, nl_n, nl_s, nI_add, nI_mul, nI_sub, nI_shlm, nI_shrd, nI_or8, nI_or8r, nI_or5r, nI_and255, nI_and31, nI_and7, nI_and1, nI_andK, nI_clr, Nat.one_mul, nI_eqz, nI_eqq, nI_ltq, nI_ltz, nI_zlt, nI_nm1, nI_m2, m1_z, m1_lt0, m1_m1, b2_z, nI1_z, nI0_z, tb_0, tb_1, ite_nI, I_at, I_ne, J_at, J_ne, J_setI, I_setJ, ↓reduceIte, ltN_T, ltN_F, eqN_T, eqN_F, pow8, pow5, b2_f0, b2_t0, reduceCtorEq, Bool.false_eq_true, Bool.true_eq_false, eq_self, false_and, true_and, and_false, and_true, not_false_eq_true, not_true_eq_false, c29, tb1, g5, g6, a1, a2, c1, c2]
          exact ⟨u, rfl, skip (fun o => c2 o.2.2.1)⟩
      · simp (disch := omega) only [bind_s, bd2_s, rdI_ok, rdJ_ok, rdT_ok, ixR_ok, wrI_ok, wrJ_ok, wrT_none, pfI_s, pfJ_s, pfZ_0, pfZ_1, zr_b2, nl_n, nl_s, nI_add, nI_mul, nI_sub, nI_shlm, nI_shrd, nI_or8, nI_or8r, nI_or5r, nI_and255, nI_and31, nI_and7, nI_and1, nI_andK, nI_clr, Nat.one_mul, nI_eqz, nI_eqq, nI_ltq, nI_ltz, nI_zlt, nI_nm1, nI_m2, m1_z, m1_lt0, m1_m1, b2_z, nI1_z, nI0_z, tb_0, tb_1, ite_nI, I_at, I_ne, J_at, J_ne, J_setI, I_setJ, ↓reduceIte, ltN_T, ltN_F, eqN_T, eqN_F, pow8, pow5, b2_f0, b2_t0, reduceCtorEq, Bool.false_eq_true, Bool.true_eq_false, eq_self, false_and, true_and, and_false, and_true, not_false_eq_true, not_true_eq_false, c29, tb1, g5, g6, a1, a2, c1]
        exact ⟨u, rfl, skip (fun o => c1 o.2.1)⟩
    · rintro n u ⟨hF, -⟩
      have c29 := (MB_fe b hF).2.2.2.2.2
      show f_X12_edgesOf_19 (n + 1) _ _ (nI (2 ^ cK A 0)) u = _
      rw [f_X12_edgesOf_19]
      simp (disch := omega) only [bind_s, bd2_s, rdI_ok, rdJ_ok, rdT_ok, ixR_ok, wrI_ok, wrJ_ok, wrT_none, pfI_s, pfJ_s, pfZ_0, pfZ_1, zr_b2, nl_n, nl_s, nI_add, nI_mul, nI_sub, nI_shlm, nI_shrd, nI_or8, nI_or8r, nI_or5r, nI_and255, nI_and31, nI_and7, nI_and1, nI_andK, nI_clr, Nat.one_mul, nI_eqz, nI_eqq, nI_ltq, nI_ltz, nI_zlt, nI_nm1, nI_m2, m1_z, m1_lt0, m1_m1, b2_z, nI1_z, nI0_z, tb_0, tb_1, ite_nI, I_at, I_ne, J_at, J_ne, J_setI, I_setJ, ↓reduceIte, ltN_T, ltN_F, eqN_T, eqN_F, pow8, pow5, b2_f0, b2_t0, reduceCtorEq, Bool.false_eq_true, Bool.true_eq_false, eq_self, false_and, true_and, and_false, and_true, not_false_eq_true, not_true_eq_false, c29]
    · rintro u ⟨e, h1, h2⟩
      exact ⟨u, e, h1, h2⟩
end
