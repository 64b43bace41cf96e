section
/-! ===== the reference gathers what pieces ask ===== -/
variable {A : AW} {σ : ST} {S : Nat} {x : Nat × Nat}
def GHm (A : AW) (S K h : Nat) (σ : ST) : Prop := TL (σ.1 270 h) (sN A S K h) (sOK A S K h) ∧ (∃ m, m < 64 ∧ σ.1 271 h = nI m ∧ ∀ a, a < 7 → m.testBit a = nB A S K h a) ∧ σ.1 272 h = nI (nOn A S K h) ∧ σ.1 273 h = nI (nOff A S K h) ∧ RC (σ.1 274 h) (rOK A S K h)
def SPm (A : AW) (S K : Nat) (σ : ST) : Prop := σ.1 247 36 = nI (spn A S K) ∧ ∀ k, k < K → S.testBit k = true → pk A k = 1 → σ.1 275 (spn A S k) = nI k
theorem GHm_eq {K h : Nat} {s : ST} (g : GHm A S K h σ) (e : ∀ y, 270 ≤ y → y ≤ 274 → s.1 y h = σ.1 y h) : GHm A S K h s := by
  obtain ⟨g1, ⟨m, g2, g3, g4⟩, g5, g6, g7⟩ := g
  exact ⟨by rw [e 270 (by omega) (by omega)]; exact g1, ⟨m, g2, by rw [e 271 (by omega) (by omega)]; exact g3, g4⟩, by rw [e 272 (by omega) (by omega)]; exact g5, by rw [e 273 (by omega) (by omega)]; exact g6, by rw [e 274 (by omega) (by omega)]; exact g7⟩
theorem sN_o {K h : Nat} (hk : pk A K ≠ 0) : sN A S (K + 1) h = sN A S K h := by rw [sN, decide_eq_false (fun w => hk w.2.1)]; simp
theorem sOK_o {K h : Nat} (hk : pk A K ≠ 0) : sOK A S (K + 1) h = sOK A S K h := by funext x; rw [sOK, decide_eq_false (fun w => hk w.2.1)]; simp
theorem nB_o {K h a : Nat} (hk : pk A K ≠ 3) : nB A S (K + 1) h a = nB A S K h a := by rw [nB, decide_eq_false (fun w => hk w.2.1)]; simp
theorem rOK_of {K h : Nat} (hk : pk A K ≠ 2) : rOK A S (K + 1) h = rOK A S K h := by funext r; exact rOK_o hk
theorem GHm_skip (a : AOK A) {K h : Nat} (hK : K < nP A) (hn : ¬ (S.testBit K = true ∧ pp A K ≤ h ∧ h ≤ pq A K)) (g : GHm A S K h σ) : GHm A S (K + 1) h σ := by
  obtain ⟨g1, ⟨m, g2, g3, g4⟩, g5, g6, g7⟩ := g
  have hp := a.2.2.2.2.1 K hK
  have e1 : sN A S (K + 1) h = sN A S K h := by rw [sN, decide_eq_false (fun w => hn ⟨w.1, by omega, by have := hp.2.2.2.2.2.2.2.2.1 w.2.1; omega⟩)]; simp
  have e2 : sOK A S (K + 1) h = sOK A S K h := by funext x; rw [sOK, decide_eq_false (fun w => hn ⟨w.1, w.2.2.1, w.2.2.2.1⟩)]; simp
  have e3 : ∀ x, nB A S (K + 1) h x = nB A S K h x := fun x => by rw [nB, decide_eq_false (fun w => hn ⟨w.1, w.2.2.1, w.2.2.2.1⟩)]; simp
  have e4 : rOK A S (K + 1) h = rOK A S K h := by funext r; rw [rOK, decide_eq_false (fun w => hn ⟨w.1, w.2.2.2.1, w.2.2.2.2.1⟩)]; simp
  refine ⟨by rw [e1, e2]; exact g1, ⟨m, g2, g3, fun x hx => by rw [e3]; exact g4 x hx⟩, ?_, ?_, by rw [e4]; exact g7⟩
  · rw [nOn, if_neg (fun w => hn ⟨w.1, w.2.2.2.2⟩)]; exact g5
  · rw [nOff, if_neg (fun w => hn ⟨w.1, w.2.2.2.2⟩)]; exact g6
theorem t_pieceHour (a : AOK A) (m : MR A σ) {K i : Nat} (hK : K < nP A) (hS : S.testBit K = true) (h1 : pp A K ≤ i) (h2 : i ≤ pq A K) (g : GHm A S K i σ) {k : Int32 → Int32 → Int32 → Int32 → ST → Option ST} {n : Nat} {x1 x2 x3 : Int32} : ∃ y v, f_X12_gather_126 k (n + 1) x1 x2 x3 (nI K) (nI i) σ = f_X12_gather_126 k n x1 x2 x3 (nI K) (nI (i + 1)) (if y = 0 then σ else setI σ y i v) ∧ (y = 0 ∨ (270 ≤ y ∧ y ≤ 274)) ∧ GHm A S (K + 1) i (if y = 0 then σ else setI σ y i v) := by
  obtain ⟨p1, p2, p3, p4, p5, p6, p7, p8, p9, p10⟩ := a.2.2.2.2.1 K hK
  obtain ⟨m0, m1, m2, m3, m4, m5, m6⟩ := m.2.2.2.1 K hK
  have hP := a.1.2.2
  have hH := a.1.2.1
  have hT := a.1.1
  obtain ⟨g1, ⟨b, g2, g3, g4⟩, g5, g6, g7⟩ := g
  rw [f_X12_gather_126]
  rcases (show pk A K = 0 ∨ pk A K = 1 ∨ pk A K = 2 ∨ pk A K = 3 by omega) with e | e | e | e
  · have hpo := p8 (by omega)
    have hpp := p9 e
    have hip : i = pp A K := by omega
    obtain ⟨v, t1, t2⟩ := t_tell (h := i) (b := po A K) (by omega) (by omega) g1
    refine ⟨270, v, ?_, Or.inr ⟨by omega, by omega⟩, ?_⟩
    · rw [if_neg (by omega)]
      rw [e] at m0
      simp (disch := omega) only [bind_s, bd2_s, rdI_ok, rdJ_ok, rdT_ok, ixR_ok, wrI_ok, wrJ_ok, wrT_none, pfI_s, pfJ_s, pfZ_0, pfZ_1, zr_b2, nl_n, nl_s, nI_add, nI_mul, nI_sub, nI_shlm, nI_shrd, nI_or8, nI_or8r, nI_or5r, nI_and255, nI_and31, nI_and7, nI_and1, nI_andK, nI_clr, Nat.one_mul, nI_eqz, nI_eqq, nI_ltq, nI_ltz, nI_zlt, nI_nm1, nI_m2, m1_z, m1_lt0, m1_m1, b2_z, nI1_z, nI0_z, tb_0, tb_1, ite_nI, I_at, I_ne, J_at, J_ne, J_setI, I_setJ, ↓reduceIte, ltN_T, ltN_F, eqN_T, eqN_F, pow8, pow5, b2_f0, b2_t0, reduceCtorEq, Bool.false_eq_true, Bool.true_eq_false, eq_self, false_and, true_and, and_false, and_true, not_false_eq_true, not_true_eq_false, m0, m1, m3, t1]
      rw [f_X12_gather_161]
      simp (disch := omega) only [bind_s, bd2_s, rdI_ok, rdJ_ok, rdT_ok, ixR_ok, wrI_ok, wrJ_ok, wrT_none, pfI_s, pfJ_s, pfZ_0, pfZ_1, zr_b2, nl_n, nl_s, nI_add, nI_mul, nI_sub, nI_shlm, nI_shrd, nI_or8, nI_or8r, nI_or5r, nI_and255, nI_and31, nI_and7, nI_and1, nI_andK, nI_clr, Nat.one_mul, nI_eqz, nI_eqq, nI_ltq, nI_ltz, nI_zlt, nI_nm1, nI_m2, m1_z, m1_lt0, m1_m1, b2_z, nI1_z, nI0_z, tb_0, tb_1, ite_nI, I_at, I_ne, J_at, J_ne, J_setI, I_setJ, ↓reduceIte, ltN_T, ltN_F, eqN_T, eqN_F, pow8, pow5, b2_f0, b2_t0, reduceCtorEq, Bool.false_eq_true, Bool.true_eq_false, eq_self, false_and, true_and, and_false, and_true, not_false_eq_true, not_true_eq_false, m0, m1, m3, t1]
      rw [f_X12_gather_191]
      simp (disch := omega) only [bind_s, bd2_s, rdI_ok, rdJ_ok, rdT_ok, ixR_ok, wrI_ok, wrJ_ok, wrT_none, pfI_s, pfJ_s, pfZ_0, pfZ_1, zr_b2, nl_n, nl_s, nI_add, nI_mul, nI_sub, nI_shlm, nI_shrd, nI_or8, nI_or8r, nI_or5r, nI_and255, nI_and31, nI_and7, nI_and1, nI_andK, nI_clr, Nat.one_mul, nI_eqz, nI_eqq, nI_ltq, nI_ltz, nI_zlt, nI_nm1, nI_m2, m1_z, m1_lt0, m1_m1, b2_z, nI1_z, nI0_z, tb_0, tb_1, ite_nI, I_at, I_ne, J_at, J_ne, J_setI, I_setJ, ↓reduceIte, ltN_T, ltN_F, eqN_T, eqN_F, pow8, pow5, b2_f0, b2_t0, reduceCtorEq, Bool.false_eq_true, Bool.true_eq_false, eq_self, false_and, true_and, and_false, and_true, not_false_eq_true, not_true_eq_false, m0, m1, m3, t1]
    · rw [if_neg (by omega)]
      refine ⟨?_, ⟨b, g2, by rw [I_ne (Or.inl (by omega))]; exact g3, fun x hx => by rw [nB_o (by omega)]; exact g4 x hx⟩, by rw [I_ne (Or.inl (by omega)), nOn_o (by omega)]; exact g5, by rw [I_ne (Or.inl (by omega)), nOff_o (by omega)]; exact g6, by rw [I_ne (Or.inl (by omega)), rOK_of (by omega)]; exact g7⟩
      rw [I_at]
      have e1 : sN A S (K + 1) i = true := by rw [sN, decide_eq_true ⟨hS, e, by omega⟩]; simp
      have e2 : sOK A S (K + 1) i = fun x => sOK A S K i x && !decide (x ≠ po A K) := by
        funext x
        rw [sOK]
        congr 2
        apply decide_eq_decide.mpr
        exact ⟨fun w => w.2.2.2.2, fun w => ⟨hS, e, h1, h2, w⟩⟩
      rw [e1, e2]
      exact t2
  · refine ⟨0, 0, ?_, Or.inl rfl, ?_⟩
    · rw [e] at m0
      simp (disch := omega) only [bind_s, bd2_s, rdI_ok, rdJ_ok, rdT_ok, ixR_ok, wrI_ok, wrJ_ok, wrT_none, pfI_s, pfJ_s, pfZ_0, pfZ_1, zr_b2, nl_n, nl_s, nI_add, nI_mul, nI_sub, nI_shlm, nI_shrd, nI_or8, nI_or8r, nI_or5r, nI_and255, nI_and31, nI_and7, nI_and1, nI_andK, nI_clr, Nat.one_mul, nI_eqz, nI_eqq, nI_ltq, nI_ltz, nI_zlt, nI_nm1, nI_m2, m1_z, m1_lt0, m1_m1, b2_z, nI1_z, nI0_z, tb_0, tb_1, ite_nI, I_at, I_ne, J_at, J_ne, J_setI, I_setJ, ↓reduceIte, ltN_T, ltN_F, eqN_T, eqN_F, pow8, pow5, b2_f0, b2_t0, reduceCtorEq, Bool.false_eq_true, Bool.true_eq_false, eq_self, false_and, true_and, and_false, and_true, not_false_eq_true, not_true_eq_false, m0, m3]
      rw [f_X12_gather_161]
      simp (disch := omega) only [bind_s, bd2_s, rdI_ok, rdJ_ok, rdT_ok, ixR_ok, wrI_ok, wrJ_ok, wrT_none, pfI_s, pfJ_s, pfZ_0, pfZ_1, zr_b2, nl_n, nl_s, nI_add, nI_mul, nI_sub, nI_shlm, nI_shrd, nI_or8, nI_or8r, nI_or5r, nI_and255, nI_and31, nI_and7, nI_and1, nI_andK, nI_clr, Nat.one_mul, nI_eqz, nI_eqq, nI_ltq, nI_ltz, nI_zlt, nI_nm1, nI_m2, m1_z, m1_lt0, m1_m1, b2_z, nI1_z, nI0_z, tb_0, tb_1, ite_nI, I_at, I_ne, J_at, J_ne, J_setI, I_setJ, ↓reduceIte, ltN_T, ltN_F, eqN_T, eqN_F, pow8, pow5, b2_f0, b2_t0, reduceCtorEq, Bool.false_eq_true, Bool.true_eq_false, eq_self, false_and, true_and, and_false, and_true, not_false_eq_true, not_true_eq_false, m0, m3]
      rw [f_X12_gather_191]
      simp (disch := omega) only [bind_s, bd2_s, rdI_ok, rdJ_ok, rdT_ok, ixR_ok, wrI_ok, wrJ_ok, wrT_none, pfI_s, pfJ_s, pfZ_0, pfZ_1, zr_b2, nl_n, nl_s, nI_add, nI_mul, nI_sub, nI_shlm, nI_shrd, nI_or8, nI_or8r, nI_or5r, nI_and255, nI_and31, nI_and7, nI_and1, nI_andK, nI_clr, Nat.one_mul, nI_eqz, nI_eqq, nI_ltq, nI_ltz, nI_zlt, nI_nm1, nI_m2, m1_z, m1_lt0, m1_m1, b2_z, nI1_z, nI0_z, tb_0, tb_1, ite_nI, I_at, I_ne, J_at, J_ne, J_setI, I_setJ, ↓reduceIte, ltN_T, ltN_F, eqN_T, eqN_F, pow8, pow5, b2_f0, b2_t0, reduceCtorEq, Bool.false_eq_true, Bool.true_eq_false, eq_self, false_and, true_and, and_false, and_true, not_false_eq_true, not_true_eq_false, m0, m3]
    · rw [if_pos rfl]
      exact ⟨by rw [sN_o (by omega), sOK_o (by omega)]; exact g1, ⟨b, g2, g3, fun x hx => by rw [nB_o (by omega)]; exact g4 x hx⟩, by rw [nOn_o (by omega)]; exact g5, by rw [nOff_o (by omega)]; exact g6, by rw [rOK_of (by omega)]; exact g7⟩
  · have hpo := p7 e
    obtain ⟨k1, -⟩ := m.2.1 _ hpo
    rw [e] at m0
    have o1 : TL (σ.1 270 i) (sN A S (K + 1) i) (sOK A S (K + 1) i) := by rw [sN_o (by omega), sOK_o (by omega)]; exact g1
    have o2 : ∀ x, x < 7 → b.testBit x = nB A S (K + 1) i x := fun x hx => by rw [nB_o (by omega)]; exact g4 x hx
    have hk3 := a.2.1 _ hpo
    by_cases e3 : kd A (po A K) = 3
    · have n1 : nOn A S (K + 1) i = nOn A S K i := by rw [nOn, if_neg (fun w => w.2.2.1 e3)]
      have n2 : nOff A S (K + 1) i = nOff A S K i := by rw [nOff, if_neg (fun w => w.2.2.1 e3)]
      have n3 : ∀ r, rOK A S (K + 1) i r = (rOK A S K i r && !decide (r ≠ pv A K)) := fun r => by
        rw [rOK]
        congr 2
        apply decide_eq_decide.mpr
        exact ⟨fun w => w.2.2.2.2.2, fun w => ⟨hS, e, e3, h1, h2, w⟩⟩
      have fin : ∀ v, RC v (rOK A S (K + 1) i) → GHm A S (K + 1) i (setI σ 274 i v) := fun v hv => ⟨by rw [I_ne (Or.inl (by omega))]; exact o1, ⟨b, g2, by rw [I_ne (Or.inl (by omega))]; exact g3, o2⟩, by rw [I_ne (Or.inl (by omega)), n1]; exact g5, by rw [I_ne (Or.inl (by omega)), n2]; exact g6, by rw [I_at]; exact hv⟩
      rw [e3] at k1
      rcases g7 with ⟨v7, r7⟩ | ⟨c, hc, v7, r7⟩ | ⟨v7, r7⟩
      · refine ⟨274, nI (pv A K), ?_, Or.inr ⟨by omega, by omega⟩, ?_⟩
        · rw [if_neg (by omega)]
          simp (disch := omega) only [bind_s, bd2_s, rdI_ok, rdJ_ok, rdT_ok, ixR_ok, wrI_ok, wrJ_ok, wrT_none, pfI_s, pfJ_s, pfZ_0, pfZ_1, zr_b2, nl_n, nl_s, nI_add, nI_mul, nI_sub, nI_shlm, nI_shrd, nI_or8, nI_or8r, nI_or5r, nI_and255, nI_and31, nI_and7, nI_and1, nI_andK, nI_clr, Nat.one_mul, nI_eqz, nI_eqq, nI_ltq, nI_ltz, nI_zlt, nI_nm1, nI_m2, m1_z, m1_lt0, m1_m1, b2_z, nI1_z, nI0_z, tb_0, tb_1, ite_nI, I_at, I_ne, J_at, J_ne, J_setI, I_setJ, ↓reduceIte, ltN_T, ltN_F, eqN_T, eqN_F, pow8, pow5, b2_f0, b2_t0, reduceCtorEq, Bool.false_eq_true, Bool.true_eq_false, eq_self, false_and, true_and, and_false, and_true, not_false_eq_true, not_true_eq_false, m0, m1, m3]
          rw [f_X12_gather_161]
          simp (disch := omega) only [bind_s, bd2_s, rdI_ok, rdJ_ok, rdT_ok, ixR_ok, wrI_ok, wrJ_ok, wrT_none, pfI_s, pfJ_s, pfZ_0, pfZ_1, zr_b2, nl_n, nl_s, nI_add, nI_mul, nI_sub, nI_shlm, nI_shrd, nI_or8, nI_or8r, nI_or5r, nI_and255, nI_and31, nI_and7, nI_and1, nI_andK, nI_clr, Nat.one_mul, nI_eqz, nI_eqq, nI_ltq, nI_ltz, nI_zlt, nI_nm1, nI_m2, m1_z, m1_lt0, m1_m1, b2_z, nI1_z, nI0_z, tb_0, tb_1, ite_nI, I_at, I_ne, J_at, J_ne, J_setI, I_setJ, ↓reduceIte, ltN_T, ltN_F, eqN_T, eqN_F, pow8, pow5, b2_f0, b2_t0, reduceCtorEq, Bool.false_eq_true, Bool.true_eq_false, eq_self, false_and, true_and, and_false, and_true, not_false_eq_true, not_true_eq_false, m0, m1, m3, m4, k1, v7]
          rw [f_X12_gather_191]
          simp (disch := omega) only [bind_s, bd2_s, rdI_ok, rdJ_ok, rdT_ok, ixR_ok, wrI_ok, wrJ_ok, wrT_none, pfI_s, pfJ_s, pfZ_0, pfZ_1, zr_b2, nl_n, nl_s, nI_add, nI_mul, nI_sub, nI_shlm, nI_shrd, nI_or8, nI_or8r, nI_or5r, nI_and255, nI_and31, nI_and7, nI_and1, nI_andK, nI_clr, Nat.one_mul, nI_eqz, nI_eqq, nI_ltq, nI_ltz, nI_zlt, nI_nm1, nI_m2, m1_z, m1_lt0, m1_m1, b2_z, nI1_z, nI0_z, tb_0, tb_1, ite_nI, I_at, I_ne, J_at, J_ne, J_setI, I_setJ, ↓reduceIte, ltN_T, ltN_F, eqN_T, eqN_F, pow8, pow5, b2_f0, b2_t0, reduceCtorEq, Bool.false_eq_true, Bool.true_eq_false, eq_self, false_and, true_and, and_false, and_true, not_false_eq_true, not_true_eq_false, m0, m1, m3, m4, k1, v7]
        · rw [if_neg (by omega)]
          refine fin _ (Or.inr (Or.inl ⟨pv A K, by omega, rfl, fun r => ?_⟩))
          rw [n3, r7]
          by_cases q : r = pv A K <;> simp [q]
      · by_cases ec : c = pv A K
        · refine ⟨274, nI (pv A K), ?_, Or.inr ⟨by omega, by omega⟩, ?_⟩
          · rw [if_neg (by omega)]
            simp (disch := omega) only [bind_s, bd2_s, rdI_ok, rdJ_ok, rdT_ok, ixR_ok, wrI_ok, wrJ_ok, wrT_none, pfI_s, pfJ_s, pfZ_0, pfZ_1, zr_b2, nl_n, nl_s, nI_add, nI_mul, nI_sub, nI_shlm, nI_shrd, nI_or8, nI_or8r, nI_or5r, nI_and255, nI_and31, nI_and7, nI_and1, nI_andK, nI_clr, Nat.one_mul, nI_eqz, nI_eqq, nI_ltq, nI_ltz, nI_zlt, nI_nm1, nI_m2, m1_z, m1_lt0, m1_m1, b2_z, nI1_z, nI0_z, tb_0, tb_1, ite_nI, I_at, I_ne, J_at, J_ne, J_setI, I_setJ, ↓reduceIte, ltN_T, ltN_F, eqN_T, eqN_F, pow8, pow5, b2_f0, b2_t0, reduceCtorEq, Bool.false_eq_true, Bool.true_eq_false, eq_self, false_and, true_and, and_false, and_true, not_false_eq_true, not_true_eq_false, m0, m1, m3]
            rw [f_X12_gather_161]
            simp (disch := omega) only [bind_s, bd2_s, rdI_ok, rdJ_ok, rdT_ok, ixR_ok, wrI_ok, wrJ_ok, wrT_none, pfI_s, pfJ_s, pfZ_0, pfZ_1, zr_b2, nl_n, nl_s, nI_add, nI_mul, nI_sub, nI_shlm, nI_shrd, nI_or8, nI_or8r, nI_or5r, nI_and255, nI_and31, nI_and7, nI_and1, nI_andK, nI_clr, Nat.one_mul, nI_eqz, nI_eqq, nI_ltq, nI_ltz, nI_zlt, nI_nm1, nI_m2, m1_z, m1_lt0, m1_m1, b2_z, nI1_z, nI0_z, tb_0, tb_1, ite_nI, I_at, I_ne, J_at, J_ne, J_setI, I_setJ, ↓reduceIte, ltN_T, ltN_F, eqN_T, eqN_F, pow8, pow5, b2_f0, b2_t0, reduceCtorEq, Bool.false_eq_true, Bool.true_eq_false, eq_self, false_and, true_and, and_false, and_true, not_false_eq_true, not_true_eq_false, m0, m1, m3, m4, k1, v7, ec]
            rw [f_X12_gather_191]
            simp (disch := omega) only [bind_s, bd2_s, rdI_ok, rdJ_ok, rdT_ok, ixR_ok, wrI_ok, wrJ_ok, wrT_none, pfI_s, pfJ_s, pfZ_0, pfZ_1, zr_b2, nl_n, nl_s, nI_add, nI_mul, nI_sub, nI_shlm, nI_shrd, nI_or8, nI_or8r, nI_or5r, nI_and255, nI_and31, nI_and7, nI_and1, nI_andK, nI_clr, Nat.one_mul, nI_eqz, nI_eqq, nI_ltq, nI_ltz, nI_zlt, nI_nm1, nI_m2, m1_z, m1_lt0, m1_m1, b2_z, nI1_z, nI0_z, tb_0, tb_1, ite_nI, I_at, I_ne, J_at, J_ne, J_setI, I_setJ, ↓reduceIte, ltN_T, ltN_F, eqN_T, eqN_F, pow8, pow5, b2_f0, b2_t0, reduceCtorEq, Bool.false_eq_true, Bool.true_eq_false, eq_self, false_and, true_and, and_false, and_true, not_false_eq_true, not_true_eq_false, m0, m1, m3, m4, k1, v7, ec]
          · rw [if_neg (by omega)]
            refine fin _ (Or.inr (Or.inl ⟨pv A K, by omega, rfl, fun r => ?_⟩))
            rw [n3, r7, ec]
            by_cases q : r = pv A K <;> simp [q]
        · refine ⟨274, -2, ?_, Or.inr ⟨by omega, by omega⟩, ?_⟩
          · rw [if_neg (by omega)]
            simp (disch := omega) only [bind_s, bd2_s, rdI_ok, rdJ_ok, rdT_ok, ixR_ok, wrI_ok, wrJ_ok, wrT_none, pfI_s, pfJ_s, pfZ_0, pfZ_1, zr_b2, nl_n, nl_s, nI_add, nI_mul, nI_sub, nI_shlm, nI_shrd, nI_or8, nI_or8r, nI_or5r, nI_and255, nI_and31, nI_and7, nI_and1, nI_andK, nI_clr, Nat.one_mul, nI_eqz, nI_eqq, nI_ltq, nI_ltz, nI_zlt, nI_nm1, nI_m2, m1_z, m1_lt0, m1_m1, b2_z, nI1_z, nI0_z, tb_0, tb_1, ite_nI, I_at, I_ne, J_at, J_ne, J_setI, I_setJ, ↓reduceIte, ltN_T, ltN_F, eqN_T, eqN_F, pow8, pow5, b2_f0, b2_t0, reduceCtorEq, Bool.false_eq_true, Bool.true_eq_false, eq_self, false_and, true_and, and_false, and_true, not_false_eq_true, not_true_eq_false, m0, m1, m3]
            rw [f_X12_gather_161]
            simp (disch := omega) only [bind_s, bd2_s, rdI_ok, rdJ_ok, rdT_ok, ixR_ok, wrI_ok, wrJ_ok, wrT_none, pfI_s, pfJ_s, pfZ_0, pfZ_1, zr_b2, nl_n, nl_s, nI_add, nI_mul, nI_sub, nI_shlm, nI_shrd, nI_or8, nI_or8r, nI_or5r, nI_and255, nI_and31, nI_and7, nI_and1, nI_andK, nI_clr, Nat.one_mul, nI_eqz, nI_eqq, nI_ltq, nI_ltz, nI_zlt, nI_nm1, nI_m2, m1_z, m1_lt0, m1_m1, b2_z, nI1_z, nI0_z, tb_0, tb_1, ite_nI, I_at, I_ne, J_at, J_ne, J_setI, I_setJ, ↓reduceIte, ltN_T, ltN_F, eqN_T, eqN_F, pow8, pow5, b2_f0, b2_t0, reduceCtorEq, Bool.false_eq_true, Bool.true_eq_false, eq_self, false_and, true_and, and_false, and_true, not_false_eq_true, not_true_eq_false, m0, m1, m3, m4, k1, v7, ec]
            rw [f_X12_gather_191]
            simp (disch := omega) only [bind_s, bd2_s, rdI_ok, rdJ_ok, rdT_ok, ixR_ok, wrI_ok, wrJ_ok, wrT_none, pfI_s, pfJ_s, pfZ_0, pfZ_1, zr_b2, nl_n, nl_s, nI_add, nI_mul, nI_sub, nI_shlm, nI_shrd, nI_or8, nI_or8r, nI_or5r, nI_and255, nI_and31, nI_and7, nI_and1, nI_andK, nI_clr, Nat.one_mul, nI_eqz, nI_eqq, nI_ltq, nI_ltz, nI_zlt, nI_nm1, nI_m2, m1_z, m1_lt0, m1_m1, b2_z, nI1_z, nI0_z, tb_0, tb_1, ite_nI, I_at, I_ne, J_at, J_ne, J_setI, I_setJ, ↓reduceIte, ltN_T, ltN_F, eqN_T, eqN_F, pow8, pow5, b2_f0, b2_t0, reduceCtorEq, Bool.false_eq_true, Bool.true_eq_false, eq_self, false_and, true_and, and_false, and_true, not_false_eq_true, not_true_eq_false, m0, m1, m3, m4, k1, v7, ec]
          · rw [if_neg (by omega)]
            refine fin _ (Or.inr (Or.inr ⟨rfl, fun r => ?_⟩))
            rw [n3, r7]
            by_cases q : r = c
            · subst q; simp [ec]
            · simp [q]
      · have hne : ¬ ((-2 : Int32) = nI (pv A K)) := fun q => by have := nI_m2 (a := pv A K) (by omega); rw [← q] at this; simp at this
        refine ⟨274, -2, ?_, Or.inr ⟨by omega, by omega⟩, ?_⟩
        · rw [if_neg (by omega)]
          simp (disch := omega) only [bind_s, bd2_s, rdI_ok, rdJ_ok, rdT_ok, ixR_ok, wrI_ok, wrJ_ok, wrT_none, pfI_s, pfJ_s, pfZ_0, pfZ_1, zr_b2, nl_n, nl_s, nI_add, nI_mul, nI_sub, nI_shlm, nI_shrd, nI_or8, nI_or8r, nI_or5r, nI_and255, nI_and31, nI_and7, nI_and1, nI_andK, nI_clr, Nat.one_mul, nI_eqz, nI_eqq, nI_ltq, nI_ltz, nI_zlt, nI_nm1, nI_m2, m1_z, m1_lt0, m1_m1, b2_z, nI1_z, nI0_z, tb_0, tb_1, ite_nI, I_at, I_ne, J_at, J_ne, J_setI, I_setJ, ↓reduceIte, ltN_T, ltN_F, eqN_T, eqN_F, pow8, pow5, b2_f0, b2_t0, reduceCtorEq, Bool.false_eq_true, Bool.true_eq_false, eq_self, false_and, true_and, and_false, and_true, not_false_eq_true, not_true_eq_false, m0, m1, m3]
          rw [f_X12_gather_161]
          simp (disch := omega) only [bind_s, bd2_s, rdI_ok, rdJ_ok, rdT_ok, ixR_ok, wrI_ok, wrJ_ok, wrT_none, pfI_s, pfJ_s, pfZ_0, pfZ_1, zr_b2, nl_n, nl_s, nI_add, nI_mul, nI_sub, nI_shlm, nI_shrd, nI_or8, nI_or8r, nI_or5r, nI_and255, nI_and31, nI_and7, nI_and1, nI_andK, nI_clr, Nat.one_mul, nI_eqz, nI_eqq, nI_ltq, nI_ltz, nI_zlt, nI_nm1, nI_m2, m1_z, m1_lt0, m1_m1, b2_z, nI1_z, nI0_z, tb_0, tb_1, ite_nI, I_at, I_ne, J_at, J_ne, J_setI, I_setJ, ↓reduceIte, ltN_T, ltN_F, eqN_T, eqN_F, pow8, pow5, b2_f0, b2_t0, reduceCtorEq, Bool.false_eq_true, Bool.true_eq_false, eq_self, false_and, true_and, and_false, and_true, not_false_eq_true, not_true_eq_false, m0, m1, m3, m4, k1, v7, m2_m1, hne]
          rw [f_X12_gather_191]
          simp (disch := omega) only [bind_s, bd2_s, rdI_ok, rdJ_ok, rdT_ok, ixR_ok, wrI_ok, wrJ_ok, wrT_none, pfI_s, pfJ_s, pfZ_0, pfZ_1, zr_b2, nl_n, nl_s, nI_add, nI_mul, nI_sub, nI_shlm, nI_shrd, nI_or8, nI_or8r, nI_or5r, nI_and255, nI_and31, nI_and7, nI_and1, nI_andK, nI_clr, Nat.one_mul, nI_eqz, nI_eqq, nI_ltq, nI_ltz, nI_zlt, nI_nm1, nI_m2, m1_z, m1_lt0, m1_m1, b2_z, nI1_z, nI0_z, tb_0, tb_1, ite_nI, I_at, I_ne, J_at, J_ne, J_setI, I_setJ, ↓reduceIte, ltN_T, ltN_F, eqN_T, eqN_F, pow8, pow5, b2_f0, b2_t0, reduceCtorEq, Bool.false_eq_true, Bool.true_eq_false, eq_self, false_and, true_and, and_false, and_true, not_false_eq_true, not_true_eq_false, m0, m1, m3, m4, k1, v7, m2_m1, hne]
        · rw [if_neg (by omega)]
          refine fin _ (Or.inr (Or.inr ⟨rfl, fun r => ?_⟩))
          rw [n3, r7]
          rfl
    · have n3 : rOK A S (K + 1) i = rOK A S K i := by
        funext r
        rw [rOK, decide_eq_false (fun w => e3 w.2.2.1)]; simp
      by_cases ev : pv A K = 1
      · refine ⟨272, nI (nOn A S K i ||| 2 ^ po A K), ?_, Or.inr ⟨by omega, by omega⟩, ?_⟩
        · rw [if_neg (by omega)]
          simp (disch := omega) only [bind_s, bd2_s, rdI_ok, rdJ_ok, rdT_ok, ixR_ok, wrI_ok, wrJ_ok, wrT_none, pfI_s, pfJ_s, pfZ_0, pfZ_1, zr_b2, nl_n, nl_s, nI_add, nI_mul, nI_sub, nI_shlm, nI_shrd, nI_or8, nI_or8r, nI_or5r, nI_and255, nI_and31, nI_and7, nI_and1, nI_andK, nI_clr, Nat.one_mul, nI_eqz, nI_eqq, nI_ltq, nI_ltz, nI_zlt, nI_nm1, nI_m2, m1_z, m1_lt0, m1_m1, b2_z, nI1_z, nI0_z, tb_0, tb_1, ite_nI, I_at, I_ne, J_at, J_ne, J_setI, I_setJ, ↓reduceIte, ltN_T, ltN_F, eqN_T, eqN_F, pow8, pow5, b2_f0, b2_t0, reduceCtorEq, Bool.false_eq_true, Bool.true_eq_false, eq_self, false_and, true_and, and_false, and_true, not_false_eq_true, not_true_eq_false, m0, m1, m3]
          rw [f_X12_gather_161]
          simp (disch := omega) only [bind_s, bd2_s, rdI_ok, rdJ_ok, rdT_ok, ixR_ok, wrI_ok, wrJ_ok, wrT_none, pfI_s, pfJ_s, pfZ_0, pfZ_1, zr_b2, nl_n, nl_s, nI_add, nI_mul, nI_sub, nI_shlm, nI_shrd, nI_or8, nI_or8r, nI_or5r, nI_and255, nI_and31, nI_and7, nI_and1, nI_andK, nI_clr, Nat.one_mul, nI_eqz, nI_eqq, nI_ltq, nI_ltz, nI_zlt, nI_nm1, nI_m2, m1_z, m1_lt0, m1_m1, b2_z, nI1_z, nI0_z, tb_0, tb_1, ite_nI, I_at, I_ne, J_at, J_ne, J_setI, I_setJ, ↓reduceIte, ltN_T, ltN_F, eqN_T, eqN_F, pow8, pow5, b2_f0, b2_t0, reduceCtorEq, Bool.false_eq_true, Bool.true_eq_false, eq_self, false_and, true_and, and_false, and_true, not_false_eq_true, not_true_eq_false, m0, m1, m3, m4, k1, e3, ev, g5, nI_or]
          rw [f_X12_gather_191]
          simp (disch := omega) only [bind_s, bd2_s, rdI_ok, rdJ_ok, rdT_ok, ixR_ok, wrI_ok, wrJ_ok, wrT_none, pfI_s, pfJ_s, pfZ_0, pfZ_1, zr_b2, nl_n, nl_s, nI_add, nI_mul, nI_sub, nI_shlm, nI_shrd, nI_or8, nI_or8r, nI_or5r, nI_and255, nI_and31, nI_and7, nI_and1, nI_andK, nI_clr, Nat.one_mul, nI_eqz, nI_eqq, nI_ltq, nI_ltz, nI_zlt, nI_nm1, nI_m2, m1_z, m1_lt0, m1_m1, b2_z, nI1_z, nI0_z, tb_0, tb_1, ite_nI, I_at, I_ne, J_at, J_ne, J_setI, I_setJ, ↓reduceIte, ltN_T, ltN_F, eqN_T, eqN_F, pow8, pow5, b2_f0, b2_t0, reduceCtorEq, Bool.false_eq_true, Bool.true_eq_false, eq_self, false_and, true_and, and_false, and_true, not_false_eq_true, not_true_eq_false, m0, m1, m3, m4, k1, e3, ev, g5, nI_or]
        · rw [if_neg (by omega)]
          refine ⟨by rw [I_ne (Or.inl (by omega))]; exact o1, ⟨b, g2, by rw [I_ne (Or.inl (by omega))]; exact g3, o2⟩, ?_, ?_, by rw [I_ne (Or.inl (by omega)), n3]; exact g7⟩
          · rw [I_at, nOn, if_pos ⟨hS, e, e3, ev, h1, h2⟩]
          · rw [I_ne (Or.inl (by omega)), nOff, if_neg (fun w => w.2.2.2.1 ev)]; exact g6
      · refine ⟨273, nI (nOff A S K i ||| 2 ^ po A K), ?_, Or.inr ⟨by omega, by omega⟩, ?_⟩
        · rw [if_neg (by omega)]
          simp (disch := omega) only [bind_s, bd2_s, rdI_ok, rdJ_ok, rdT_ok, ixR_ok, wrI_ok, wrJ_ok, wrT_none, pfI_s, pfJ_s, pfZ_0, pfZ_1, zr_b2, nl_n, nl_s, nI_add, nI_mul, nI_sub, nI_shlm, nI_shrd, nI_or8, nI_or8r, nI_or5r, nI_and255, nI_and31, nI_and7, nI_and1, nI_andK, nI_clr, Nat.one_mul, nI_eqz, nI_eqq, nI_ltq, nI_ltz, nI_zlt, nI_nm1, nI_m2, m1_z, m1_lt0, m1_m1, b2_z, nI1_z, nI0_z, tb_0, tb_1, ite_nI, I_at, I_ne, J_at, J_ne, J_setI, I_setJ, ↓reduceIte, ltN_T, ltN_F, eqN_T, eqN_F, pow8, pow5, b2_f0, b2_t0, reduceCtorEq, Bool.false_eq_true, Bool.true_eq_false, eq_self, false_and, true_and, and_false, and_true, not_false_eq_true, not_true_eq_false, m0, m1, m3]
          rw [f_X12_gather_161]
          simp (disch := omega) only [bind_s, bd2_s, rdI_ok, rdJ_ok, rdT_ok, ixR_ok, wrI_ok, wrJ_ok, wrT_none, pfI_s, pfJ_s, pfZ_0, pfZ_1, zr_b2, nl_n, nl_s, nI_add, nI_mul, nI_sub, nI_shlm, nI_shrd, nI_or8, nI_or8r, nI_or5r, nI_and255, nI_and31, nI_and7, nI_and1, nI_andK, nI_clr, Nat.one_mul, nI_eqz, nI_eqq, nI_ltq, nI_ltz, nI_zlt, nI_nm1, nI_m2, m1_z, m1_lt0, m1_m1, b2_z, nI1_z, nI0_z, tb_0, tb_1, ite_nI, I_at, I_ne, J_at, J_ne, J_setI, I_setJ, ↓reduceIte, ltN_T, ltN_F, eqN_T, eqN_F, pow8, pow5, b2_f0, b2_t0, reduceCtorEq, Bool.false_eq_true, Bool.true_eq_false, eq_self, false_and, true_and, and_false, and_true, not_false_eq_true, not_true_eq_false, m0, m1, m3, m4, k1, e3, ev, g6, nI_or]
          rw [f_X12_gather_191]
          simp (disch := omega) only [bind_s, bd2_s, rdI_ok, rdJ_ok, rdT_ok, ixR_ok, wrI_ok, wrJ_ok, wrT_none, pfI_s, pfJ_s, pfZ_0, pfZ_1, zr_b2, nl_n, nl_s, nI_add, nI_mul, nI_sub, nI_shlm, nI_shrd, nI_or8, nI_or8r, nI_or5r, nI_and255, nI_and31, nI_and7, nI_and1, nI_andK, nI_clr, Nat.one_mul, nI_eqz, nI_eqq, nI_ltq, nI_ltz, nI_zlt, nI_nm1, nI_m2, m1_z, m1_lt0, m1_m1, b2_z, nI1_z, nI0_z, tb_0, tb_1, ite_nI, I_at, I_ne, J_at, J_ne, J_setI, I_setJ, ↓reduceIte, ltN_T, ltN_F, eqN_T, eqN_F, pow8, pow5, b2_f0, b2_t0, reduceCtorEq, Bool.false_eq_true, Bool.true_eq_false, eq_self, false_and, true_and, and_false, and_true, not_false_eq_true, not_true_eq_false, m0, m1, m3, m4, k1, e3, ev, g6, nI_or]
        · rw [if_neg (by omega)]
          refine ⟨by rw [I_ne (Or.inl (by omega))]; exact o1, ⟨b, g2, by rw [I_ne (Or.inl (by omega))]; exact g3, o2⟩, ?_, ?_, by rw [I_ne (Or.inl (by omega)), n3]; exact g7⟩
          · rw [I_ne (Or.inl (by omega)), nOn, if_neg (fun w => ev w.2.2.2.1)]; exact g5
          · rw [I_at, nOff, if_pos ⟨hS, e, e3, ev, h1, h2⟩]
  · have hpo := p8 (by omega)
    rw [e] at m0
    refine ⟨271, nI (b ||| 2 ^ po A K), ?_, Or.inr ⟨by omega, by omega⟩, ?_⟩
    · rw [if_neg (by omega)]
      simp (disch := omega) only [bind_s, bd2_s, rdI_ok, rdJ_ok, rdT_ok, ixR_ok, wrI_ok, wrJ_ok, wrT_none, pfI_s, pfJ_s, pfZ_0, pfZ_1, zr_b2, nl_n, nl_s, nI_add, nI_mul, nI_sub, nI_shlm, nI_shrd, nI_or8, nI_or8r, nI_or5r, nI_and255, nI_and31, nI_and7, nI_and1, nI_andK, nI_clr, Nat.one_mul, nI_eqz, nI_eqq, nI_ltq, nI_ltz, nI_zlt, nI_nm1, nI_m2, m1_z, m1_lt0, m1_m1, b2_z, nI1_z, nI0_z, tb_0, tb_1, ite_nI, I_at, I_ne, J_at, J_ne, J_setI, I_setJ, ↓reduceIte, ltN_T, ltN_F, eqN_T, eqN_F, pow8, pow5, b2_f0, b2_t0, reduceCtorEq, Bool.false_eq_true, Bool.true_eq_false, eq_self, false_and, true_and, and_false, and_true, not_false_eq_true, not_true_eq_false, m0, m1, m3]
      rw [f_X12_gather_161]
      simp (disch := omega) only [bind_s, bd2_s, rdI_ok, rdJ_ok, rdT_ok, ixR_ok, wrI_ok, wrJ_ok, wrT_none, pfI_s, pfJ_s, pfZ_0, pfZ_1, zr_b2, nl_n, nl_s, nI_add, nI_mul, nI_sub, nI_shlm, nI_shrd, nI_or8, nI_or8r, nI_or5r, nI_and255, nI_and31, nI_and7, nI_and1, nI_andK, nI_clr, Nat.one_mul, nI_eqz, nI_eqq, nI_ltq, nI_ltz, nI_zlt, nI_nm1, nI_m2, m1_z, m1_lt0, m1_m1, b2_z, nI1_z, nI0_z, tb_0, tb_1, ite_nI, I_at, I_ne, J_at, J_ne, J_setI, I_setJ, ↓reduceIte, ltN_T, ltN_F, eqN_T, eqN_F, pow8, pow5, b2_f0, b2_t0, reduceCtorEq, Bool.false_eq_true, Bool.true_eq_false, eq_self, false_and, true_and, and_false, and_true, not_false_eq_true, not_true_eq_false, m0, m1, m3, g3, nI_or]
      rw [f_X12_gather_191]
      simp (disch := omega) only [bind_s, bd2_s, rdI_ok, rdJ_ok, rdT_ok, ixR_ok, wrI_ok, wrJ_ok, wrT_none, pfI_s, pfJ_s, pfZ_0, pfZ_1, zr_b2, nl_n, nl_s, nI_add, nI_mul, nI_sub, nI_shlm, nI_shrd, nI_or8, nI_or8r, nI_or5r, nI_and255, nI_and31, nI_and7, nI_and1, nI_andK, nI_clr, Nat.one_mul, nI_eqz, nI_eqq, nI_ltq, nI_ltz, nI_zlt, nI_nm1, nI_m2, m1_z, m1_lt0, m1_m1, b2_z, nI1_z, nI0_z, tb_0, tb_1, ite_nI, I_at, I_ne, J_at, J_ne, J_setI, I_setJ, ↓reduceIte, ltN_T, ltN_F, eqN_T, eqN_F, pow8, pow5, b2_f0, b2_t0, reduceCtorEq, Bool.false_eq_true, Bool.true_eq_false, eq_self, false_and, true_and, and_false, and_true, not_false_eq_true, not_true_eq_false, m0, m1, m3, g3, nI_or]
    · rw [if_neg (by omega)]
      refine ⟨by rw [I_ne (Or.inl (by omega)), sN_o (by omega), sOK_o (by omega)]; exact g1, ⟨b ||| 2 ^ po A K, Nat.or_lt_two_pow (n := 6) g2 (Nat.pow_lt_pow_right (by omega) (by omega)), by rw [I_at], fun x hx => ?_⟩, by rw [I_ne (Or.inl (by omega)), nOn_o (by omega)]; exact g5, by rw [I_ne (Or.inl (by omega)), nOff_o (by omega)]; exact g6, by rw [I_ne (Or.inl (by omega)), rOK_of (by omega)]; exact g7⟩
      rw [tb_set, g4 x hx, nB]
      congr 1
      apply decide_eq_decide.mpr
      exact ⟨fun w => ⟨hS, e, h1, h2, w.symm⟩, fun w => w.2.2.2.2.symm⟩
/-- one piece -/
theorem t_pieceHours (a : AOK A) (m : MR A σ) {K : Nat} (hK : K < nP A) (hS : S.testBit K = true) (g : ∀ h, h < 12 → GHm A S K h σ) {k : Int32 → Int32 → Int32 → Int32 → ST → Option ST} {x1 x2 x3 : Int32} : ∃ s, f_X12_gather_126 k FU x1 x2 x3 (nI K) (nI (pp A K)) σ = k x1 x2 x3 (nI K) s ∧ Fm (fun y => 270 ≤ y ∧ y ≤ 274) σ s ∧ s.1 247 = σ.1 247 ∧ ∀ h, h < 12 → GHm A S (K + 1) h s := by
  obtain ⟨p1, p2, p3, -⟩ := a.2.2.2.2.1 K hK
  have hP := a.1.2.2
  refine Exists.elim (loopE (fun n i s => f_X12_gather_126 k n x1 x2 x3 (nI K) (nI i) s) (pq A K + 1) (fun i s => pp A K ≤ i ∧ Fm (fun y => 270 ≤ y ∧ y ≤ 274) σ s ∧ s.1 247 = σ.1 247 ∧ ∀ h, h < 12 → GHm A S (if h < i then K + 1 else K) h s) (fun s => k x1 x2 x3 (nI K) s) ?_ ?_ FU (pp A K) σ (by rw [FU_eq]; omega) (by omega) ⟨Nat.le_refl _, Fm.rf _ _, rfl, fun h hh => ?_⟩) ?_
  · rintro n i s hi ⟨hpi, hF, h7, hg⟩ Q hQ
    have gi := hg i (by omega)
    rw [if_neg (by omega)] at gi
    obtain ⟨y, v, e1, e2, e3⟩ := t_pieceHour (k := k) (n := n) (x1 := x1) (x2 := x2) (x3 := x3) a (MR_fm m hF (fun y hy => by omega)) hK hS hpi (by omega) gi
    show ∃ z, f_X12_gather_126 k (n + 1) x1 x2 x3 (nI K) (nI i) s = f_X12_gather_126 k n x1 x2 x3 (nI K) (nI (i + 1)) z ∧ _
    rw [e1]
    refine ⟨_, rfl, hQ _ ⟨by omega, ?_, ?_, fun h hh => ?_⟩⟩
    · by_cases q : y = 0
      · rw [if_pos q]; exact hF
      · rw [if_neg q]; exact hF.tr (Fm_set (by omega) (by omega))
    · by_cases q : y = 0
      · rw [if_pos q]; exact h7
      · rw [if_neg q, ← h7]; funext j; exact I_ne (Or.inl (by omega))
    · by_cases eh : h = i
      · subst eh; rw [if_pos (by omega)]; exact e3
      · have := hg h hh
        rw [show (if h < i + 1 then K + 1 else K) = if h < i then K + 1 else K by split <;> split <;> omega]
        refine GHm_eq this (fun z _ _ => ?_)
        by_cases q : y = 0
        · rw [if_pos q]
        · rw [if_neg q]; exact I_ne (Or.inr eh)
  · rintro n s ⟨-, hF, -, -⟩
    obtain ⟨-, -, -, m3, -⟩ := (MR_fm m hF (fun y hy => by omega)).2.2.2.1 K hK
    show f_X12_gather_126 k (n + 1) x1 x2 x3 (nI K) (nI (pq A K + 1)) s = _
    rw [f_X12_gather_126]
    simp (disch := omega) only [bind_s, bd2_s, rdI_ok, rdJ_ok, rdT_ok, ixR_ok, wrI_ok, wrJ_ok, wrT_none, pfI_s, pfJ_s, pfZ_0, pfZ_1, zr_b2, nl_n, nl_s, nI_add, nI_mul, nI_sub, nI_shlm, nI_shrd, nI_or8, nI_or8r, nI_or5r, nI_and255, nI_and31, nI_and7, nI_and1, nI_andK, nI_clr, Nat.one_mul, nI_eqz, nI_eqq, nI_ltq, nI_ltz, nI_zlt, nI_nm1, nI_m2, m1_z, m1_lt0, m1_m1, b2_z, nI1_z, nI0_z, tb_0, tb_1, ite_nI, I_at, I_ne, J_at, J_ne, J_setI, I_setJ, ↓reduceIte, ltN_T, ltN_F, eqN_T, eqN_F, pow8, pow5, b2_f0, b2_t0, reduceCtorEq, Bool.false_eq_true, Bool.true_eq_false, eq_self, false_and, true_and, and_false, and_true, not_false_eq_true, not_true_eq_false, m3]
  · by_cases e : h < pp A K
    · rw [if_pos e]; exact GHm_skip a hK (fun w => by omega) (g h hh)
    · rw [if_neg e]; exact g h hh
  · rintro s ⟨e, -, i1, i7, i2⟩
    refine ⟨s, e, i1, i7, fun h hh => ?_⟩
    have := i2 h hh
    by_cases e : h < pq A K + 1
    · rwa [if_pos e] at this
    · rw [if_neg e] at this
      exact GHm_skip a hK (fun w => by omega) this
/-- what the reference has gathered -/
def GM (A : AW) (S : Nat) (x : Nat × Nat) (σ : ST) : Prop := (∀ h, h < 12 → TL (σ.1 270 h) (sX A S x h) (fun a => sOK A S (nP A) h a && !(decide (h = x.1 ∧ a ≠ x.2))) ∧ (∃ m, m < 64 ∧ σ.1 271 h = nI m ∧ ∀ a, a < 7 → m.testBit a = nB A S (nP A) h a) ∧ σ.1 272 h = nI (nOn A S (nP A) h) ∧ σ.1 273 h = nI (nOff A S (nP A) h) ∧ RC (σ.1 274 h) (rOK A S (nP A) h)) ∧ SPm A S (nP A) σ
theorem t_mgather0 (a : AOK A) (m : MR A σ) (hS : S < 2 ^ 16) (x2 x3 : Int32) : ∃ s, f_X12_gather (nI S) x2 x3 σ = (if x2 < 0 then some s else (f_X12_tell x2 x3 s).bind fun s49 => some s49) ∧ Fm (fun y => 270 ≤ y ∧ y ≤ 275) σ s ∧ (∀ h, h < 12 → GHm A S (nP A) h s) ∧ SPm A S (nP A) s ∧ ∀ k, k ≠ 36 → s.1 247 k = σ.1 247 k := by
  have hP := a.1.2.2
  unfold f_X12_gather
  simp (disch := omega) only [bind_s, bd2_s, rdI_ok, rdJ_ok, rdT_ok, ixR_ok, wrI_ok, wrJ_ok, wrT_none, pfI_s, pfJ_s, pfZ_0, pfZ_1, zr_b2, nl_n, nl_s, nI_add, nI_mul, nI_sub, nI_shlm, nI_shrd, nI_or8, nI_or8r, nI_or5r, nI_and255, nI_and31, nI_and7, nI_and1, nI_andK, nI_clr, Nat.one_mul, nI_eqz, nI_eqq, nI_ltq, nI_ltz, nI_zlt, nI_nm1, nI_m2, m1_z, m1_lt0, m1_m1, b2_z, nI1_z, nI0_z, tb_0, tb_1, ite_nI, I_at, I_ne, J_at, J_ne, J_setI, I_setJ, ↓reduceIte, ltN_T, ltN_F, eqN_T, eqN_F, pow8, pow5, b2_f0, b2_t0, reduceCtorEq, Bool.false_eq_true, Bool.true_eq_false, eq_self, false_and, true_and, and_false, and_true, not_false_eq_true, not_true_eq_false]
  have L1 : ∃ s, f_X12_gather_8 (fun x1_7 x2_8 x3_9 s10 => f_X12_gather_64 (fun x2_46 x3_47 s48 => if x2_46 < 0 then (some s48) else ((f_X12_tell x2_46 x3_47 s48).bind fun s49 => some s49)) FU x1_7 x2_8 x3_9 (nI 0) s10) FU (nI S) x2 x3 (nI 0) (setI σ 247 36 (nI 0)) = f_X12_gather_64 (fun x2_46 x3_47 s48 => if x2_46 < 0 then (some s48) else ((f_X12_tell x2_46 x3_47 s48).bind fun s49 => some s49)) FU (nI S) x2 x3 (nI 0) s ∧ (Fm (fun y => 270 ≤ y ∧ y ≤ 274) (setI σ 247 36 (nI 0)) s ∧ s.1 247 = (setI σ 247 36 (nI 0)).1 247 ∧ ∀ h, h < 12 → GHm A S 0 h s) := by
    refine loopE (fun n i s => f_X12_gather_8 (fun x1_7 x2_8 x3_9 s10 => f_X12_gather_64 (fun x2_46 x3_47 s48 => if x2_46 < 0 then (some s48) else ((f_X12_tell x2_46 x3_47 s48).bind fun s49 => some s49)) FU x1_7 x2_8 x3_9 (nI 0) s10) n (nI S) x2 x3 (nI i) s) 12 (fun i s => Fm (fun y => 270 ≤ y ∧ y ≤ 274) (setI σ 247 36 (nI 0)) s ∧ s.1 247 = (setI σ 247 36 (nI 0)).1 247 ∧ ∀ h, h < i → GHm A S 0 h s) (fun s => f_X12_gather_64 (fun x2_46 x3_47 s48 => if x2_46 < 0 then (some s48) else ((f_X12_tell x2_46 x3_47 s48).bind fun s49 => some s49)) FU (nI S) x2 x3 (nI 0) s) ?_ ?_ FU 0 _ (by rw [FU_eq]; omega) (by omega) ⟨Fm.rf _ _, rfl, fun h hh => by omega⟩
    · rintro n i s hi ⟨hF, h7, hv⟩ Q hQ
      show ∃ z, f_X12_gather_8 _ (n + 1) (nI S) x2 x3 (nI i) s = f_X12_gather_8 _ n (nI S) x2 x3 (nI (i + 1)) z ∧ _
      rw [f_X12_gather_8]
      simp (disch := omega) only [bind_s, bd2_s, rdI_ok, rdJ_ok, rdT_ok, ixR_ok, wrI_ok, wrJ_ok, wrT_none, pfI_s, pfJ_s, pfZ_0, pfZ_1, zr_b2, nl_n, nl_s, nI_add, nI_mul, nI_sub, nI_shlm, nI_shrd, nI_or8, nI_or8r, nI_or5r, nI_and255, nI_and31, nI_and7, nI_and1, nI_andK, nI_clr, Nat.one_mul, nI_eqz, nI_eqq, nI_ltq, nI_ltz, nI_zlt, nI_nm1, nI_m2, m1_z, m1_lt0, m1_m1, b2_z, nI1_z, nI0_z, tb_0, tb_1, ite_nI, I_at, I_ne, J_at, J_ne, J_setI, I_setJ, ↓reduceIte, ltN_T, ltN_F, eqN_T, eqN_F, pow8, pow5, b2_f0, b2_t0, reduceCtorEq, Bool.false_eq_true, Bool.true_eq_false, eq_self, false_and, true_and, and_false, and_true, not_false_eq_true, not_true_eq_false]
      refine ⟨_, rfl, hQ _ ⟨((((hF.tr (Fm_set (by omega) (by omega))).tr (Fm_set (by omega) (by omega))).tr (Fm_set (by omega) (by omega))).tr (Fm_set (by omega) (by omega))).tr (Fm_set (by omega) (by omega)), ?_, fun h hh => ?_⟩⟩
      · rw [← h7]
        funext j
        rw [I_ne (Or.inl (by omega)), I_ne (Or.inl (by omega)), I_ne (Or.inl (by omega)), I_ne (Or.inl (by omega)), I_ne (Or.inl (by omega))]
      · by_cases e : h = i
        · subst e
          refine ⟨Or.inl ⟨?_, rfl, fun _ => rfl⟩, ⟨0, by decide, ?_, fun x _ => by simp [nB]⟩, ?_, ?_, Or.inl ⟨?_, fun _ => rfl⟩⟩
          · rw [I_ne (Or.inl (by omega)), I_ne (Or.inl (by omega)), I_ne (Or.inl (by omega)), I_ne (Or.inl (by omega)), I_at]
          · rw [I_ne (Or.inl (by omega)), I_ne (Or.inl (by omega)), I_ne (Or.inl (by omega)), I_at]
          · rw [I_ne (Or.inl (by omega)), I_ne (Or.inl (by omega)), I_at]; rfl
          · rw [I_ne (Or.inl (by omega)), I_at]; rfl
          · rw [I_at]
        · exact GHm_eq (hv h (by omega)) (fun y _ _ => by rw [I_ne (Or.inr e), I_ne (Or.inr e), I_ne (Or.inr e), I_ne (Or.inr e), I_ne (Or.inr e)])
    · rintro n s -
      show f_X12_gather_8 _ (n + 1) (nI S) x2 x3 (nI 12) s = _
      rw [f_X12_gather_8]
      simp (disch := omega) only [bind_s, bd2_s, rdI_ok, rdJ_ok, rdT_ok, ixR_ok, wrI_ok, wrJ_ok, wrT_none, pfI_s, pfJ_s, pfZ_0, pfZ_1, zr_b2, nl_n, nl_s, nI_add, nI_mul, nI_sub, nI_shlm, nI_shrd, nI_or8, nI_or8r, nI_or5r, nI_and255, nI_and31, nI_and7, nI_and1, nI_andK, nI_clr, Nat.one_mul, nI_eqz, nI_eqq, nI_ltq, nI_ltz, nI_zlt, nI_nm1, nI_m2, m1_z, m1_lt0, m1_m1, b2_z, nI1_z, nI0_z, tb_0, tb_1, ite_nI, I_at, I_ne, J_at, J_ne, J_setI, I_setJ, ↓reduceIte, ltN_T, ltN_F, eqN_T, eqN_F, pow8, pow5, b2_f0, b2_t0, reduceCtorEq, Bool.false_eq_true, Bool.true_eq_false, eq_self, false_and, true_and, and_false, and_true, not_false_eq_true, not_true_eq_false]
  obtain ⟨s1, e1, F1, h71, v1⟩ := L1
  rw [e1]
  have F0 : Fm (fun y => 270 ≤ y ∧ y ≤ 275) σ s1 := (Fm_fld (by omega)).tr (F1.mono (fun y hy => by omega))
  have sp0 : SPm A S 0 s1 := ⟨by rw [h71, I_at]; rfl, fun k hk => by omega⟩
  refine Exists.elim (loopE (fun n K s => f_X12_gather_64 (fun x2_46 x3_47 s48 => if x2_46 < 0 then (some s48) else ((f_X12_tell x2_46 x3_47 s48).bind fun s49 => some s49)) n (nI S) x2 x3 (nI K) s) (nP A) (fun K s => Fm (fun y => 270 ≤ y ∧ y ≤ 275) σ s ∧ (∀ h, h < 12 → GHm A S K h s) ∧ SPm A S K s ∧ ∀ k, k ≠ 36 → s.1 247 k = σ.1 247 k) (fun s => if x2 < 0 then (some s) else ((f_X12_tell x2 x3 s).bind fun s49 => some s49)) ?_ ?_ FU 0 s1 (by rw [FU_eq]; omega) (Nat.zero_le _) ⟨F0, v1, sp0, fun k hk => by rw [h71, I_ne (Or.inr hk)]⟩) ?_
  · rintro n K s hK ⟨hF, hg, hsp, h47⟩ Q hQ
    have m' := MR_fm m hF (fun y hy => by omega)
    have m9 := m'.1.2.2
    obtain ⟨m0, m1, m2, m3, m4, m5, m6⟩ := m'.2.2.2.1 K hK
    have hk3 := (a.2.2.2.2.1 K hK).1
    show ∃ z, f_X12_gather_64 _ (n + 1) (nI S) x2 x3 (nI K) s = f_X12_gather_64 _ n (nI S) x2 x3 (nI (K + 1)) z ∧ _
    rw [f_X12_gather_64]
    cases hb : S.testBit K with
    | false =>
      simp (disch := omega) only [bind_s, bd2_s, rdI_ok, rdJ_ok, rdT_ok, ixR_ok, wrI_ok, wrJ_ok, wrT_none, pfI_s, pfJ_s, pfZ_0, pfZ_1, zr_b2, nl_n, nl_s, nI_add, nI_mul, nI_sub, nI_shlm, nI_shrd, nI_or8, nI_or8r, nI_or5r, nI_and255, nI_and31, nI_and7, nI_and1, nI_andK, nI_clr, Nat.one_mul, nI_eqz, nI_eqq, nI_ltq, nI_ltz, nI_zlt, nI_nm1, nI_m2, m1_z, m1_lt0, m1_m1, b2_z, nI1_z, nI0_z, tb_0, tb_1, ite_nI, I_at, I_ne, J_at, J_ne, J_setI, I_setJ, ↓reduceIte, ltN_T, ltN_F, eqN_T, eqN_F, pow8, pow5, b2_f0, b2_t0, reduceCtorEq, Bool.false_eq_true, Bool.true_eq_false, eq_self, false_and, true_and, and_false, and_true, not_false_eq_true, not_true_eq_false, m9, hb]
      refine ⟨s, rfl, hQ _ ⟨hF, fun h hh => GHm_skip a hK (fun w => by rw [hb] at w; cases w.1) (hg h hh), ⟨?_, fun k hk h1 h2 => ?_⟩, h47⟩⟩
      · rw [spn, if_neg (fun w => by rw [hb] at w; cases w.1)]; exact hsp.1
      · by_cases e : k = K
        · subst e; rw [hb] at h1; cases h1
        · exact hsp.2 k (by omega) h1 h2
    | true =>
      by_cases e1k : pk A K = 1
      · have h2 : spn A S K < 2 := Nat.lt_of_lt_of_le (spn_lt hK ⟨hb, e1k⟩) (nS_le a)
        have hs36 := hsp.1
        have F3 : Fm (fun y => 270 ≤ y ∧ y ≤ 275) s (setI (setI s 275 (spn A S K) (nI K)) 247 36 (nI (spn A S K + 1))) := (Fm_set (by omega) (by omega)).tr (Fm_fld (by omega))
        have g3 : ∀ h, h < 12 → GHm A S K h (setI (setI s 275 (spn A S K) (nI K)) 247 36 (nI (spn A S K + 1))) := fun h hh => GHm_eq (hg h hh) (fun y _ _ => by rw [I_ne (Or.inl (by omega)), I_ne (Or.inl (by omega))])
        obtain ⟨s2, e2, F2, h72, v2⟩ := t_pieceHours (k := fun x1_39 x2_40 x3_41 x4_42 s43 => f_X12_gather_64 (fun x2_46 x3_47 s48 => if x2_46 < 0 then (some s48) else ((f_X12_tell x2_46 x3_47 s48).bind fun s49 => some s49)) n x1_39 x2_40 x3_41 (x4_42 + nI 1) s43) (x1 := nI S) (x2 := x2) (x3 := x3) a (MR_fm m' F3 (fun y hy => by omega)) hK hb g3
        rw [e1k] at m0
        simp (disch := omega) only [bind_s, bd2_s, rdI_ok, rdJ_ok, rdT_ok, ixR_ok, wrI_ok, wrJ_ok, wrT_none, pfI_s, pfJ_s, pfZ_0, pfZ_1, zr_b2, nl_n, nl_s, nI_add, nI_mul, nI_sub, nI_shlm, nI_shrd, nI_or8, nI_or8r, nI_or5r, nI_and255, nI_and31, nI_and7, nI_and1, nI_andK, nI_clr, Nat.one_mul, nI_eqz, nI_eqq, nI_ltq, nI_ltz, nI_zlt, nI_nm1, nI_m2, m1_z, m1_lt0, m1_m1, b2_z, nI1_z, nI0_z, tb_0, tb_1, ite_nI, I_at, I_ne, J_at, J_ne, J_setI, I_setJ, ↓reduceIte, ltN_T, ltN_F, eqN_T, eqN_F, pow8, pow5, b2_f0, b2_t0, reduceCtorEq, Bool.false_eq_true, Bool.true_eq_false, eq_self, false_and, true_and, and_false, and_true, not_false_eq_true, not_true_eq_false, m9, hb, m0, hs36, f_X12_gather_117, m2]
        rw [e2]
        simp (disch := omega) only [bind_s, bd2_s, rdI_ok, rdJ_ok, rdT_ok, ixR_ok, wrI_ok, wrJ_ok, wrT_none, pfI_s, pfJ_s, pfZ_0, pfZ_1, zr_b2, nl_n, nl_s, nI_add, nI_mul, nI_sub, nI_shlm, nI_shrd, nI_or8, nI_or8r, nI_or5r, nI_and255, nI_and31, nI_and7, nI_and1, nI_andK, nI_clr, Nat.one_mul, nI_eqz, nI_eqq, nI_ltq, nI_ltz, nI_zlt, nI_nm1, nI_m2, m1_z, m1_lt0, m1_m1, b2_z, nI1_z, nI0_z, tb_0, tb_1, ite_nI, I_at, I_ne, J_at, J_ne, J_setI, I_setJ, ↓reduceIte, ltN_T, ltN_F, eqN_T, eqN_F, pow8, pow5, b2_f0, b2_t0, reduceCtorEq, Bool.false_eq_true, Bool.true_eq_false, eq_self, false_and, true_and, and_false, and_true, not_false_eq_true, not_true_eq_false]
        refine ⟨s2, rfl, hQ _ ⟨(hF.tr F3).tr (F2.mono (fun y hy => by omega)), v2, ⟨?_, fun k hk h1 hk1 => ?_⟩, fun k hk => by rw [h72, I_ne (Or.inr hk), I_ne (Or.inl (by omega))]; exact h47 k hk⟩⟩
        · rw [h72, I_at, spn, if_pos ⟨hb, e1k⟩]
        · rw [F2.I (by omega) (by omega), I_ne (Or.inl (by omega))]
          by_cases e : k = K
          · subst e; rw [I_at]
          · have := spn_lt (A := A) (S := S) (n := K) (k := k) (by omega) ⟨h1, hk1⟩
            rw [I_ne (Or.inr (by omega))]
            exact hsp.2 k (by omega) h1 hk1
      · obtain ⟨s2, e2, F2, h72, v2⟩ := t_pieceHours (k := fun x1_39 x2_40 x3_41 x4_42 s43 => f_X12_gather_64 (fun x2_46 x3_47 s48 => if x2_46 < 0 then (some s48) else ((f_X12_tell x2_46 x3_47 s48).bind fun s49 => some s49)) n x1_39 x2_40 x3_41 (x4_42 + nI 1) s43) (x1 := nI S) (x2 := x2) (x3 := x3) a m' hK hb hg
        simp (disch := omega) only [bind_s, bd2_s, rdI_ok, rdJ_ok, rdT_ok, ixR_ok, wrI_ok, wrJ_ok, wrT_none, pfI_s, pfJ_s, pfZ_0, pfZ_1, zr_b2, nl_n, nl_s, nI_add, nI_mul, nI_sub, nI_shlm, nI_shrd, nI_or8, nI_or8r, nI_or5r, nI_and255, nI_and31, nI_and7, nI_and1, nI_andK, nI_clr, Nat.one_mul, nI_eqz, nI_eqq, nI_ltq, nI_ltz, nI_zlt, nI_nm1, nI_m2, m1_z, m1_lt0, m1_m1, b2_z, nI1_z, nI0_z, tb_0, tb_1, ite_nI, I_at, I_ne, J_at, J_ne, J_setI, I_setJ, ↓reduceIte, ltN_T, ltN_F, eqN_T, eqN_F, pow8, pow5, b2_f0, b2_t0, reduceCtorEq, Bool.false_eq_true, Bool.true_eq_false, eq_self, false_and, true_and, and_false, and_true, not_false_eq_true, not_true_eq_false, m9, hb, m0, e1k, f_X12_gather_117, m2]
        rw [e2]
        simp (disch := omega) only [bind_s, bd2_s, rdI_ok, rdJ_ok, rdT_ok, ixR_ok, wrI_ok, wrJ_ok, wrT_none, pfI_s, pfJ_s, pfZ_0, pfZ_1, zr_b2, nl_n, nl_s, nI_add, nI_mul, nI_sub, nI_shlm, nI_shrd, nI_or8, nI_or8r, nI_or5r, nI_and255, nI_and31, nI_and7, nI_and1, nI_andK, nI_clr, Nat.one_mul, nI_eqz, nI_eqq, nI_ltq, nI_ltz, nI_zlt, nI_nm1, nI_m2, m1_z, m1_lt0, m1_m1, b2_z, nI1_z, nI0_z, tb_0, tb_1, ite_nI, I_at, I_ne, J_at, J_ne, J_setI, I_setJ, ↓reduceIte, ltN_T, ltN_F, eqN_T, eqN_F, pow8, pow5, b2_f0, b2_t0, reduceCtorEq, Bool.false_eq_true, Bool.true_eq_false, eq_self, false_and, true_and, and_false, and_true, not_false_eq_true, not_true_eq_false]
        refine ⟨s2, rfl, hQ _ ⟨hF.tr (F2.mono (fun y hy => by omega)), v2, ⟨?_, fun k hk h1 hk1 => ?_⟩, fun k hk => by rw [h72]; exact h47 k hk⟩⟩
        · rw [h72, spn, if_neg (fun w => e1k w.2)]; exact hsp.1
        · by_cases e : k = K
          · subst e; exact absurd hk1 e1k
          · rw [F2.I (by omega) (by omega)]
            exact hsp.2 k (by omega) h1 hk1
  · rintro n s ⟨hF, -, -, -⟩
    have m9 := (MR_fm m hF (fun y hy => by omega)).1.2.2
    show f_X12_gather_64 _ (n + 1) (nI S) x2 x3 (nI (nP A)) s = _
    rw [f_X12_gather_64]
    simp (disch := omega) only [bind_s, bd2_s, rdI_ok, rdJ_ok, rdT_ok, ixR_ok, wrI_ok, wrJ_ok, wrT_none, pfI_s, pfJ_s, pfZ_0, pfZ_1, zr_b2, nl_n, nl_s, nI_add, nI_mul, nI_sub, nI_shlm, nI_shrd, nI_or8, nI_or8r, nI_or5r, nI_and255, nI_and31, nI_and7, nI_and1, nI_andK, nI_clr, Nat.one_mul, nI_eqz, nI_eqq, nI_ltq, nI_ltz, nI_zlt, nI_nm1, nI_m2, m1_z, m1_lt0, m1_m1, b2_z, nI1_z, nI0_z, tb_0, tb_1, ite_nI, I_at, I_ne, J_at, J_ne, J_setI, I_setJ, ↓reduceIte, ltN_T, ltN_F, eqN_T, eqN_F, pow8, pow5, b2_f0, b2_t0, reduceCtorEq, Bool.false_eq_true, Bool.true_eq_false, eq_self, false_and, true_and, and_false, and_true, not_false_eq_true, not_true_eq_false, m9]
  · rintro s ⟨e, h1, h2, h3, h4⟩
    exact ⟨s, e, h1, h2, h3, h4⟩
theorem t_mgather (a : AOK A) (m : MR A σ) (hS : S < 2 ^ 16) (hx : 12 ≤ x.1) : ∃ s, f_X12_gather (nI S) (-1) (-1) σ = some s ∧ Fm (fun y => 270 ≤ y ∧ y ≤ 275) σ s ∧ GM A S x s ∧ ∀ k, k ≠ 36 → s.1 247 k = σ.1 247 k := by
  obtain ⟨s, e, F, g, sp, h47⟩ := t_mgather0 a m hS (-1) (-1)
  refine ⟨s, by rw [e, if_pos (by decide)], F, ⟨fun h hh => ?_, sp⟩, h47⟩
  obtain ⟨g1, g2, g5, g6, g7⟩ := g h hh
  have e1 : sX A S x h = sN A S (nP A) h := by unfold sX; rw [decide_eq_false (by omega)]; simp
  have e2 : (fun a => sOK A S (nP A) h a && !(decide (h = x.1 ∧ a ≠ x.2))) = sOK A S (nP A) h := by
    funext b
    rw [decide_eq_false (fun w => by omega)]; simp
  exact ⟨by rw [e1, e2]; exact g1, g2, g5, g6, g7⟩
theorem t_mgatherX (a : AOK A) (m : MR A σ) (hS : S < 2 ^ 16) (hx : x.1 < 12) (hx2 : x.2 < nH A) : ∃ s, f_X12_gather (nI S) (nI x.1) (nI x.2) σ = some s ∧ Fm (fun y => 270 ≤ y ∧ y ≤ 275) σ s ∧ GM A S x s ∧ ∀ k, k ≠ 36 → s.1 247 k = σ.1 247 k := by
  obtain ⟨s, e, F, g, sp, h47⟩ := t_mgather0 a m hS (nI x.1) (nI x.2)
  have hH := a.1.2.1
  obtain ⟨v, t1, t2⟩ := t_tell (h := x.1) (b := x.2) hx (by omega) (g x.1 hx).1
  refine ⟨setI s 270 x.1 v, ?_, F.tr (Fm_set (by omega) (by omega)), ⟨fun h hh => ?_, ?_, fun k h1 h2 h3 => by rw [I_ne (Or.inl (by omega))]; exact sp.2 k h1 h2 h3⟩, fun k hk => by rw [I_ne (Or.inl (by omega))]; exact h47 k hk⟩
  · rw [e, if_neg (nI_pos (by omega)), t1]; rfl
  · obtain ⟨g1, ⟨b, g2, g3, g4⟩, g5, g6, g7⟩ := g h hh
    refine ⟨?_, ⟨b, g2, by rw [I_ne (Or.inl (by omega))]; exact g3, g4⟩, by rw [I_ne (Or.inl (by omega))]; exact g5, by rw [I_ne (Or.inl (by omega))]; exact g6, by rw [I_ne (Or.inl (by omega))]; exact g7⟩
    by_cases eh : h = x.1
    · subst eh
      rw [I_at]
      have e1 : sX A S x x.1 = true := by unfold sX; rw [decide_eq_true rfl]; simp
      have e2 : (fun a => sOK A S (nP A) x.1 a && !(decide (x.1 = x.1 ∧ a ≠ x.2))) = fun a => sOK A S (nP A) x.1 a && !decide (a ≠ x.2) := by
        funext b
        congr 2
        apply decide_eq_decide.mpr
        exact ⟨fun w => w.2, fun w => ⟨rfl, w⟩⟩
      rw [e1, e2]
      exact t2
    · rw [I_ne (Or.inr eh)]
      have e1 : sX A S x h = sN A S (nP A) h := by unfold sX; rw [decide_eq_false eh]; simp
      have e2 : (fun a => sOK A S (nP A) h a && !(decide (h = x.1 ∧ a ≠ x.2))) = sOK A S (nP A) h := by
        funext b
        rw [decide_eq_false (fun w => eh w.1)]; simp
      rw [e1, e2]
      exact g1
  · rw [I_ne (Or.inl (by omega))]; exact sp.1
end
