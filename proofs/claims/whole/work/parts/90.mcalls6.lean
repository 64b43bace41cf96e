section
/-! ===== the reference's calls: plan ===== -/
variable {A : AW} {σ : ST}
def Fy (σ s : ST) : Prop := Fr (fun y => y = 247 ∨ (266 ≤ y ∧ y ≤ 287)) σ s ∧ ∀ k, k ≠ 27 → k ≠ 28 → k ≠ 29 → k ≠ 36 → k ≠ 39 → k ≠ 40 → s.1 247 k = σ.1 247 k
theorem Fy.rf (σ : ST) : Fy σ σ := ⟨Fr.rf _ _, fun _ _ _ _ _ _ _ => rfl⟩
theorem Fy.tr {σ s u : ST} (h : Fy σ s) (g : Fy s u) : Fy σ u := ⟨h.1.tr g.1, fun k a b c d e f => (g.2 k a b c d e f).trans (h.2 k a b c d e f)⟩
theorem Fy_s {W : Nat → Prop} {s : ST} (h : Fs W σ s) (hW : ∀ y, W y → 266 ≤ y ∧ y ≤ 287) : Fy σ s := ⟨h.1.mono (fun y q => q.elim Or.inl (fun q => Or.inr (hW y q))), fun k _ _ _ _ a b => h.2 k a b⟩
theorem Fy_m {W : Nat → Prop} {s : ST} (h : Fm W σ s) (hW : ∀ y, W y → 266 ≤ y ∧ y ≤ 287) : Fy σ s := ⟨h.1.mono (fun y q => q.elim Or.inl (fun q => Or.inr (hW y q))), h.2.1⟩
theorem Fy_e {s : ST} (h : Fe σ s) : Fy σ s := ⟨h.1.mono (fun y q => q.elim Or.inl (fun q => Or.inr (by omega))), fun k _ _ _ _ _ b => h.2 k b⟩
theorem Fz_y {s : ST} (h : Fy σ s) : Fz σ s := ⟨h.1.mono (fun y q => q.elim Or.inl (fun q => Or.inr (Or.inl q))), h.2⟩
theorem Fy.I {s : ST} (h : Fy σ s) (k : Nat) : s.1 295 k = σ.1 295 k := h.1.I (by omega) k
theorem t_solveX2 (a : AOK A) (m : MR A σ) {S : Nat} {x : Nat × Nat} (hS : S < 2 ^ 16) (hx : x.1 < 12) (hx2 : x.2 < nH A) : ∃ u, f_X12_solve (nI S) (nI x.1) (nI x.2) σ = some (b2 (decide (LE A S x < 100000000)), u) ∧ Fy σ u ∧ SV A S x u := by
  obtain ⟨s1, e1, F1, t1, c1⟩ := t_makeMoments a m
  obtain ⟨s2, e2, F2, g2, h47⟩ := t_mgatherX a (MR_fm m F1 (fun y hy => by omega)) hS hx hx2
  obtain ⟨u, e3, F3, sv⟩ := t_solveK a (MB_mk a m F1 t1 c1 F2 g2 h47)
  refine ⟨u, ?_, ((Fy_m F1 (fun y hy => by omega)).tr (Fy_m F2 (fun y hy => by omega))).tr (Fy_s F3 (fun y hy => by omega)), sv⟩
  rw [solve_K]
  simp (disch := omega) only [bind_s, bd2_s, rdI_ok, rdJ_ok, rdT_ok, ixR_ok, wrI_ok, wrJ_ok, wrT_none, pfI_s, pfJ_s, pfZ_0, pfZ_1, zr_b2, nl_n, nl_s, nI_add, nI_mul, nI_sub, nI_shlm, nI_shrd, nI_or8, nI_or8r, nI_or5r, nI_and255, nI_and31, nI_and7, nI_and1, nI_andK, nI_clr, Nat.one_mul, nI_eqz, nI_eqq, nI_ltq, nI_ltz, nI_zlt, nI_nm1, nI_m2, m1_z, m1_lt0, m1_m1, b2_z, nI1_z, nI0_z, tb_0, tb_1, ite_nI, I_at, I_ne, J_at, J_ne, J_setI, I_setJ, ↓reduceIte, ltN_T, ltN_F, eqN_T, eqN_F, pow8, pow5, b2_f0, b2_t0, reduceCtorEq, Bool.false_eq_true, Bool.true_eq_false, eq_self, false_and, true_and, and_false, and_true, not_false_eq_true, not_true_eq_false, e1, e2, e3]
/-- a happening that may surely be put by then -/
def pmB (A : AW) (S i act : Nat) : Prop := sX A S X0 i = false ∧ ¬ EP A S X0 i 1024 [] (fun _ f s => hc A act (so A f (s % 32) (s / 32 % 8)) (s / 32 % 8) = false)
def P295 (A : AW) (S g h : Nat) (u : ST) : Prop := ∀ i, g ≤ i → i < h → ∃ v, u.1 295 i = nI v ∧ v < 128 ∧ ∀ act, act < nH A → (v.testBit act = true ↔ pmB A S i act)
theorem tb64 : ∀ a : Fin 6, Nat.testBit 64 a.1 = false := by decide
theorem t_plan47 (a : AOK A) {S : Nat} (v : SV A S X0 σ) (hL : LE A S X0 < 100000000) {x1 x2 : Int32} {g h : Nat} (hg : g ≤ h) (hh : h ≤ 12) {k : Int32 → Int32 → Int32 → ST → Option (Int32 × ST)} : ∃ u, f_X12_plan_47 k FU x1 x2 (nI h) (nI g) σ = k x1 x2 (nI h) u ∧ Fz σ u ∧ P295 A S g h u := by
  have hH := a.1.2.1
  refine Exists.elim (loopE (fun n i u => f_X12_plan_47 k n x1 x2 (nI h) (nI i) u) h (fun i u => Fq (fun y => (278 ≤ y ∧ y ≤ 281) ∨ y = 295) σ u ∧ P295 A S g i u) (fun u => k x1 x2 (nI h) u) ?_ ?_ FU g σ (by rw [FU_eq]; omega) hg ⟨Fq.rf _ _, fun i h1 h2 => by omega⟩) ?_
  · rintro n i u hi ⟨F, hm⟩ Q hQ
    have v1 := SV_fq v F (fun y hy => by omega)
    obtain ⟨u1, m, e1, F1, b1, b2⟩ := t_surelyMay a v1 hL (show i < 12 by omega)
    show ∃ y, f_X12_plan_47 k (n + 1) x1 x2 (nI h) (nI i) u = f_X12_plan_47 k n x1 x2 (nI h) (nI (i + 1)) y ∧ _
    rw [f_X12_plan_47, if_pos ((nI_ltI (by omega) (by omega)).mpr hi), e1, bd2_s, wrI_ok (show i < 12 by omega) (by decide)]
    simp only [bind_s]
    rw [nI_add]
    refine ⟨_, rfl, hQ _ ⟨(F.tr (Fq_e F1 (fun y h1 h2 => Or.inl ⟨h1, h2⟩))).tr (Fq_set (Or.inr rfl) (by decide)), fun j h1 h2 => ?_⟩⟩
    by_cases c : j = i
    · subst c
      refine ⟨if sX A S X0 j = true then 64 else m, I_at _ _ _ _, by split <;> omega, fun act hact => ?_⟩
      unfold pmB
      cases hs : sX A S X0 j with
      | true => 
        rw [if_pos rfl, tb64 ⟨act, by omega⟩]
        exact ⟨fun q => (by cases q), fun q => (by cases q.1)⟩
      | false =>
        rw [if_neg (by decide), b2 act hact]
        exact ⟨fun q => ⟨rfl, q⟩, fun q => q.2⟩
    · obtain ⟨w, w1, w2⟩ := hm j h1 (by omega)
      refine ⟨w, ?_, w2⟩
      rw [I_ne (Or.inr c), F1.1.I (by omega)]
      exact w1
  · rintro n u -
    show f_X12_plan_47 k (n + 1) _ _ (nI h) (nI h) u = _
    rw [f_X12_plan_47, if_neg (fun w => Nat.lt_irrefl _ ((nI_ltI (by omega) (by omega)).mp w))]
  · rintro u ⟨e, F, hm⟩
    exact ⟨u, e, ⟨F.1.mono (fun y q => by omega), fun k _ _ _ _ _ b => F.2 k b⟩, hm⟩
/-- a happening that, put by, brings the thing -/
def plG (A : AW) (t h i act : Nat) : Prop := pmB A (AL A) i act ∧ LE A (AL A) (i, act) < 100000000 ∧ isv A (AL A) (i, act) h t = 1
theorem t_plan84 (a : AOK A) (m : MR A σ) {t g h i : Nat} (ht : t < 10) (hi : i < h) (hgi : g ≤ i) (hh : h < 12) (p : P295 A (AL A) g h σ) {k : Int32 → Int32 → Int32 → ST → Option (Int32 × ST)} : (∃ u, f_X12_plan_84 k FU (nI t) (nI h) (nI i) (nI 0) σ = k (nI t) (nI h) (nI i) u ∧ Fy σ u ∧ ∀ act, act < nH A → ¬ plG A t h i act) ∨ ∃ act u, act < nH A ∧ plG A t h i act ∧ (∀ b, b < act → ¬ plG A t h i b) ∧ f_X12_plan_84 k FU (nI t) (nI h) (nI i) (nI 0) σ = some (nI (10 * i + act), u) ∧ Fy σ u := by
  have hH := a.1.2.1
  refine loopX (fun n act u => f_X12_plan_84 k n (nI t) (nI h) (nI i) (nI act) u) (nH A) (fun act u => Fy σ u ∧ ∀ b, b < act → ¬ plG A t h i b) (fun r => (∃ u, r = k (nI t) (nI h) (nI i) u ∧ Fy σ u ∧ ∀ act, act < nH A → ¬ plG A t h i act) ∨ ∃ act u, act < nH A ∧ plG A t h i act ∧ (∀ b, b < act → ¬ plG A t h i b) ∧ r = some (nI (10 * i + act), u) ∧ Fy σ u) ?_ ?_ FU 0 σ (by rw [FU_eq]; omega) (Nat.zero_le _) ⟨Fy.rf _, fun b hb => by omega⟩
  · rintro n act u hact ⟨F, hm⟩
    have mu := MR_fz m (Fz_y F)
    obtain ⟨v, v1, v2, v3⟩ := p i hgi hi
    have v1' : u.1 295 i = nI v := by rw [F.I]; exact v1
    have no : ¬ plG A t h i act → ∀ b, b < act + 1 → ¬ plG A t h i b := fun q b hb => by
      by_cases c : b = act
      · rw [c]; exact q
      · exact hm b (by omega)
    show (∃ y, f_X12_plan_84 k (n + 1) (nI t) (nI h) (nI i) (nI act) u = f_X12_plan_84 k n (nI t) (nI h) (nI i) (nI (act + 1)) y ∧ _) ∨ _
    rw [f_X12_plan_84, mu.1.2.1, if_pos ((nI_ltI (by omega) (by omega)).mpr hact), rdI_ok (show i < 12 by omega) (by decide), v1']
    simp only [bind_s]
    cases hb : v.testBit act with
    | false =>
      rw [if_pos ((bit_q v (by omega) (by omega)).mpr hb), nI_add]
      exact Or.inl ⟨u, rfl, F, no (fun q => by have := (v3 act hact).mpr q.1; rw [hb] at this; cases this)⟩
    | true =>
      have hp := (v3 act hact).mp hb
      rw [if_neg (fun q => by have := (bit_q v (show act < 31 by omega) (by omega)).mp q; rw [hb] at this; cases this), t_mall a mu, bd2_s]
      obtain ⟨u1, e1, F1, s1⟩ := t_solveX2 (x := (i, act)) a mu (AL_lt a) (show i < 12 by omega) hact
      have e1' : f_X12_solve (nI (AL A)) (nI i) (nI act) u = some (b2 (decide (LE A (AL A) (i, act) < 100000000)), u1) := e1
      rw [e1', bd2_s]
      by_cases c : LE A (AL A) (i, act) < 100000000
      · rw [decide_eq_true c, if_neg b2t0]
        obtain ⟨u2, e2, F2⟩ := t_isOf a s1 c hh ht
        have h2 := isv_le (A := A) (AL A) (i, act) h t
        rw [e2, bd2_s]
        by_cases d : isv A (AL A) (i, act) h t = 1
        · rw [if_pos (congrArg nI d), nI_mul, nI_add]
          exact Or.inr (Or.inr ⟨act, u2, hact, ⟨hp, c, d⟩, hm, rfl, (F.tr F1).tr (Fy_e F2)⟩)
        · rw [if_neg (fun q => d ((nI_eq (by omega) (by omega)).mp q)), nI_add]
          exact Or.inl ⟨u2, rfl, (F.tr F1).tr (Fy_e F2), no (fun q => d q.2.2)⟩
      · rw [decide_eq_false c, if_pos b2f0, nI_add]
        exact Or.inl ⟨u1, rfl, F.tr F1, no (fun q => c q.2.1)⟩
  · rintro n u ⟨F, hm⟩
    have mu := MR_fz m (Fz_y F)
    left
    refine ⟨u, ?_, F, hm⟩
    show f_X12_plan_84 k (n + 1) _ _ _ (nI (nH A)) u = _
    rw [f_X12_plan_84, mu.1.2.1, if_neg (fun w => Nat.lt_irrefl _ ((nI_ltI (by omega) (by omega)).mp w))]
end
