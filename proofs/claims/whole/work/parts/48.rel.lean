section
/-! ===== the class's cells hold a world ===== -/
def mt (r1 r2 r3 r4 : Nat → Int32) (so run i : Nat) : Bool := decide (nI so &&& r1 i = r1 i) && (decide (nI so &&& r2 i = 0) && (decide (r3 i < nI run) && !decide (r4 i < nI run)))
def CMr (r1 r2 r3 r4 : Nat → Int32) (n so run : Nat) : Bool := decide (n = 0) || anyN (mt r1 r2 r3 r4 so run) n
def CC (σ : ST) (c : Nat) (g : Nat → Nat → Bool) : Prop := ∃ n, n ≤ 30 ∧ σ.1 c 0 = nI n ∧ ∀ so run, so < 1024 → run < 8 → CMr (σ.1 (c + 1)) (σ.1 (c + 2)) (σ.1 (c + 3)) (σ.1 (c + 4)) n so run = g so run
def clsP (k : Nat) : Nat := if k = 0 then 6 else if k = 1 then 8 else if k = 2 then 9 else 4
def PO (σ : ST) (p k : Nat) (A : AW) : Prop := (296 ≤ p ∧ σ.2.2.2[p - 296]? = some (clsP (pk A k))) ∧ σ.1 p 0 = nI k ∧ σ.1 p 1 = nI (pk A k) ∧ σ.1 p 2 = nI (po A k) ∧ σ.1 p 3 = nI (pp A k) ∧ σ.1 p 4 = nI (pq A k) ∧ σ.1 p 5 = nI (pv A k) ∧ σ.1 p 6 = nI (pm A k)
def CR (w : Nat) (A : AW) (σ : ST) : Prop :=
  (σ.1 w 0 = nI (nT A) ∧ σ.1 w 1 = nI (nH A) ∧ σ.1 w 2 = nI (nP A) ∧ σ.1 w 3 = nI (msk (fun k => decide (pb A k = 1)) (nP A))) ∧
  (∀ i, i < nT A → σ.1 (w + 1) i = nI (kd A i) ∧ σ.1 (w + 2) i = nI (pl A i)) ∧
  (∀ i, i < nT A → 2 ≤ kd A i → CC σ (w + 7 + 5 * i) (tc A i)) ∧
  (∀ h, h < nH A → CC σ (w + 57 + 6 * h + 1) (hc A h) ∧ σ.1 (w + 57 + 6 * h) 1 = nI (lwb A h) ∧ σ.1 (w + 57 + 6 * h) 2 = nI (lwe A h) ∧ σ.1 (w + 57 + 6 * h) 3 = nI (lws A h) ∧ σ.1 (w + 57 + 6 * h) 4 = nI (pr A h) ∧ σ.1 (w + 57 + 6 * h) 5 = nI (sr A h)) ∧
  (∀ k, k < nP A → ∃ p, σ.2.2.1 (w + 5) k = some p ∧ PO σ p k A) ∧
  (∀ m, m < 6 → σ.1 (w + 6) m = nI (wt A m))
/-- cells that stay as they are -/
def Sm (U : Nat → Prop) (σ s : ST) : Prop := (∀ x, U x → s.1 x = σ.1 x ∧ s.2.1 x = σ.2.1 x ∧ s.2.2.1 x = σ.2.2.1 x) ∧ ∃ l, s.2.2.2 = σ.2.2.2 ++ l
theorem Sm_fr {W U : Nat → Prop} {σ s : ST} (h : Fr W σ s) (hu : ∀ x, W x → ¬ U x) : Sm U σ s := ⟨fun x hx => h.1 x (fun q => hu x q hx), [], by rw [h.2, List.append_nil]⟩
theorem CC_sm {σ s : ST} {c : Nat} {g : Nat → Nat → Bool} (h : CC σ c g) (e : ∀ x, c ≤ x → x < c + 5 → s.1 x = σ.1 x) : CC s c g := by
  obtain ⟨n, h1, h2, h3⟩ := h
  refine ⟨n, h1, ?_, ?_⟩
  · rw [e c (by omega) (by omega)]; exact h2
  · rw [e (c + 1) (by omega) (by omega), e (c + 2) (by omega) (by omega), e (c + 3) (by omega) (by omega), e (c + 4) (by omega) (by omega)]
    exact h3
theorem PO_sm {σ s : ST} {p k : Nat} {A : AW} (h : PO σ p k A) (e : s.1 p = σ.1 p) (hl : ∃ l, s.2.2.2 = σ.2.2.2 ++ l) : PO s p k A := by
  obtain ⟨⟨h1, h2⟩, h3⟩ := h
  obtain ⟨l, hl⟩ := hl
  refine ⟨⟨h1, ?_⟩, by rw [e]; exact h3⟩
  rw [hl, List.getElem?_append_left (List.getElem?_eq_some_iff.mp h2).1]
  exact h2
theorem CR_sm {w : Nat} {A : AW} {σ s : ST} (a : AOK A) (c : CR w A σ) (h : Sm (fun x => (w ≤ x ∧ x < w + 93) ∨ (296 ≤ x ∧ x < 296 + σ.2.2.2.length)) σ s) : CR w A s := by
  obtain ⟨h, hl⟩ := h
  obtain ⟨c1, c2, c3, c4, c5, c6⟩ := c
  obtain ⟨⟨a1, a2, a3⟩, -⟩ := a
  have e : ∀ x, w ≤ x → x < w + 93 → s.1 x = σ.1 x := fun x h1 h2 => (h x (Or.inl ⟨h1, h2⟩)).1
  refine ⟨?_, ?_, ?_, ?_, ?_, ?_⟩
  · rw [e w (by omega) (by omega)]; exact c1
  · intro i hi
    rw [e (w + 1) (by omega) (by omega), e (w + 2) (by omega) (by omega)]; exact c2 i hi
  · intro i hi hk
    exact CC_sm (c3 i hi hk) (fun x h1 h2 => e x (by omega) (by omega))
  · intro i hi
    rw [e (w + 57 + 6 * i) (by omega) (by omega)]
    exact ⟨CC_sm (c4 i hi).1 (fun x h1 h2 => e x (by omega) (by omega)), (c4 i hi).2⟩
  · intro k hk
    obtain ⟨p, h1, h2⟩ := c5 k hk
    have hp : p - 296 < σ.2.2.2.length := (List.getElem?_eq_some_iff.mp h2.1.2).1
    have hp2 := h2.1.1
    refine ⟨p, ?_, PO_sm h2 (h p (Or.inr ⟨h2.1.1, by omega⟩)).1 hl⟩
    rw [(h (w + 5) (Or.inl ⟨by omega, by omega⟩)).2.2]
    exact h1
  · intro m hm
    rw [e (w + 6) (by omega) (by omega)]; exact c6 m hm
theorem CR_fr {w : Nat} {A : AW} {W : Nat → Prop} {σ s : ST} (a : AOK A) (c : CR w A σ) (h : Fr W σ s) (hu : ∀ x, W x → ¬ (w ≤ x ∧ x < w + 93) ∧ x < 296) : CR w A s := CR_sm a c (Sm_fr h (fun x hx => by have := hu x hx; omega))
theorem clsP_in (k : Nat) : clsP k ∈ [6, 4, 8, 9] := by
  unfold clsP
  split
  · decide
  · split
    · decide
    · split <;> decide
theorem PO_chk {σ : ST} {p k : Nat} {A : AW} (h : PO σ p k A) : chkP [6, 4, 8, 9] σ p = some (clsP (pk A k)) := by
  unfold chkP
  rw [if_pos h.1.1, h.1.2]
  show (if clsP (pk A k) ∈ [6, 4, 8, 9] then _ else _) = _
  rw [if_pos (clsP_in _)]
theorem PO_rd {σ : ST} {p k j : Nat} {A : AW} (h : PO σ p k A) : rdP [6, 4, 8, 9] σ p j = some (σ.1 p j) := by
  unfold rdP
  rw [PO_chk h]
  rfl
end
section
/-! ===== small readers of a world ===== -/
variable {A : AW} {σ : ST}
theorem t_countOf (a : AOK A) (c : CR 2 A σ) {k : Nat} (hk : k < 4) : f_X10_countOf (nI k) σ = some (nI (cK A k), σ) := by
  unfold f_X10_countOf
  have h0 := c.1.1
  have hb := a.1.1
  refine loopC (fun n i => f_X10_countOf_4 n (nI k) (nI (cnt (kd A) k i)) (nI i) σ) (nT A) _ ?_ ?_ FU 0 (by rw [FU_eq]; omega) (Nat.zero_le _)
  · intro n i hi
    have h1 := (c.2.1 i hi).1
    have h2 := a.2.1 i hi
    show f_X10_countOf_4 (n + 1) _ _ _ σ = f_X10_countOf_4 n _ _ (nI (i + 1)) σ
    rw [f_X10_countOf_4, cnt]
    by_cases e : kd A i = k
    · simp (disch := omega) only [bind_s, bd2_s, rdI_ok, rdJ_ok, rdT_ok, ixR_ok, wrI_ok, wrJ_ok, wrT_none, pfI_s, pfJ_s, pfZ_0, pfZ_1, zr_b2, nl_n, nl_s, nI_add, nI_mul, nI_sub, nI_shlm, nI_shrd, nI_or8, nI_or8r, nI_or5r, nI_and255, nI_and31, nI_and7, nI_and1, nI_andK, nI_clr, Nat.one_mul, nI_eqz, nI_eqq, nI_ltq, nI_ltz, nI_zlt, nI_nm1, nI_m2, m1_z, m1_lt0, m1_m1, b2_z, nI1_z, nI0_z, tb_0, tb_1, ite_nI, I_at, I_ne, J_at, J_ne, J_setI, I_setJ, ↓reduceIte, ltN_T, ltN_F, eqN_T, eqN_F, pow8, pow5, b2_f0, b2_t0, reduceCtorEq, Bool.false_eq_true, Bool.true_eq_false, eq_self, false_and, true_and, and_false, and_true, not_false_eq_true, not_true_eq_false, h0, h1, e]
    · simp (disch := omega) only [bind_s, bd2_s, rdI_ok, rdJ_ok, rdT_ok, ixR_ok, wrI_ok, wrJ_ok, wrT_none, pfI_s, pfJ_s, pfZ_0, pfZ_1, zr_b2, nl_n, nl_s, nI_add, nI_mul, nI_sub, nI_shlm, nI_shrd, nI_or8, nI_or8r, nI_or5r, nI_and255, nI_and31, nI_and7, nI_and1, nI_andK, nI_clr, Nat.one_mul, nI_eqz, nI_eqq, nI_ltq, nI_ltz, nI_zlt, nI_nm1, nI_m2, m1_z, m1_lt0, m1_m1, b2_z, nI1_z, nI0_z, tb_0, tb_1, ite_nI, I_at, I_ne, J_at, J_ne, J_setI, I_setJ, ↓reduceIte, ltN_T, ltN_F, eqN_T, eqN_F, pow8, pow5, b2_f0, b2_t0, reduceCtorEq, Bool.false_eq_true, Bool.true_eq_false, eq_self, false_and, true_and, and_false, and_true, not_false_eq_true, not_true_eq_false, h0, h1, e]
  · intro n
    show f_X10_countOf_4 (n + 1) _ _ _ σ = _
    rw [f_X10_countOf_4]
    simp (disch := omega) only [bind_s, bd2_s, rdI_ok, rdJ_ok, rdT_ok, ixR_ok, wrI_ok, wrJ_ok, wrT_none, pfI_s, pfJ_s, pfZ_0, pfZ_1, zr_b2, nl_n, nl_s, nI_add, nI_mul, nI_sub, nI_shlm, nI_shrd, nI_or8, nI_or8r, nI_or5r, nI_and255, nI_and31, nI_and7, nI_and1, nI_andK, nI_clr, Nat.one_mul, nI_eqz, nI_eqq, nI_ltq, nI_ltz, nI_zlt, nI_nm1, nI_m2, m1_z, m1_lt0, m1_m1, b2_z, nI1_z, nI0_z, tb_0, tb_1, ite_nI, I_at, I_ne, J_at, J_ne, J_setI, I_setJ, ↓reduceIte, ltN_T, ltN_F, eqN_T, eqN_F, pow8, pow5, b2_f0, b2_t0, reduceCtorEq, Bool.false_eq_true, Bool.true_eq_false, eq_self, false_and, true_and, and_false, and_true, not_false_eq_true, not_true_eq_false, h0, cK]
def RR (A : AW) : Nat := if cK A 3 = 0 then 1 else 8
theorem t_lowStates (a : AOK A) (c : CR 2 A σ) : f_X10_lowStates σ = some (nI (RR A * 2 ^ cK A 1), σ) := by
  unfold f_X10_lowStates RR
  have h1 := a.2.2.1.2.1
  have h3 := a.2.2.1.2.2.2
  simp (disch := omega) only [bind_s, bd2_s, rdI_ok, rdJ_ok, rdT_ok, ixR_ok, wrI_ok, wrJ_ok, wrT_none, pfI_s, pfJ_s, pfZ_0, pfZ_1, zr_b2, nl_n, nl_s, nI_add, nI_mul, nI_sub, nI_shlm, nI_shrd, nI_or8, nI_or8r, nI_or5r, nI_and255, nI_and31, nI_and7, nI_and1, nI_andK, nI_clr, Nat.one_mul, nI_eqz, nI_eqq, nI_ltq, nI_ltz, nI_zlt, nI_nm1, nI_m2, m1_z, m1_lt0, m1_m1, b2_z, nI1_z, nI0_z, tb_0, tb_1, ite_nI, I_at, I_ne, J_at, J_ne, J_setI, I_setJ, ↓reduceIte, ltN_T, ltN_F, eqN_T, eqN_F, pow8, pow5, b2_f0, b2_t0, reduceCtorEq, Bool.false_eq_true, Bool.true_eq_false, eq_self, false_and, true_and, and_false, and_true, not_false_eq_true, not_true_eq_false, t_countOf a c]
  by_cases e : cK A 3 = 0
  · simp (disch := omega) only [bind_s, bd2_s, rdI_ok, rdJ_ok, rdT_ok, ixR_ok, wrI_ok, wrJ_ok, wrT_none, pfI_s, pfJ_s, pfZ_0, pfZ_1, zr_b2, nl_n, nl_s, nI_add, nI_mul, nI_sub, nI_shlm, nI_shrd, nI_or8, nI_or8r, nI_or5r, nI_and255, nI_and31, nI_and7, nI_and1, nI_andK, nI_clr, Nat.one_mul, nI_eqz, nI_eqq, nI_ltq, nI_ltz, nI_zlt, nI_nm1, nI_m2, m1_z, m1_lt0, m1_m1, b2_z, nI1_z, nI0_z, tb_0, tb_1, ite_nI, I_at, I_ne, J_at, J_ne, J_setI, I_setJ, ↓reduceIte, ltN_T, ltN_F, eqN_T, eqN_F, pow8, pow5, b2_f0, b2_t0, reduceCtorEq, Bool.false_eq_true, Bool.true_eq_false, eq_self, false_and, true_and, and_false, and_true, not_false_eq_true, not_true_eq_false, e, t_countOf a c]
  · simp (disch := omega) only [bind_s, bd2_s, rdI_ok, rdJ_ok, rdT_ok, ixR_ok, wrI_ok, wrJ_ok, wrT_none, pfI_s, pfJ_s, pfZ_0, pfZ_1, zr_b2, nl_n, nl_s, nI_add, nI_mul, nI_sub, nI_shlm, nI_shrd, nI_or8, nI_or8r, nI_or5r, nI_and255, nI_and31, nI_and7, nI_and1, nI_andK, nI_clr, Nat.one_mul, nI_eqz, nI_eqq, nI_ltq, nI_ltz, nI_zlt, nI_nm1, nI_m2, m1_z, m1_lt0, m1_m1, b2_z, nI1_z, nI0_z, tb_0, tb_1, ite_nI, I_at, I_ne, J_at, J_ne, J_setI, I_setJ, ↓reduceIte, ltN_T, ltN_F, eqN_T, eqN_F, pow8, pow5, b2_f0, b2_t0, reduceCtorEq, Bool.false_eq_true, Bool.true_eq_false, eq_self, false_and, true_and, and_false, and_true, not_false_eq_true, not_true_eq_false, e, t_countOf a c]
theorem t_freeLooks (a : AOK A) (c : CR 2 A σ) : f_X10_freeLooks σ = some (nI (2 ^ cK A 0), σ) := by
  unfold f_X10_freeLooks
  have h1 := a.2.2.1.1
  simp (disch := omega) only [bind_s, bd2_s, rdI_ok, rdJ_ok, rdT_ok, ixR_ok, wrI_ok, wrJ_ok, wrT_none, pfI_s, pfJ_s, pfZ_0, pfZ_1, zr_b2, nl_n, nl_s, nI_add, nI_mul, nI_sub, nI_shlm, nI_shrd, nI_or8, nI_or8r, nI_or5r, nI_and255, nI_and31, nI_and7, nI_and1, nI_andK, nI_clr, Nat.one_mul, nI_eqz, nI_eqq, nI_ltq, nI_ltz, nI_zlt, nI_nm1, nI_m2, m1_z, m1_lt0, m1_m1, b2_z, nI1_z, nI0_z, tb_0, tb_1, ite_nI, I_at, I_ne, J_at, J_ne, J_setI, I_setJ, ↓reduceIte, ltN_T, ltN_F, eqN_T, eqN_F, pow8, pow5, b2_f0, b2_t0, reduceCtorEq, Bool.false_eq_true, Bool.true_eq_false, eq_self, false_and, true_and, and_false, and_true, not_false_eq_true, not_true_eq_false, t_countOf a c]
theorem t_isMet {g : Nat → Nat → Bool} {d so run : Nat} (c : CC σ d g) (h1 : so < 1024) (h2 : run < 8) : f_X1_isMet d (nI so) (nI run) σ = some (b2 (g so run), σ) := by
  obtain ⟨n, hn, e0, hg⟩ := c
  rw [← hg so run h1 h2]
  unfold f_X1_isMet
  refine loopD (fun m i => f_X1_isMet_2 d _ m (nI so) (nI run) (nI i) σ) n (fun i => anyN (mt (σ.1 (d + 1)) (σ.1 (d + 2)) (σ.1 (d + 3)) (σ.1 (d + 4)) so run) i = false) _ ?_ ?_ FU 0 (by rw [FU_eq]; omega) (Nat.zero_le _) rfl
  · intro m i hi hI
    show (f_X1_isMet_2 d _ (m + 1) _ _ (nI i) σ = f_X1_isMet_2 d _ m _ _ (nI (i + 1)) σ ∧ _) ∨ f_X1_isMet_2 d _ (m + 1) _ _ (nI i) σ = _
    cases hm : mt (σ.1 (d + 1)) (σ.1 (d + 2)) (σ.1 (d + 3)) (σ.1 (d + 4)) so run i with
    | false =>
      left
      refine ⟨?_, by rw [anyN, hI, hm]; rfl⟩
      rw [f_X1_isMet_2]
      unfold mt at hm
      by_cases g1 : nI so &&& σ.1 (d + 1) i = σ.1 (d + 1) i
      · by_cases g2 : nI so &&& σ.1 (d + 2) i = 0
        · by_cases g3 : σ.1 (d + 3) i < nI run
          · by_cases g4 : σ.1 (d + 4) i < nI run
            · simp (disch := omega) only [bind_s, bd2_s, rdI_ok, rdJ_ok, rdT_ok, ixR_ok, wrI_ok, wrJ_ok, wrT_none, pfI_s, pfJ_s, pfZ_0, pfZ_1, zr_b2, nl_n, nl_s, nI_add, nI_mul, nI_sub, nI_shlm, nI_shrd, nI_or8, nI_or8r, nI_or5r, nI_and255, nI_and31, nI_and7, nI_and1, nI_andK, nI_clr, Nat.one_mul, nI_eqz, nI_eqq, nI_ltq, nI_ltz, nI_zlt, nI_nm1, nI_m2, m1_z, m1_lt0, m1_m1, b2_z, nI1_z, nI0_z, tb_0, tb_1, ite_nI, I_at, I_ne, J_at, J_ne, J_setI, I_setJ, ↓reduceIte, ltN_T, ltN_F, eqN_T, eqN_F, pow8, pow5, b2_f0, b2_t0, reduceCtorEq, Bool.false_eq_true, Bool.true_eq_false, eq_self, false_and, true_and, and_false, and_true, not_false_eq_true, not_true_eq_false, e0, g1, g2, g3, g4, f_X1_isMet_43, f_X1_isMet_42]
            · simp [g1, g2, g3, g4] at hm
          · simp (disch := omega) only [bind_s, bd2_s, rdI_ok, rdJ_ok, rdT_ok, ixR_ok, wrI_ok, wrJ_ok, wrT_none, pfI_s, pfJ_s, pfZ_0, pfZ_1, zr_b2, nl_n, nl_s, nI_add, nI_mul, nI_sub, nI_shlm, nI_shrd, nI_or8, nI_or8r, nI_or5r, nI_and255, nI_and31, nI_and7, nI_and1, nI_andK, nI_clr, Nat.one_mul, nI_eqz, nI_eqq, nI_ltq, nI_ltz, nI_zlt, nI_nm1, nI_m2, m1_z, m1_lt0, m1_m1, b2_z, nI1_z, nI0_z, tb_0, tb_1, ite_nI, I_at, I_ne, J_at, J_ne, J_setI, I_setJ, ↓reduceIte, ltN_T, ltN_F, eqN_T, eqN_F, pow8, pow5, b2_f0, b2_t0, reduceCtorEq, Bool.false_eq_true, Bool.true_eq_false, eq_self, false_and, true_and, and_false, and_true, not_false_eq_true, not_true_eq_false, e0, g1, g2, g3, f_X1_isMet_43, f_X1_isMet_42]
        · simp (disch := omega) only [bind_s, bd2_s, rdI_ok, rdJ_ok, rdT_ok, ixR_ok, wrI_ok, wrJ_ok, wrT_none, pfI_s, pfJ_s, pfZ_0, pfZ_1, zr_b2, nl_n, nl_s, nI_add, nI_mul, nI_sub, nI_shlm, nI_shrd, nI_or8, nI_or8r, nI_or5r, nI_and255, nI_and31, nI_and7, nI_and1, nI_andK, nI_clr, Nat.one_mul, nI_eqz, nI_eqq, nI_ltq, nI_ltz, nI_zlt, nI_nm1, nI_m2, m1_z, m1_lt0, m1_m1, b2_z, nI1_z, nI0_z, tb_0, tb_1, ite_nI, I_at, I_ne, J_at, J_ne, J_setI, I_setJ, ↓reduceIte, ltN_T, ltN_F, eqN_T, eqN_F, pow8, pow5, b2_f0, b2_t0, reduceCtorEq, Bool.false_eq_true, Bool.true_eq_false, eq_self, false_and, true_and, and_false, and_true, not_false_eq_true, not_true_eq_false, e0, g1, g2, f_X1_isMet_43, f_X1_isMet_42]
      · simp (disch := omega) only [bind_s, bd2_s, rdI_ok, rdJ_ok, rdT_ok, ixR_ok, wrI_ok, wrJ_ok, wrT_none, pfI_s, pfJ_s, pfZ_0, pfZ_1, zr_b2, nl_n, nl_s, nI_add, nI_mul, nI_sub, nI_shlm, nI_shrd, nI_or8, nI_or8r, nI_or5r, nI_and255, nI_and31, nI_and7, nI_and1, nI_andK, nI_clr, Nat.one_mul, nI_eqz, nI_eqq, nI_ltq, nI_ltz, nI_zlt, nI_nm1, nI_m2, m1_z, m1_lt0, m1_m1, b2_z, nI1_z, nI0_z, tb_0, tb_1, ite_nI, I_at, I_ne, J_at, J_ne, J_setI, I_setJ, ↓reduceIte, ltN_T, ltN_F, eqN_T, eqN_F, pow8, pow5, b2_f0, b2_t0, reduceCtorEq, Bool.false_eq_true, Bool.true_eq_false, eq_self, false_and, true_and, and_false, and_true, not_false_eq_true, not_true_eq_false, e0, g1, f_X1_isMet_43, f_X1_isMet_42]
    | true =>
      right
      have e1 : CMr (σ.1 (d + 1)) (σ.1 (d + 2)) (σ.1 (d + 3)) (σ.1 (d + 4)) n so run = true := by
        unfold CMr
        rw [anyN_iff.mpr ⟨i, hi, hm⟩, Bool.or_true]
      unfold mt at hm
      simp only [Bool.and_eq_true, decide_eq_true_eq, Bool.not_eq_true', decide_eq_false_iff_not] at hm
      obtain ⟨g1, g2, g3, g4⟩ := hm
      rw [f_X1_isMet_2, e1]
      simp (disch := omega) only [bind_s, bd2_s, rdI_ok, rdJ_ok, rdT_ok, ixR_ok, wrI_ok, wrJ_ok, wrT_none, pfI_s, pfJ_s, pfZ_0, pfZ_1, zr_b2, nl_n, nl_s, nI_add, nI_mul, nI_sub, nI_shlm, nI_shrd, nI_or8, nI_or8r, nI_or5r, nI_and255, nI_and31, nI_and7, nI_and1, nI_andK, nI_clr, Nat.one_mul, nI_eqz, nI_eqq, nI_ltq, nI_ltz, nI_zlt, nI_nm1, nI_m2, m1_z, m1_lt0, m1_m1, b2_z, nI1_z, nI0_z, tb_0, tb_1, ite_nI, I_at, I_ne, J_at, J_ne, J_setI, I_setJ, ↓reduceIte, ltN_T, ltN_F, eqN_T, eqN_F, pow8, pow5, b2_f0, b2_t0, reduceCtorEq, Bool.false_eq_true, Bool.true_eq_false, eq_self, false_and, true_and, and_false, and_true, not_false_eq_true, not_true_eq_false, e0, g1, g2, g3, g4, f_X1_isMet_43, f_X1_isMet_42, b2_1]
  · intro m hI
    show f_X1_isMet_2 d _ (m + 1) _ _ (nI n) σ = _
    rw [f_X1_isMet_2]
    unfold CMr
    rw [hI]
    by_cases e : n = 0
    · subst e
      simp (disch := omega) only [bind_s, bd2_s, rdI_ok, rdJ_ok, rdT_ok, ixR_ok, wrI_ok, wrJ_ok, wrT_none, pfI_s, pfJ_s, pfZ_0, pfZ_1, zr_b2, nl_n, nl_s, nI_add, nI_mul, nI_sub, nI_shlm, nI_shrd, nI_or8, nI_or8r, nI_or5r, nI_and255, nI_and31, nI_and7, nI_and1, nI_andK, nI_clr, Nat.one_mul, nI_eqz, nI_eqq, nI_ltq, nI_ltz, nI_zlt, nI_nm1, nI_m2, m1_z, m1_lt0, m1_m1, b2_z, nI1_z, nI0_z, tb_0, tb_1, ite_nI, I_at, I_ne, J_at, J_ne, J_setI, I_setJ, ↓reduceIte, ltN_T, ltN_F, eqN_T, eqN_F, pow8, pow5, b2_f0, b2_t0, reduceCtorEq, Bool.false_eq_true, Bool.true_eq_false, eq_self, false_and, true_and, and_false, and_true, not_false_eq_true, not_true_eq_false, e0, b2_1]
      simp [b2, nI_zero, nI_one]
    · simp (disch := omega) only [bind_s, bd2_s, rdI_ok, rdJ_ok, rdT_ok, ixR_ok, wrI_ok, wrJ_ok, wrT_none, pfI_s, pfJ_s, pfZ_0, pfZ_1, zr_b2, nl_n, nl_s, nI_add, nI_mul, nI_sub, nI_shlm, nI_shrd, nI_or8, nI_or8r, nI_or5r, nI_and255, nI_and31, nI_and7, nI_and1, nI_andK, nI_clr, Nat.one_mul, nI_eqz, nI_eqq, nI_ltq, nI_ltz, nI_zlt, nI_nm1, nI_m2, m1_z, m1_lt0, m1_m1, b2_z, nI1_z, nI0_z, tb_0, tb_1, ite_nI, I_at, I_ne, J_at, J_ne, J_setI, I_setJ, ↓reduceIte, ltN_T, ltN_F, eqN_T, eqN_F, pow8, pow5, b2_f0, b2_t0, reduceCtorEq, Bool.false_eq_true, Bool.true_eq_false, eq_self, false_and, true_and, and_false, and_true, not_false_eq_true, not_true_eq_false, e0, e, b2_0]
      simp [b2, nI_zero, nI_one]
end
