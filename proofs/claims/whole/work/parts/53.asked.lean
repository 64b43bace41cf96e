section
/-! ===== what is asked, read; one more piece thought of ===== -/
variable {A : AW} {σ : ST} {q S : Nat} {x : Nat × Nat}
def GX (q : Nat) (A : AW) (S : Nat) (x : Nat × Nat) (σ : ST) : Prop := (∀ h, h < 12 → σ.1 (q + 1) h = nI (nOn A S (nP A) h) ∧ σ.1 (q + 2) h = nI (nOff A S (nP A) h) ∧ (∃ v, v < 256 ∧ σ.1 (q + 3) h = nI v ∧ ∀ r, r < 8 → v.testBit r = rOK A S (nP A) h r) ∧ (∃ v, v < 128 ∧ σ.1 (q + 4) h = nI v ∧ ∀ a, a < 7 → v.testBit a = (aX A S x h a && decide (a = 6 ∨ a < nH A))) ∧ (∃ v, v < 128 ∧ σ.1 (q + 5) h = nI v ∧ ∀ a, a < nH A → aX A S x h a = true → v.testBit a = sX A S x h) ∧ (∀ a, a < 7 → σ.1 (q + 6) (h * 7 + a) = nI (br A S (nP A) h a)) ∧ σ.1 (q + 7) h = nI (du A S (nP A) h)) ∧ σ.1 q 8 = nI (nS A S)
theorem tN_sN {h a : Nat} : ∀ K, (∀ k, k < K → pk A k = 0 → pp A k = pq A k) → aN A S K h a = true → tN A S K h a = sN A S K h := by
  intro K
  induction K with
  | zero => intro _ _; rfl
  | succ K ih =>
    intro hp ha
    rw [aN, Bool.and_eq_true, Bool.not_eq_true', decide_eq_false_iff_not] at ha
    rw [tN, sN, ih (fun k hk => hp k (by omega)) ha.1]
    congr 1
    apply decide_eq_decide.mpr
    constructor
    · rintro ⟨h1, h2, h3, h4⟩; exact ⟨h1, h2, h3⟩
    · rintro ⟨h1, h2, h3⟩
      refine ⟨h1, h2, h3, ?_⟩
      have := hp K (by omega) h2
      by_cases e : po A K = a
      · exact e
      · exact absurd ⟨h1, by omega, by omega, Or.inl ⟨h2, fun w => e w.symm⟩⟩ ha.2
theorem GX_none (a : AOK A) (g : GA q A S (nP A) σ) (hx : 12 ≤ x.1) : GX q A S x σ := by
  refine ⟨fun h hh => ?_, g.2⟩
  obtain ⟨g1, g2, g3, ⟨v4, l4, g4, b4⟩, ⟨v5, l5, g5, b5⟩, g6, g7⟩ := g.1 h hh
  have eA : ∀ c, aX A S x h c = aN A S (nP A) h c := fun c => by unfold aX; rw [decide_eq_false (fun w => by omega)]; simp
  have eS : sX A S x h = sN A S (nP A) h := by unfold sX; rw [decide_eq_false (by omega)]; simp
  refine ⟨g1, g2, g3, ⟨v4, l4, g4, fun c hc => by rw [eA]; exact b4 c hc⟩, ⟨v5, l5, g5, fun c hc hac => ?_⟩, g6, g7⟩
  rw [eA] at hac
  have := a.1.2.1
  rw [eS, b5 c (by omega), tN_sN _ (fun k hk => (a.2.2.2.2.1 k hk).2.2.2.2.2.2.2.2.1) hac]
theorem GX_one (a : AOK A) (hq : q = 205 ∨ q = 221) (g : GA q A S (nP A) σ) (hx : x.1 < 12) (hx2 : x.2 < nH A) : ∃ s, f_X0_addSeen q (nI x.2) (nI x.1) σ = some s ∧ Fr (fun y => q ≤ y ∧ y ≤ q + 7) σ s ∧ GX q A S x s := by
  have hH := a.1.2.1
  obtain ⟨-, -, -, ⟨v4, l4, g4, b4⟩, ⟨v5, l5, g5, b5⟩, -, -⟩ := g.1 x.1 hx
  refine ⟨_, t_addSeen hq hx (by omega) g4 g5, (Fr_setI (by omega)).tr (Fr_setI (by omega)), fun h hh => ?_, by rw [I_ne (Or.inl (by omega)), I_ne (Or.inl (by omega))]; exact g.2⟩
  by_cases e : h = x.1
  · subst e
    obtain ⟨g1, g2, ⟨v3, l3, g3, b3⟩, -, -, g6, g7⟩ := g.1 x.1 hx
    have p64 : 2 ^ x.2 < 128 := Nat.lt_of_lt_of_le (Nat.pow_lt_pow_right (by omega) (show x.2 < 7 by omega)) (Nat.le_refl _)
    have eA : ∀ c, aX A S x x.1 c = (aN A S (nP A) x.1 c && decide (x.2 = c)) := fun c => by
      unfold aX
      congr 1
      by_cases e : x.2 = c
      · rw [decide_eq_true e, decide_eq_false (fun w => w.2 e.symm)]; rfl
      · rw [decide_eq_false e, decide_eq_true ⟨rfl, fun w => e w.symm⟩]; rfl
    refine ⟨by rw [I_ne (Or.inl (by omega)), I_ne (Or.inl (by omega))]; exact g1, by rw [I_ne (Or.inl (by omega)), I_ne (Or.inl (by omega))]; exact g2, ⟨v3, l3, by rw [I_ne (Or.inl (by omega)), I_ne (Or.inl (by omega))]; exact g3, b3⟩, ⟨v4 &&& 2 ^ x.2, Nat.lt_of_le_of_lt Nat.and_le_left l4, by rw [I_ne (Or.inl (by omega)), I_at], fun c hc => ?_⟩, ⟨v5 ||| 2 ^ x.2, Nat.or_lt_two_pow (n := 7) l5 p64, by rw [I_at], fun c hc hac => ?_⟩, fun c hc => by rw [I_ne (Or.inl (by omega)), I_ne (Or.inl (by omega))]; exact g6 c hc, by rw [I_ne (Or.inl (by omega)), I_ne (Or.inl (by omega))]; exact g7⟩
    · rw [and_tb, b4 c hc, eA]
      cases aN A S (nP A) x.1 c <;> cases decide (x.2 = c) <;> simp
    · rw [eA, Bool.and_eq_true, decide_eq_true_iff] at hac
      rw [tb_set, decide_eq_true hac.2]
      unfold sX
      rw [decide_eq_true rfl]
      simp
  · have eA : ∀ c, aX A S x h c = aN A S (nP A) h c := fun c => by unfold aX; rw [decide_eq_false (fun w => e w.1)]; simp
    have eS : sX A S x h = sN A S (nP A) h := by unfold sX; rw [decide_eq_false e]; simp
    obtain ⟨g1, g2, ⟨v3, l3, g3, b3⟩, ⟨w4, m4, k4, c4⟩, ⟨w5, m5, k5, c5⟩, g6, g7⟩ := g.1 h hh
    refine ⟨by rw [I_ne (Or.inl (by omega)), I_ne (Or.inl (by omega))]; exact g1, by rw [I_ne (Or.inl (by omega)), I_ne (Or.inl (by omega))]; exact g2, ⟨v3, l3, by rw [I_ne (Or.inl (by omega)), I_ne (Or.inl (by omega))]; exact g3, b3⟩, ⟨w4, m4, by rw [I_ne (Or.inl (by omega)), I_ne (Or.inr e)]; exact k4, fun c hc => by rw [eA]; exact c4 c hc⟩, ⟨w5, m5, by rw [I_ne (Or.inr e), I_ne (Or.inl (by omega))]; exact k5, fun c hc hac => ?_⟩, fun c hc => by rw [I_ne (Or.inl (by omega)), I_ne (Or.inl (by omega))]; exact g6 c hc, by rw [I_ne (Or.inl (by omega)), I_ne (Or.inl (by omega))]; exact g7⟩
    rw [eA] at hac
    rw [eS, c5 c (by omega), tN_sN _ (fun k hk => (a.2.2.2.2.1 k hk).2.2.2.2.2.2.2.2.1) hac]
theorem GX_fr {W : Nat → Prop} {s : ST} (g : GX q A S x σ) (hF : Fr W σ s) (hW : ∀ y, W y → ¬ (q ≤ y ∧ y ≤ q + 7)) : GX q A S x s := by
  refine ⟨fun h hh => ?_, by rw [hF.I (fun w => hW _ w (by omega))]; exact g.2⟩
  obtain ⟨g1, g2, ⟨v3, l3, g3, b3⟩, ⟨v4, l4, g4, b4⟩, ⟨v5, l5, g5, b5⟩, g6, g7⟩ := g.1 h hh
  refine ⟨by rw [hF.I (fun w => hW _ w (by omega))]; exact g1, by rw [hF.I (fun w => hW _ w (by omega))]; exact g2, ⟨v3, l3, by rw [hF.I (fun w => hW _ w (by omega))]; exact g3, b3⟩, ⟨v4, l4, by rw [hF.I (fun w => hW _ w (by omega))]; exact g4, b4⟩, ⟨v5, l5, by rw [hF.I (fun w => hW _ w (by omega))]; exact g5, b5⟩, fun c hc => by rw [hF.I (fun w => hW _ w (by omega))]; exact g6 c hc, by rw [hF.I (fun w => hW _ w (by omega))]; exact g7⟩
theorem nOn_lt (a : AOK A) {h : Nat} : ∀ K, K ≤ nP A → nOn A S K h < 2 ^ 10 := by
  intro K
  induction K with
  | zero => intro _; simp [nOn]
  | succ K ih =>
    intro hK
    rw [nOn]
    split
    · rename_i w
      have h1 := (a.2.2.2.2.1 K (by omega)).2.2.2.2.2.2.1 w.2.1
      have h2 := a.1.1
      exact Nat.or_lt_two_pow (ih (by omega)) (Nat.pow_lt_pow_right (by omega) (by omega))
    · exact ih (by omega)
theorem nOff_lt (a : AOK A) {h : Nat} : ∀ K, K ≤ nP A → nOff A S K h < 2 ^ 10 := by
  intro K
  induction K with
  | zero => intro _; simp [nOff]
  | succ K ih =>
    intro hK
    rw [nOff]
    split
    · rename_i w
      have h1 := (a.2.2.2.2.1 K (by omega)).2.2.2.2.2.2.1 w.2.1
      have h2 := a.1.1
      exact Nat.or_lt_two_pow (ih (by omega)) (Nat.pow_lt_pow_right (by omega) (by omega))
    · exact ih (by omega)
theorem tr_and (a : AOK A) {f kept run m : Nat} (hm : m < 2 ^ 10) : tr A f kept run &&& m = so A f kept run &&& m := by
  apply Nat.eq_of_testBit_eq
  intro j
  rw [Nat.testBit_and, Nat.testBit_and]
  by_cases hj : j < 10
  · rw [tr_so a hj]
  · rw [tb_lt hm (by omega)]; simp
def okB (A : AW) (S h f kept run : Nat) : Bool := decide (so A f kept run &&& nOn A S (nP A) h = nOn A S (nP A) h) && (decide (so A f kept run &&& nOff A S (nP A) h = 0) && rOK A S (nP A) h run)
theorem t_allows (a : AOK A) (g : GX q A S x σ) {h f kept run : Nat} (hh : h < 12) (hr : run < 8) : f_X0_allows q (nI h) (nI (tr A f kept run)) (nI run) σ = some (b2 (okB A S h f kept run), σ) := by
  obtain ⟨g1, g2, ⟨v3, l3, g3, b3⟩, -⟩ := g.1 h hh
  have n1 := nOn_lt a (S := S) (h := h) (nP A) (Nat.le_refl _)
  have n2 := nOff_lt a (S := S) (h := h) (nP A) (Nat.le_refl _)
  have n3 : so A f kept run &&& nOn A S (nP A) h < 2 ^ 10 := Nat.lt_of_le_of_lt Nat.and_le_right n1
  have n4 : so A f kept run &&& nOff A S (nP A) h < 2 ^ 10 := Nat.lt_of_le_of_lt Nat.and_le_right n2
  have e3 := b3 run hr
  have e4 : (nI (v3 / 2 ^ run % 2) = 0) = (rOK A S (nP A) h run = false) := by
    rw [nI_eqz (by have := Nat.mod_lt (v3 / 2 ^ run) (show 0 < 2 by omega); omega), tb_0, e3]
  unfold f_X0_allows okB
  have m1 : nI (tr A f kept run) &&& nI (nOn A S (nP A) h) = nI (so A f kept run &&& nOn A S (nP A) h) := by rw [nI_and, tr_and a n1]
  have m2 : nI (tr A f kept run) &&& nI (nOff A S (nP A) h) = nI (so A f kept run &&& nOff A S (nP A) h) := by rw [nI_and, tr_and a n2]
  simp (disch := omega) only [bind_s, bd2_s, rdI_ok, rdJ_ok, rdT_ok, ixR_ok, wrI_ok, wrJ_ok, wrT_none, pfI_s, pfJ_s, pfZ_0, pfZ_1, zr_b2, nl_n, nl_s, nI_add, nI_mul, nI_sub, nI_shlm, nI_shrd, nI_or8, nI_or8r, nI_or5r, nI_and255, nI_and31, nI_and7, nI_and1, nI_andK, nI_clr, Nat.one_mul, nI_eqz, nI_eqq, nI_ltq, nI_ltz, nI_zlt, nI_nm1, nI_m2, m1_z, m1_lt0, m1_m1, b2_z, nI1_z, nI0_z, tb_0, tb_1, ite_nI, I_at, I_ne, J_at, J_ne, J_setI, I_setJ, ↓reduceIte, ltN_T, ltN_F, eqN_T, eqN_F, pow8, pow5, b2_f0, b2_t0, reduceCtorEq, Bool.false_eq_true, Bool.true_eq_false, eq_self, false_and, true_and, and_false, and_true, not_false_eq_true, not_true_eq_false, g1, g2, g3, m1, m2]
  by_cases c1 : so A f kept run &&& nOn A S (nP A) h = nOn A S (nP A) h
  · by_cases c2 : so A f kept run &&& nOff A S (nP A) h = 0
    · simp (disch := omega) only [bind_s, bd2_s, rdI_ok, rdJ_ok, rdT_ok, ixR_ok, wrI_ok, wrJ_ok, wrT_none, pfI_s, pfJ_s, pfZ_0, pfZ_1, zr_b2, nl_n, nl_s, nI_add, nI_mul, nI_sub, nI_shlm, nI_shrd, nI_or8, nI_or8r, nI_or5r, nI_and255, nI_and31, nI_and7, nI_and1, nI_andK, nI_clr, Nat.one_mul, nI_eqz, nI_eqq, nI_ltq, nI_ltz, nI_zlt, nI_nm1, nI_m2, m1_z, m1_lt0, m1_m1, b2_z, nI1_z, nI0_z, tb_0, tb_1, ite_nI, I_at, I_ne, J_at, J_ne, J_setI, I_setJ, ↓reduceIte, ltN_T, ltN_F, eqN_T, eqN_F, pow8, pow5, b2_f0, b2_t0, reduceCtorEq, Bool.false_eq_true, Bool.true_eq_false, eq_self, false_and, true_and, and_false, and_true, not_false_eq_true, not_true_eq_false, c1, c2, e3]
      cases rOK A S (nP A) h run
      · simp [c1, c2, b2, nI_zero]
      · simp [c1, c2, b2, nI_one]
    · simp (disch := omega) only [bind_s, bd2_s, rdI_ok, rdJ_ok, rdT_ok, ixR_ok, wrI_ok, wrJ_ok, wrT_none, pfI_s, pfJ_s, pfZ_0, pfZ_1, zr_b2, nl_n, nl_s, nI_add, nI_mul, nI_sub, nI_shlm, nI_shrd, nI_or8, nI_or8r, nI_or5r, nI_and255, nI_and31, nI_and7, nI_and1, nI_andK, nI_clr, Nat.one_mul, nI_eqz, nI_eqq, nI_ltq, nI_ltz, nI_zlt, nI_nm1, nI_m2, m1_z, m1_lt0, m1_m1, b2_z, nI1_z, nI0_z, tb_0, tb_1, ite_nI, I_at, I_ne, J_at, J_ne, J_setI, I_setJ, ↓reduceIte, ltN_T, ltN_F, eqN_T, eqN_F, pow8, pow5, b2_f0, b2_t0, reduceCtorEq, Bool.false_eq_true, Bool.true_eq_false, eq_self, false_and, true_and, and_false, and_true, not_false_eq_true, not_true_eq_false, c1, c2]
      simp [c1, c2, b2, nI_zero]
  · simp (disch := omega) only [bind_s, bd2_s, rdI_ok, rdJ_ok, rdT_ok, ixR_ok, wrI_ok, wrJ_ok, wrT_none, pfI_s, pfJ_s, pfZ_0, pfZ_1, zr_b2, nl_n, nl_s, nI_add, nI_mul, nI_sub, nI_shlm, nI_shrd, nI_or8, nI_or8r, nI_or5r, nI_and255, nI_and31, nI_and7, nI_and1, nI_andK, nI_clr, Nat.one_mul, nI_eqz, nI_eqq, nI_ltq, nI_ltz, nI_zlt, nI_nm1, nI_m2, m1_z, m1_lt0, m1_m1, b2_z, nI1_z, nI0_z, tb_0, tb_1, ite_nI, I_at, I_ne, J_at, J_ne, J_setI, I_setJ, ↓reduceIte, ltN_T, ltN_F, eqN_T, eqN_F, pow8, pow5, b2_f0, b2_t0, reduceCtorEq, Bool.false_eq_true, Bool.true_eq_false, eq_self, false_and, true_and, and_false, and_true, not_false_eq_true, not_true_eq_false, c1]
    simp [c1, b2, nI_zero]
theorem t_mayChoose (g : GX q A S x σ) {h act : Nat} (hh : h < 12) (ha : act < 7) : f_X0_mayChoose q (nI h) (nI act) σ = some (b2 (aX A S x h act && decide (act = 6 ∨ act < nH A)), σ) := by
  obtain ⟨-, -, -, ⟨v4, l4, g4, b4⟩, -⟩ := g.1 h hh
  have e := b4 act ha
  unfold f_X0_mayChoose
  simp (disch := omega) only [bind_s, bd2_s, rdI_ok, rdJ_ok, rdT_ok, ixR_ok, wrI_ok, wrJ_ok, wrT_none, pfI_s, pfJ_s, pfZ_0, pfZ_1, zr_b2, nl_n, nl_s, nI_add, nI_mul, nI_sub, nI_shlm, nI_shrd, nI_or8, nI_or8r, nI_or5r, nI_and255, nI_and31, nI_and7, nI_and1, nI_andK, nI_clr, Nat.one_mul, nI_eqz, nI_eqq, nI_ltq, nI_ltz, nI_zlt, nI_nm1, nI_m2, m1_z, m1_lt0, m1_m1, b2_z, nI1_z, nI0_z, tb_0, tb_1, ite_nI, I_at, I_ne, J_at, J_ne, J_setI, I_setJ, ↓reduceIte, ltN_T, ltN_F, eqN_T, eqN_F, pow8, pow5, b2_f0, b2_t0, reduceCtorEq, Bool.false_eq_true, Bool.true_eq_false, eq_self, false_and, true_and, and_false, and_true, not_false_eq_true, not_true_eq_false, g4, e]
  cases aX A S x h act && decide (act = 6 ∨ act < nH A)
  · simp (disch := omega) only [bind_s, bd2_s, rdI_ok, rdJ_ok, rdT_ok, ixR_ok, wrI_ok, wrJ_ok, wrT_none, pfI_s, pfJ_s, pfZ_0, pfZ_1, zr_b2, nl_n, nl_s, nI_add, nI_mul, nI_sub, nI_shlm, nI_shrd, nI_or8, nI_or8r, nI_or5r, nI_and255, nI_and31, nI_and7, nI_and1, nI_andK, nI_clr, Nat.one_mul, nI_eqz, nI_eqq, nI_ltq, nI_ltz, nI_zlt, nI_nm1, nI_m2, m1_z, m1_lt0, m1_m1, b2_z, nI1_z, nI0_z, tb_0, tb_1, ite_nI, I_at, I_ne, J_at, J_ne, J_setI, I_setJ, ↓reduceIte, ltN_T, ltN_F, eqN_T, eqN_F, pow8, pow5, b2_f0, b2_t0, reduceCtorEq, Bool.false_eq_true, Bool.true_eq_false, eq_self, false_and, true_and, and_false, and_true, not_false_eq_true, not_true_eq_false, b2_0]
  · simp (disch := omega) only [bind_s, bd2_s, rdI_ok, rdJ_ok, rdT_ok, ixR_ok, wrI_ok, wrJ_ok, wrT_none, pfI_s, pfJ_s, pfZ_0, pfZ_1, zr_b2, nl_n, nl_s, nI_add, nI_mul, nI_sub, nI_shlm, nI_shrd, nI_or8, nI_or8r, nI_or5r, nI_and255, nI_and31, nI_and7, nI_and1, nI_andK, nI_clr, Nat.one_mul, nI_eqz, nI_eqq, nI_ltq, nI_ltz, nI_zlt, nI_nm1, nI_m2, m1_z, m1_lt0, m1_m1, b2_z, nI1_z, nI0_z, tb_0, tb_1, ite_nI, I_at, I_ne, J_at, J_ne, J_setI, I_setJ, ↓reduceIte, ltN_T, ltN_F, eqN_T, eqN_F, pow8, pow5, b2_f0, b2_t0, reduceCtorEq, Bool.false_eq_true, Bool.true_eq_false, eq_self, false_and, true_and, and_false, and_true, not_false_eq_true, not_true_eq_false, b2_1]
theorem t_costOf (a : AOK A) (c : CR 2 A σ) (g : GX q A S x σ) {h act : Nat} (hh : h < 12) (ha : act < 7) (hx : aX A S x h act = true) : f_X0_costOf q (nI h) (nI act) σ = some (nI (cst A S x h act), σ) := by
  obtain ⟨-, -, -, -, ⟨v5, l5, g5, b5⟩, -⟩ := g.1 h hh
  have h0 := c.1.2.1
  have hH := a.1.2.1
  unfold f_X0_costOf cst
  by_cases hn : act < nH A
  · have e := b5 act hn hx
    have ep := (c.2.2.2.1 act hn).2.2.2.2.1
    have hp := (a.2.2.2.1 act hn).1
    simp (disch := omega) only [bind_s, bd2_s, rdI_ok, rdJ_ok, rdT_ok, ixR_ok, wrI_ok, wrJ_ok, wrT_none, pfI_s, pfJ_s, pfZ_0, pfZ_1, zr_b2, nl_n, nl_s, nI_add, nI_mul, nI_sub, nI_shlm, nI_shrd, nI_or8, nI_or8r, nI_or5r, nI_and255, nI_and31, nI_and7, nI_and1, nI_andK, nI_clr, Nat.one_mul, nI_eqz, nI_eqq, nI_ltq, nI_ltz, nI_zlt, nI_nm1, nI_m2, m1_z, m1_lt0, m1_m1, b2_z, nI1_z, nI0_z, tb_0, tb_1, ite_nI, I_at, I_ne, J_at, J_ne, J_setI, I_setJ, ↓reduceIte, ltN_T, ltN_F, eqN_T, eqN_F, pow8, pow5, b2_f0, b2_t0, reduceCtorEq, Bool.false_eq_true, Bool.true_eq_false, eq_self, false_and, true_and, and_false, and_true, not_false_eq_true, not_true_eq_false, h0, g5, e, hn, f_X0_costOf_29, f_X0_costOf_24]
    cases sX A S x h
    · simp (disch := omega) only [bind_s, bd2_s, rdI_ok, rdJ_ok, rdT_ok, ixR_ok, wrI_ok, wrJ_ok, wrT_none, pfI_s, pfJ_s, pfZ_0, pfZ_1, zr_b2, nl_n, nl_s, nI_add, nI_mul, nI_sub, nI_shlm, nI_shrd, nI_or8, nI_or8r, nI_or5r, nI_and255, nI_and31, nI_and7, nI_and1, nI_andK, nI_clr, Nat.one_mul, nI_eqz, nI_eqq, nI_ltq, nI_ltz, nI_zlt, nI_nm1, nI_m2, m1_z, m1_lt0, m1_m1, b2_z, nI1_z, nI0_z, tb_0, tb_1, ite_nI, I_at, I_ne, J_at, J_ne, J_setI, I_setJ, ↓reduceIte, ltN_T, ltN_F, eqN_T, eqN_F, pow8, pow5, b2_f0, b2_t0, reduceCtorEq, Bool.false_eq_true, Bool.true_eq_false, eq_self, false_and, true_and, and_false, and_true, not_false_eq_true, not_true_eq_false, ep]
    · simp (disch := omega) only [bind_s, bd2_s, rdI_ok, rdJ_ok, rdT_ok, ixR_ok, wrI_ok, wrJ_ok, wrT_none, pfI_s, pfJ_s, pfZ_0, pfZ_1, zr_b2, nl_n, nl_s, nI_add, nI_mul, nI_sub, nI_shlm, nI_shrd, nI_or8, nI_or8r, nI_or5r, nI_and255, nI_and31, nI_and7, nI_and1, nI_andK, nI_clr, Nat.one_mul, nI_eqz, nI_eqq, nI_ltq, nI_ltz, nI_zlt, nI_nm1, nI_m2, m1_z, m1_lt0, m1_m1, b2_z, nI1_z, nI0_z, tb_0, tb_1, ite_nI, I_at, I_ne, J_at, J_ne, J_setI, I_setJ, ↓reduceIte, ltN_T, ltN_F, eqN_T, eqN_F, pow8, pow5, b2_f0, b2_t0, reduceCtorEq, Bool.false_eq_true, Bool.true_eq_false, eq_self, false_and, true_and, and_false, and_true, not_false_eq_true, not_true_eq_false]
  · simp (disch := omega) only [bind_s, bd2_s, rdI_ok, rdJ_ok, rdT_ok, ixR_ok, wrI_ok, wrJ_ok, wrT_none, pfI_s, pfJ_s, pfZ_0, pfZ_1, zr_b2, nl_n, nl_s, nI_add, nI_mul, nI_sub, nI_shlm, nI_shrd, nI_or8, nI_or8r, nI_or5r, nI_and255, nI_and31, nI_and7, nI_and1, nI_andK, nI_clr, Nat.one_mul, nI_eqz, nI_eqq, nI_ltq, nI_ltz, nI_zlt, nI_nm1, nI_m2, m1_z, m1_lt0, m1_m1, b2_z, nI1_z, nI0_z, tb_0, tb_1, ite_nI, I_at, I_ne, J_at, J_ne, J_setI, I_setJ, ↓reduceIte, ltN_T, ltN_F, eqN_T, eqN_F, pow8, pow5, b2_f0, b2_t0, reduceCtorEq, Bool.false_eq_true, Bool.true_eq_false, eq_self, false_and, true_and, and_false, and_true, not_false_eq_true, not_true_eq_false, h0, hn, f_X0_costOf_29, f_X0_costOf_24]
theorem t_flagsAfter (a : AOK A) (g : GX q A S x σ) {h act fl : Nat} (hh : h < 12) (ha : act < 7) (hf : fl < 2 ^ nS A S) : f_X0_flagsAfter q (nI fl) (nI h) (nI act) σ = some (if (fl ||| br A S (nP A) h act) &&& du A S (nP A) h = du A S (nP A) h then nI (fl ||| br A S (nP A) h act) else -1, σ) := by
  obtain ⟨-, -, -, -, -, g6, g7⟩ := g.1 h hh
  have e6 := g6 act ha
  have h4 := S4 (S := S) a
  have hd : du A S (nP A) h < 2 ^ nS A S := du_lt _ _
  have hb : fl ||| br A S (nP A) h act < 2 ^ nS A S := Nat.or_lt_two_pow hf (br_lt _ _ _)
  have hn : (fl ||| br A S (nP A) h act) &&& du A S (nP A) h ≤ du A S (nP A) h := Nat.and_le_right
  unfold f_X0_flagsAfter
  simp (disch := omega) only [bind_s, bd2_s, rdI_ok, rdJ_ok, rdT_ok, ixR_ok, wrI_ok, wrJ_ok, wrT_none, pfI_s, pfJ_s, pfZ_0, pfZ_1, zr_b2, nl_n, nl_s, nI_add, nI_mul, nI_sub, nI_shlm, nI_shrd, nI_or8, nI_or8r, nI_or5r, nI_and255, nI_and31, nI_and7, nI_and1, nI_andK, nI_clr, Nat.one_mul, nI_eqz, nI_eqq, nI_ltq, nI_ltz, nI_zlt, nI_nm1, nI_m2, m1_z, m1_lt0, m1_m1, b2_z, nI1_z, nI0_z, tb_0, tb_1, ite_nI, I_at, I_ne, J_at, J_ne, J_setI, I_setJ, ↓reduceIte, ltN_T, ltN_F, eqN_T, eqN_F, pow8, pow5, b2_f0, b2_t0, reduceCtorEq, Bool.false_eq_true, Bool.true_eq_false, eq_self, false_and, true_and, and_false, and_true, not_false_eq_true, not_true_eq_false, e6, g7, nI_or, nI_and]
  split <;> rfl
end
