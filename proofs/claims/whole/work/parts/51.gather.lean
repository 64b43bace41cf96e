section
/-! ===== what a set of pieces asks, in the class's cells ===== -/
variable {A : AW} {σ : ST} {q S : Nat}
def GH (q : Nat) (A : AW) (S K h : Nat) (σ : ST) : Prop := σ.1 (q + 1) h = nI (nOn A S K h) ∧ σ.1 (q + 2) h = nI (nOff A S K h) ∧ (∃ v, v < 256 ∧ σ.1 (q + 3) h = nI v ∧ ∀ r, r < 8 → v.testBit r = rOK A S K h r) ∧ (∃ v, v < 128 ∧ σ.1 (q + 4) h = nI v ∧ ∀ a, a < 7 → v.testBit a = (aN A S K h a && decide (a = 6 ∨ a < nH A))) ∧ (∃ v, v < 128 ∧ σ.1 (q + 5) h = nI v ∧ ∀ a, a < 7 → v.testBit a = tN A S K h a) ∧ (∀ a, a < 7 → σ.1 (q + 6) (h * 7 + a) = nI (br A S K h a)) ∧ σ.1 (q + 7) h = nI (du A S K h)
def GA (q : Nat) (A : AW) (S K : Nat) (σ : ST) : Prop := (∀ h, h < 12 → GH q A S K h σ) ∧ σ.1 q 8 = nI (spn A S K)
/-- only these places of the cells matter -/
theorem GH_eq {K h : Nat} {s : ST} (g : GH q A S K h σ) (e : ∀ j, 1 ≤ j → j ≤ 7 → j ≠ 6 → s.1 (q + j) h = σ.1 (q + j) h) (e6 : ∀ a, a < 7 → s.1 (q + 6) (h * 7 + a) = σ.1 (q + 6) (h * 7 + a)) : GH q A S K h s := by
  obtain ⟨g1, g2, g3, g4, g5, g6, g7⟩ := g
  refine ⟨by rw [e 1 (by omega) (by omega) (by omega)]; exact g1, by rw [e 2 (by omega) (by omega) (by omega)]; exact g2, by rw [e 3 (by omega) (by omega) (by omega)]; exact g3, by rw [e 4 (by omega) (by omega) (by omega)]; exact g4, by rw [e 5 (by omega) (by omega) (by omega)]; exact g5, fun a ha => by rw [e6 a ha]; exact g6 a ha, by rw [e 7 (by omega) (by omega) (by omega)]; exact g7⟩
theorem GH_skip (a : AOK A) {K h : Nat} (hK : K < nP A) (hn : ¬ (S.testBit K = true ∧ pp A K ≤ h ∧ h ≤ pq A K)) (g : GH q A S K h σ) : GH q A S (K + 1) h σ := by
  obtain ⟨g1, g2, ⟨v3, l3, g3, b3⟩, ⟨v4, l4, g4, b4⟩, ⟨v5, l5, g5, b5⟩, g6, g7⟩ := g
  have hp := a.2.2.2.2.1 K hK
  refine ⟨?_, ?_, ⟨v3, l3, g3, fun r hr => ?_⟩, ⟨v4, l4, g4, fun x hx => ?_⟩, ⟨v5, l5, g5, fun x hx => ?_⟩, fun x hx => ?_, ?_⟩
  · rw [nOn, if_neg (fun w => hn ⟨w.1, w.2.2.2.2⟩)]; exact g1
  · rw [nOff, if_neg (fun w => hn ⟨w.1, w.2.2.2.2⟩)]; exact g2
  · rw [rOK, b3 r hr, decide_eq_false (fun w => hn ⟨w.1, w.2.2.2.1, w.2.2.2.2.1⟩)]; simp
  · rw [aN, b4 x hx, decide_eq_false (p := (S.testBit K = true ∧ _)) (fun w => hn ⟨w.1, w.2.1, w.2.2.1⟩)]; simp
  · rw [tN, b5 x hx, decide_eq_false (fun w => hn ⟨w.1, by omega, by have := hp.2.2.2.2.2.2.2.2.1 w.2.1; omega⟩)]; simp
  · rw [br, if_neg (fun w => hn ⟨w.1, w.2.2.1, w.2.2.2.1⟩)]; exact g6 x hx
  · rw [du, if_neg (fun w => hn ⟨w.1, by omega, by omega⟩)]; exact g7
theorem t_fill (a0 n0 : Nat) (v : Int32) (σ : ST) (hn : n0 < 10000) : ∃ s, f_J7_fill_53178 a0 n0 v σ = some s ∧ Fr (fun x => x = a0) σ s ∧ ∀ j, j < n0 → s.1 a0 j = v := by
  unfold f_J7_fill_53178
  refine loopE (fun n i s => f_J7_fill_53178_5 a0 n0 n v (nI i) (nI n0) s) n0 (fun i s => Fr (fun x => x = a0) σ s ∧ ∀ j, j < i → s.1 a0 j = v) (fun s => some s) ?_ ?_ FU 0 σ (by rw [FU_eq]; omega) (by omega) ⟨Fr.rf _ _, fun j h => by omega⟩
  · rintro n i s hi ⟨hF, hv⟩ Q hQ
    show ∃ y, f_J7_fill_53178_5 a0 n0 (n + 1) v (nI i) (nI n0) s = f_J7_fill_53178_5 a0 n0 n v (nI (i + 1)) (nI n0) y ∧ _
    rw [f_J7_fill_53178_5]
    simp (disch := omega) only [bind_s, bd2_s, rdI_ok, rdJ_ok, rdT_ok, ixR_ok, wrI_ok, wrJ_ok, wrT_none, pfI_s, pfJ_s, pfZ_0, pfZ_1, zr_b2, nl_n, nl_s, nI_add, nI_mul, nI_sub, nI_shlm, nI_shrd, nI_or8, nI_or8r, nI_or5r, nI_and255, nI_and31, nI_and7, nI_and1, nI_andK, nI_clr, Nat.one_mul, nI_eqz, nI_eqq, nI_ltq, nI_ltz, nI_zlt, nI_nm1, nI_m2, m1_z, m1_lt0, m1_m1, b2_z, nI1_z, nI0_z, tb_0, tb_1, ite_nI, I_at, I_ne, J_at, J_ne, J_setI, I_setJ, ↓reduceIte, ltN_T, ltN_F, eqN_T, eqN_F, pow8, pow5, b2_f0, b2_t0, reduceCtorEq, Bool.false_eq_true, Bool.true_eq_false, eq_self, false_and, true_and, and_false, and_true, not_false_eq_true, not_true_eq_false]
    refine ⟨_, rfl, hQ _ ⟨hF.tr (Fr_setI rfl), fun j hj => ?_⟩⟩
    by_cases e : j = i
    · subst e; rw [I_at]
    · rw [I_ne (Or.inr (by omega))]; exact hv j (by omega)
  · rintro n s -
    show f_J7_fill_53178_5 a0 n0 (n + 1) v (nI n0) (nI n0) s = _
    rw [f_J7_fill_53178_5]
    simp (disch := omega) only [bind_s, bd2_s, rdI_ok, rdJ_ok, rdT_ok, ixR_ok, wrI_ok, wrJ_ok, wrT_none, pfI_s, pfJ_s, pfZ_0, pfZ_1, zr_b2, nl_n, nl_s, nI_add, nI_mul, nI_sub, nI_shlm, nI_shrd, nI_or8, nI_or8r, nI_or5r, nI_and255, nI_and31, nI_and7, nI_and1, nI_andK, nI_clr, Nat.one_mul, nI_eqz, nI_eqq, nI_ltq, nI_ltz, nI_zlt, nI_nm1, nI_m2, m1_z, m1_lt0, m1_m1, b2_z, nI1_z, nI0_z, tb_0, tb_1, ite_nI, I_at, I_ne, J_at, J_ne, J_setI, I_setJ, ↓reduceIte, ltN_T, ltN_F, eqN_T, eqN_F, pow8, pow5, b2_f0, b2_t0, reduceCtorEq, Bool.false_eq_true, Bool.true_eq_false, eq_self, false_and, true_and, and_false, and_true, not_false_eq_true, not_true_eq_false]
/-! what a piece leaves as it is -/
theorem nOn_o {K h : Nat} (hk : pk A K ≠ 2) : nOn A S (K + 1) h = nOn A S K h := by rw [nOn, if_neg (fun w => hk w.2.1)]
theorem nOff_o {K h : Nat} (hk : pk A K ≠ 2) : nOff A S (K + 1) h = nOff A S K h := by rw [nOff, if_neg (fun w => hk w.2.1)]
theorem rOK_o {K h r : Nat} (hk : pk A K ≠ 2) : rOK A S (K + 1) h r = rOK A S K h r := by rw [rOK, decide_eq_false (fun w => hk w.2.1)]; simp
theorem aN_o {K h x : Nat} (h0 : pk A K ≠ 0) (h3 : pk A K ≠ 3) : aN A S (K + 1) h x = aN A S K h x := by
  rw [aN, decide_eq_false (fun w => by rcases w.2.2.2 with q | q; exact h0 q.1; exact h3 q.1)]; simp
theorem tN_o {K h x : Nat} (h0 : pk A K ≠ 0) : tN A S (K + 1) h x = tN A S K h x := by rw [tN, decide_eq_false (fun w => h0 w.2.1)]; simp
theorem br_o {K h x : Nat} (h1 : pk A K ≠ 1) : br A S (K + 1) h x = br A S K h x := by rw [br, if_neg (fun w => h1 w.2.1)]
theorem du_o {K h : Nat} (h1 : pk A K ≠ 1) : du A S (K + 1) h = du A S K h := by rw [du, if_neg (fun w => h1 w.2.1)]
theorem spn_o {K : Nat} (h1 : pk A K ≠ 1) : spn A S (K + 1) = spn A S K := by rw [spn, if_neg (fun w => h1 w.2)]
/-- one piece more: WAS -/
theorem t_addWas (a : AOK A) (hq : q = 205 ∨ q = 221) (c : CR 2 A σ) {K p : Nat} (hK : K < nP A) (hS : S.testBit K = true) (hk : pk A K = 2) (o : PO σ p K A) (g : GA q A S K σ) : ∃ s, f_X0_addWas q p σ = some s ∧ Fr (fun x => q ≤ x ∧ x ≤ q + 7) σ s ∧ GA q A S (K + 1) s := by
  obtain ⟨p1, p2, p3, p4, p5, p6, p7, p8, p9, p10⟩ := a.2.2.2.2.1 K hK
  have hpo := p7 hk
  have hnt := a.1.1
  obtain ⟨o1, -, -, o2, o3, o4, o5, -⟩ := id o
  have ek := (c.2.1 _ hpo).1
  have hk3 := a.2.1 _ hpo
  have hsp : spn A S (K + 1) = spn A S K := spn_o (by omega)
  have loop : ∀ z : Nat, (z = if kd A (po A K) = 3 then 1 else 0) → ∃ s, f_X0_addWas_27 q FU p (nI z) (nI (pp A K)) σ = some s ∧ Fr (fun x => q ≤ x ∧ x ≤ q + 7) σ s ∧ GA q A S (K + 1) s := by
    intro z hz
    refine Exists.elim (loopE (fun n i s => f_X0_addWas_27 q n p (nI z) (nI i) s) (pq A K + 1) (fun i s => pp A K ≤ i ∧ Fr (fun x => q < x ∧ x ≤ q + 7) σ s ∧ (∀ h, h < 12 → GH q A S (if h < i then K + 1 else K) h s) ∧ s.1 q 8 = nI (spn A S (K + 1))) (fun s => some s) ?_ ?_ FU (pp A K) σ (by rw [FU_eq]; omega) (by omega) ⟨Nat.le_refl _, Fr.rf _ _, fun h hh => ?_, by rw [hsp]; exact g.2⟩) ?_
    · rintro n i s hi ⟨hpi, hF, hg, hs8⟩ Q hQ
      have o' := PO_sm o (funext fun j => hF.I (x := p) (by omega) j) ⟨[], by rw [hF.2, List.append_nil]⟩
      obtain ⟨-, -, -, q2, q3, q4, q5, -⟩ := id o'
      have gi := hg i (by omega)
      rw [if_neg (by omega)] at gi
      obtain ⟨g1, g2, ⟨v3, l3, g3, b3⟩, ⟨v4, l4, g4, b4⟩, ⟨v5, l5, g5, b5⟩, g6, g7⟩ := gi
      have rest : ∀ (cc : Nat) (v' : Int32), 1 ≤ cc → cc ≤ 3 → GH q A S (K + 1) i (setI s (q + cc) i v') → ((∀ h, h < 12 → GH q A S (if h < i + 1 then K + 1 else K) h (setI s (q + cc) i v')) ∧ (setI s (q + cc) i v').1 q 8 = nI (spn A S (K + 1))) := by
        intro cc v' hc1 hc2 hG
        refine ⟨fun h hh => ?_, by rw [I_ne (Or.inl (by omega))]; exact hs8⟩
        by_cases e : h = i
        · subst e; rw [if_pos (by omega)]; exact hG
        · have := hg h hh
          rw [show (if h < i + 1 then K + 1 else K) = if h < i then K + 1 else K by split <;> split <;> omega]
          exact GH_eq this (fun j _ _ _ => I_ne (Or.inr (by omega))) (fun x _ => I_ne (Or.inl (by omega)))
      show ∃ y, f_X0_addWas_27 q (n + 1) p (nI z) (nI i) s = f_X0_addWas_27 q n p (nI z) (nI (i + 1)) y ∧ _
      rw [f_X0_addWas_27]
      by_cases e3 : kd A (po A K) = 3
      · rw [if_pos e3] at hz
        subst hz
        simp (disch := omega) only [bind_s, bd2_s, rdI_ok, rdJ_ok, rdT_ok, ixR_ok, wrI_ok, wrJ_ok, wrT_none, pfI_s, pfJ_s, pfZ_0, pfZ_1, zr_b2, nl_n, nl_s, nI_add, nI_mul, nI_sub, nI_shlm, nI_shrd, nI_or8, nI_or8r, nI_or5r, nI_and255, nI_and31, nI_and7, nI_and1, nI_andK, nI_clr, Nat.one_mul, nI_eqz, nI_eqq, nI_ltq, nI_ltz, nI_zlt, nI_nm1, nI_m2, m1_z, m1_lt0, m1_m1, b2_z, nI1_z, nI0_z, tb_0, tb_1, ite_nI, I_at, I_ne, J_at, J_ne, J_setI, I_setJ, ↓reduceIte, ltN_T, ltN_F, eqN_T, eqN_F, pow8, pow5, b2_f0, b2_t0, reduceCtorEq, Bool.false_eq_true, Bool.true_eq_false, eq_self, false_and, true_and, and_false, and_true, not_false_eq_true, not_true_eq_false, PO_rd o', q2, q4, q5, g3, nI_and]
        refine ⟨_, rfl, hQ _ ⟨by omega, hF.tr (Fr_setI (by omega)), rest 3 _ (by omega) (by omega) ⟨?_, ?_, ⟨v3 &&& 2 ^ pv A K, Nat.lt_of_le_of_lt Nat.and_le_left l3, by rw [I_at], fun r hr => ?_⟩, ⟨v4, l4, by rw [I_ne (Or.inl (by omega))]; exact g4, fun x hx => by rw [aN_o (by omega) (by omega)]; exact b4 x hx⟩, ⟨v5, l5, by rw [I_ne (Or.inl (by omega))]; exact g5, fun x hx => by rw [tN_o (by omega)]; exact b5 x hx⟩, fun x hx => by rw [I_ne (Or.inl (by omega)), br_o (by omega)]; exact g6 x hx, by rw [I_ne (Or.inl (by omega)), du_o (by omega)]; exact g7⟩⟩⟩
        · rw [I_ne (Or.inl (by omega)), nOn, if_neg (fun w => w.2.2.1 e3)]; exact g1
        · rw [I_ne (Or.inl (by omega)), nOff, if_neg (fun w => w.2.2.1 e3)]; exact g2
        · rw [and_tb, b3 r hr, rOK]
          congr 1
          by_cases e : pv A K = r
          · rw [decide_eq_true e, decide_eq_false (fun w => w.2.2.2.2.2 e.symm)]; rfl
          · rw [decide_eq_false e, decide_eq_true ⟨hS, hk, e3, by omega, by omega, fun w => e w.symm⟩]; rfl
      · rw [if_neg e3] at hz
        subst hz
        have b3' : ∀ r, r < 8 → v3.testBit r = rOK A S (K + 1) i r := fun r hr => by
          rw [b3 r hr, rOK, decide_eq_false (fun w => e3 w.2.2.1)]; simp
        by_cases ev : pv A K = 1
        · simp (disch := omega) only [bind_s, bd2_s, rdI_ok, rdJ_ok, rdT_ok, ixR_ok, wrI_ok, wrJ_ok, wrT_none, pfI_s, pfJ_s, pfZ_0, pfZ_1, zr_b2, nl_n, nl_s, nI_add, nI_mul, nI_sub, nI_shlm, nI_shrd, nI_or8, nI_or8r, nI_or5r, nI_and255, nI_and31, nI_and7, nI_and1, nI_andK, nI_clr, Nat.one_mul, nI_eqz, nI_eqq, nI_ltq, nI_ltz, nI_zlt, nI_nm1, nI_m2, m1_z, m1_lt0, m1_m1, b2_z, nI1_z, nI0_z, tb_0, tb_1, ite_nI, I_at, I_ne, J_at, J_ne, J_setI, I_setJ, ↓reduceIte, ltN_T, ltN_F, eqN_T, eqN_F, pow8, pow5, b2_f0, b2_t0, reduceCtorEq, Bool.false_eq_true, Bool.true_eq_false, eq_self, false_and, true_and, and_false, and_true, not_false_eq_true, not_true_eq_false, PO_rd o', q2, q4, q5, g1, ev, nI_or]
          refine ⟨_, rfl, hQ _ ⟨by omega, hF.tr (Fr_setI (by omega)), rest 1 _ (by omega) (by omega) ⟨?_, ?_, ⟨v3, l3, by rw [I_ne (Or.inl (by omega))]; exact g3, b3'⟩, ⟨v4, l4, by rw [I_ne (Or.inl (by omega))]; exact g4, fun x hx => by rw [aN_o (by omega) (by omega)]; exact b4 x hx⟩, ⟨v5, l5, by rw [I_ne (Or.inl (by omega))]; exact g5, fun x hx => by rw [tN_o (by omega)]; exact b5 x hx⟩, fun x hx => by rw [I_ne (Or.inl (by omega)), br_o (by omega)]; exact g6 x hx, by rw [I_ne (Or.inl (by omega)), du_o (by omega)]; exact g7⟩⟩⟩
          · rw [I_at, nOn, if_pos ⟨hS, hk, e3, ev, by omega, by omega⟩]
          · rw [I_ne (Or.inl (by omega)), nOff, if_neg (fun w => w.2.2.2.1 ev)]; exact g2
        · simp (disch := omega) only [bind_s, bd2_s, rdI_ok, rdJ_ok, rdT_ok, ixR_ok, wrI_ok, wrJ_ok, wrT_none, pfI_s, pfJ_s, pfZ_0, pfZ_1, zr_b2, nl_n, nl_s, nI_add, nI_mul, nI_sub, nI_shlm, nI_shrd, nI_or8, nI_or8r, nI_or5r, nI_and255, nI_and31, nI_and7, nI_and1, nI_andK, nI_clr, Nat.one_mul, nI_eqz, nI_eqq, nI_ltq, nI_ltz, nI_zlt, nI_nm1, nI_m2, m1_z, m1_lt0, m1_m1, b2_z, nI1_z, nI0_z, tb_0, tb_1, ite_nI, I_at, I_ne, J_at, J_ne, J_setI, I_setJ, ↓reduceIte, ltN_T, ltN_F, eqN_T, eqN_F, pow8, pow5, b2_f0, b2_t0, reduceCtorEq, Bool.false_eq_true, Bool.true_eq_false, eq_self, false_and, true_and, and_false, and_true, not_false_eq_true, not_true_eq_false, PO_rd o', q2, q4, q5, g2, ev, nI_or]
          refine ⟨_, rfl, hQ _ ⟨by omega, hF.tr (Fr_setI (by omega)), rest 2 _ (by omega) (by omega) ⟨?_, ?_, ⟨v3, l3, by rw [I_ne (Or.inl (by omega))]; exact g3, b3'⟩, ⟨v4, l4, by rw [I_ne (Or.inl (by omega))]; exact g4, fun x hx => by rw [aN_o (by omega) (by omega)]; exact b4 x hx⟩, ⟨v5, l5, by rw [I_ne (Or.inl (by omega))]; exact g5, fun x hx => by rw [tN_o (by omega)]; exact b5 x hx⟩, fun x hx => by rw [I_ne (Or.inl (by omega)), br_o (by omega)]; exact g6 x hx, by rw [I_ne (Or.inl (by omega)), du_o (by omega)]; exact g7⟩⟩⟩
          · rw [I_ne (Or.inl (by omega)), nOn, if_neg (fun w => ev w.2.2.2.1)]; exact g1
          · rw [I_at, nOff, if_pos ⟨hS, hk, e3, ev, by omega, by omega⟩]
    · rintro n s ⟨-, hF, -, -⟩
      have o' := PO_sm o (funext fun j => hF.I (x := p) (by omega) j) ⟨[], by rw [hF.2, List.append_nil]⟩
      obtain ⟨-, -, -, q2, q3, q4, q5, -⟩ := id o'
      show f_X0_addWas_27 q (n + 1) p (nI z) (nI (pq A K + 1)) s = _
      rw [f_X0_addWas_27]
      simp (disch := omega) only [bind_s, bd2_s, rdI_ok, rdJ_ok, rdT_ok, ixR_ok, wrI_ok, wrJ_ok, wrT_none, pfI_s, pfJ_s, pfZ_0, pfZ_1, zr_b2, nl_n, nl_s, nI_add, nI_mul, nI_sub, nI_shlm, nI_shrd, nI_or8, nI_or8r, nI_or5r, nI_and255, nI_and31, nI_and7, nI_and1, nI_andK, nI_clr, Nat.one_mul, nI_eqz, nI_eqq, nI_ltq, nI_ltz, nI_zlt, nI_nm1, nI_m2, m1_z, m1_lt0, m1_m1, b2_z, nI1_z, nI0_z, tb_0, tb_1, ite_nI, I_at, I_ne, J_at, J_ne, J_setI, I_setJ, ↓reduceIte, ltN_T, ltN_F, eqN_T, eqN_F, pow8, pow5, b2_f0, b2_t0, reduceCtorEq, Bool.false_eq_true, Bool.true_eq_false, eq_self, false_and, true_and, and_false, and_true, not_false_eq_true, not_true_eq_false, PO_rd o', q4]
    · by_cases e : h < pp A K
      · rw [if_pos e]; exact GH_skip a hK (fun w => by omega) (g.1 h hh)
      · rw [if_neg e]; exact g.1 h hh
    · rintro s ⟨e, -, i1, i2, i3⟩
      refine ⟨s, e, i1.mono (fun x hx => by omega), fun h hh => ?_, i3⟩
      have := i2 h hh
      by_cases e : h < pq A K + 1
      · rwa [if_pos e] at this
      · rw [if_neg e] at this
        exact GH_skip a hK (fun w => by omega) this
  unfold f_X0_addWas f_X0_addWas_21
  by_cases e3 : kd A (po A K) = 3
  · have := loop 1 (by rw [if_pos e3])
    simp (disch := omega) only [bind_s, bd2_s, rdI_ok, rdJ_ok, rdT_ok, ixR_ok, wrI_ok, wrJ_ok, wrT_none, pfI_s, pfJ_s, pfZ_0, pfZ_1, zr_b2, nl_n, nl_s, nI_add, nI_mul, nI_sub, nI_shlm, nI_shrd, nI_or8, nI_or8r, nI_or5r, nI_and255, nI_and31, nI_and7, nI_and1, nI_andK, nI_clr, Nat.one_mul, nI_eqz, nI_eqq, nI_ltq, nI_ltz, nI_zlt, nI_nm1, nI_m2, m1_z, m1_lt0, m1_m1, b2_z, nI1_z, nI0_z, tb_0, tb_1, ite_nI, I_at, I_ne, J_at, J_ne, J_setI, I_setJ, ↓reduceIte, ltN_T, ltN_F, eqN_T, eqN_F, pow8, pow5, b2_f0, b2_t0, reduceCtorEq, Bool.false_eq_true, Bool.true_eq_false, eq_self, false_and, true_and, and_false, and_true, not_false_eq_true, not_true_eq_false, PO_rd o, o2, o3, ek, e3]
    exact this
  · have := loop 0 (by rw [if_neg e3])
    simp (disch := omega) only [bind_s, bd2_s, rdI_ok, rdJ_ok, rdT_ok, ixR_ok, wrI_ok, wrJ_ok, wrT_none, pfI_s, pfJ_s, pfZ_0, pfZ_1, zr_b2, nl_n, nl_s, nI_add, nI_mul, nI_sub, nI_shlm, nI_shrd, nI_or8, nI_or8r, nI_or5r, nI_and255, nI_and31, nI_and7, nI_and1, nI_andK, nI_clr, Nat.one_mul, nI_eqz, nI_eqq, nI_ltq, nI_ltz, nI_zlt, nI_nm1, nI_m2, m1_z, m1_lt0, m1_m1, b2_z, nI1_z, nI0_z, tb_0, tb_1, ite_nI, I_at, I_ne, J_at, J_ne, J_setI, I_setJ, ↓reduceIte, ltN_T, ltN_F, eqN_T, eqN_F, pow8, pow5, b2_f0, b2_t0, reduceCtorEq, Bool.false_eq_true, Bool.true_eq_false, eq_self, false_and, true_and, and_false, and_true, not_false_eq_true, not_true_eq_false, PO_rd o, o2, o3, ek, e3]
    exact this
end
