section
/-! ===== what a set of pieces asks: the other kinds, and all of them ===== -/
variable {A : AW} {σ : ST} {q S : Nat}
theorem PO_fr {W : Nat → Prop} {s : ST} {p k : Nat} (o : PO σ p k A) (hF : Fr W σ s) (h : ¬ W p) : PO s p k A := PO_sm o (funext fun j => hF.I h j) ⟨[], by rw [hF.2, List.append_nil]⟩
theorem t_addNever (a : AOK A) (hq : q = 205 ∨ q = 221) {K p : Nat} (hK : K < nP A) (hS : S.testBit K = true) (hk : pk A K = 3) (o : PO σ p K A) (g : GA q A S K σ) : ∃ s, f_X0_add_53 q FU p (nI (pp A K)) σ = some s ∧ Fr (fun x => q ≤ x ∧ x ≤ q + 7) σ s ∧ GA q A S (K + 1) s := by
  obtain ⟨p1, p2, p3, p4, p5, p6, p7, p8, p9, p10⟩ := a.2.2.2.2.1 K hK
  have hpo := p8 (by omega)
  have hnt := a.1.2.1
  have hp0 := o.1.1
  have hsp : spn A S (K + 1) = spn A S K := spn_o (by omega)
  refine Exists.elim (loopE (fun n i s => f_X0_add_53 q n p (nI i) s) (pq A K + 1) (fun i s => pp A K ≤ i ∧ Fr (fun x => q < x ∧ x ≤ q + 7) σ s ∧ (∀ h, h < 12 → GH q A S (if h < i then K + 1 else K) h s) ∧ s.1 q 8 = nI (spn A S (K + 1))) (fun s => some s) ?_ ?_ FU (pp A K) σ (by rw [FU_eq]; omega) (by omega) ⟨Nat.le_refl _, Fr.rf _ _, fun h hh => ?_, by rw [hsp]; exact g.2⟩) ?_
  · rintro n i s hi ⟨hpi, hF, hg, hs8⟩ Q hQ
    have o' := PO_fr o hF (by omega)
    obtain ⟨-, -, -, q2, q3, q4, q5, -⟩ := id o'
    have gi := hg i (by omega)
    rw [if_neg (by omega)] at gi
    obtain ⟨g1, g2, ⟨v3, l3, g3, b3⟩, ⟨v4, l4, g4, b4⟩, ⟨v5, l5, g5, b5⟩, g6, g7⟩ := gi
    show ∃ y, f_X0_add_53 q (n + 1) p (nI i) s = f_X0_add_53 q n p (nI (i + 1)) y ∧ _
    rw [f_X0_add_53]
    simp (disch := omega) only [bind_s, bd2_s, rdI_ok, rdJ_ok, rdT_ok, ixR_ok, wrI_ok, wrJ_ok, wrT_none, pfI_s, pfJ_s, pfZ_0, pfZ_1, zr_b2, nl_n, nl_s, nI_add, nI_mul, nI_sub, nI_shlm, nI_shrd, nI_or8, nI_or8r, nI_or5r, nI_and255, nI_and31, nI_and7, nI_and1, nI_andK, nI_clr, Nat.one_mul, nI_eqz, nI_eqq, nI_ltq, nI_ltz, nI_zlt, nI_nm1, nI_m2, m1_z, m1_lt0, m1_m1, b2_z, nI1_z, nI0_z, tb_0, tb_1, ite_nI, I_at, I_ne, J_at, J_ne, J_setI, I_setJ, ↓reduceIte, ltN_T, ltN_F, eqN_T, eqN_F, pow8, pow5, b2_f0, b2_t0, reduceCtorEq, Bool.false_eq_true, Bool.true_eq_false, eq_self, false_and, true_and, and_false, and_true, not_false_eq_true, not_true_eq_false, PO_rd o', q2, q4, g4]
    refine ⟨_, rfl, hQ _ ⟨by omega, hF.tr (Fr_setI (by omega)), fun h hh => ?_, by rw [I_ne (Or.inl (by omega))]; exact hs8⟩⟩
    by_cases e : h = i
    · subst e
      rw [if_pos (by omega)]
      refine ⟨by rw [I_ne (Or.inl (by omega)), nOn_o (by omega)]; exact g1, by rw [I_ne (Or.inl (by omega)), nOff_o (by omega)]; exact g2, ⟨v3, l3, by rw [I_ne (Or.inl (by omega))]; exact g3, fun r hr => by rw [rOK_o (by omega)]; exact b3 r hr⟩, ⟨v4 &&& (2 ^ po A K ^^^ 4294967295), Nat.lt_of_le_of_lt (clr_le _ _) l4, by rw [I_at], fun x hx => ?_⟩, ⟨v5, l5, by rw [I_ne (Or.inl (by omega))]; exact g5, fun x hx => by rw [tN_o (by omega)]; exact b5 x hx⟩, fun x hx => by rw [I_ne (Or.inl (by omega)), br_o (by omega)]; exact g6 x hx, by rw [I_ne (Or.inl (by omega)), du_o (by omega)]; exact g7⟩
      rw [clr_tb (by omega), b4 x hx, aN]
      by_cases e : x = po A K
      · rw [decide_eq_true e.symm, decide_eq_true (p := (S.testBit K = true ∧ _)) ⟨hS, by omega, by omega, Or.inr ⟨hk, e⟩⟩]; simp
      · rw [decide_eq_false (p := po A K = x) (fun w => e w.symm), decide_eq_false (p := (S.testBit K = true ∧ _)) (fun w => by rcases w.2.2.2 with w | w; omega; exact e w.2)]; simp
    · have := hg h hh
      rw [show (if h < i + 1 then K + 1 else K) = if h < i then K + 1 else K by split <;> split <;> omega]
      exact GH_eq this (fun j _ _ _ => I_ne (Or.inr (by omega))) (fun x _ => I_ne (Or.inl (by omega)))
  · rintro n s ⟨-, hF, -, -⟩
    have o' := PO_fr o hF (by omega)
    obtain ⟨-, -, -, q2, q3, q4, q5, -⟩ := id o'
    show f_X0_add_53 q (n + 1) p (nI (pq A K + 1)) s = _
    rw [f_X0_add_53]
    simp (disch := omega) only [bind_s, bd2_s, rdI_ok, rdJ_ok, rdT_ok, ixR_ok, wrI_ok, wrJ_ok, wrT_none, pfI_s, pfJ_s, pfZ_0, pfZ_1, zr_b2, nl_n, nl_s, nI_add, nI_mul, nI_sub, nI_shlm, nI_shrd, nI_or8, nI_or8r, nI_or5r, nI_and255, nI_and31, nI_and7, nI_and1, nI_andK, nI_clr, Nat.one_mul, nI_eqz, nI_eqq, nI_ltq, nI_ltz, nI_zlt, nI_nm1, nI_m2, m1_z, m1_lt0, m1_m1, b2_z, nI1_z, nI0_z, tb_0, tb_1, ite_nI, I_at, I_ne, J_at, J_ne, J_setI, I_setJ, ↓reduceIte, ltN_T, ltN_F, eqN_T, eqN_F, pow8, pow5, b2_f0, b2_t0, reduceCtorEq, Bool.false_eq_true, Bool.true_eq_false, eq_self, false_and, true_and, and_false, and_true, not_false_eq_true, not_true_eq_false, PO_rd o', q4]
  · by_cases e : h < pp A K
    · rw [if_pos e]; exact GH_skip a hK (fun w => by omega) (g.1 h hh)
    · rw [if_neg e]; exact g.1 h hh
  · rintro s ⟨e, -, i1, i2, i3⟩
    refine ⟨s, e, i1.mono (fun x hx => by omega), fun h hh => ?_, i3⟩
    have := i2 h hh
    by_cases e : h < pq A K + 1
    · rwa [if_pos e] at this
    · rw [if_neg e] at this
      exact GH_skip a hK (fun w => by omega) this
/-- a happening seen in an hour -/
theorem t_addSeen (hq : q = 205 ∨ q = 221) {h act v4 v5 : Nat} (hh : h < 12) (ha : act < 6) (e4 : σ.1 (q + 4) h = nI v4) (e5 : σ.1 (q + 5) h = nI v5) : f_X0_addSeen q (nI act) (nI h) σ = some (setI (setI σ (q + 4) h (nI (v4 &&& 2 ^ act))) (q + 5) h (nI (v5 ||| 2 ^ act))) := by
  unfold f_X0_addSeen
  simp (disch := omega) only [bind_s, bd2_s, rdI_ok, rdJ_ok, rdT_ok, ixR_ok, wrI_ok, wrJ_ok, wrT_none, pfI_s, pfJ_s, pfZ_0, pfZ_1, zr_b2, nl_n, nl_s, nI_add, nI_mul, nI_sub, nI_shlm, nI_shrd, nI_or8, nI_or8r, nI_or5r, nI_and255, nI_and31, nI_and7, nI_and1, nI_andK, nI_clr, Nat.one_mul, nI_eqz, nI_eqq, nI_ltq, nI_ltz, nI_zlt, nI_nm1, nI_m2, m1_z, m1_lt0, m1_m1, b2_z, nI1_z, nI0_z, tb_0, tb_1, ite_nI, I_at, I_ne, J_at, J_ne, J_setI, I_setJ, ↓reduceIte, ltN_T, ltN_F, eqN_T, eqN_F, pow8, pow5, b2_f0, b2_t0, reduceCtorEq, Bool.false_eq_true, Bool.true_eq_false, eq_self, false_and, true_and, and_false, and_true, not_false_eq_true, not_true_eq_false, e4, e5, nI_and, nI_or]
theorem t_addSeenP (a : AOK A) (hq : q = 205 ∨ q = 221) {K p : Nat} (hK : K < nP A) (hS : S.testBit K = true) (hk : pk A K = 0) (g : GA q A S K σ) : ∃ s, f_X0_addSeen q (nI (po A K)) (nI (pp A K)) σ = some s ∧ Fr (fun x => q ≤ x ∧ x ≤ q + 7) σ s ∧ GA q A S (K + 1) s := by
  obtain ⟨p1, p2, p3, p4, p5, p6, p7, p8, p9, p10⟩ := a.2.2.2.2.1 K hK
  have hpo := p8 (by omega)
  have hpp := p9 hk
  have hnt := a.1.2.1
  have hsp : spn A S (K + 1) = spn A S K := spn_o (by omega)
  obtain ⟨g1, g2, ⟨v3, l3, g3, b3⟩, ⟨v4, l4, g4, b4⟩, ⟨v5, l5, g5, b5⟩, g6, g7⟩ := g.1 (pp A K) (by omega)
  refine ⟨_, t_addSeen hq (by omega) (by omega) g4 g5, (Fr_setI (by omega)).tr (Fr_setI (by omega)), fun h hh => ?_, ?_⟩
  · by_cases e : h = pp A K
    · subst e
      have p64 : 2 ^ po A K < 128 := Nat.lt_of_lt_of_le (Nat.pow_lt_pow_right (by omega) (show po A K < 7 by omega)) (Nat.le_refl _)
      refine ⟨by rw [I_ne (Or.inl (by omega)), I_ne (Or.inl (by omega)), nOn_o (by omega)]; exact g1, by rw [I_ne (Or.inl (by omega)), I_ne (Or.inl (by omega)), nOff_o (by omega)]; exact g2, ⟨v3, l3, by rw [I_ne (Or.inl (by omega)), I_ne (Or.inl (by omega))]; exact g3, fun r hr => by rw [rOK_o (by omega)]; exact b3 r hr⟩, ⟨v4 &&& 2 ^ po A K, Nat.lt_of_le_of_lt Nat.and_le_left l4, by rw [I_ne (Or.inl (by omega)), I_at], fun x hx => ?_⟩, ⟨v5 ||| 2 ^ po A K, Nat.or_lt_two_pow (n := 7) l5 p64, by rw [I_at], fun x hx => ?_⟩, fun x hx => by rw [I_ne (Or.inl (by omega)), I_ne (Or.inl (by omega)), br_o (by omega)]; exact g6 x hx, by rw [I_ne (Or.inl (by omega)), I_ne (Or.inl (by omega)), du_o (by omega)]; exact g7⟩
      · rw [and_tb, b4 x hx, aN]
        by_cases e : x = po A K
        · rw [decide_eq_true e.symm, decide_eq_false (p := (S.testBit K = true ∧ _)) (fun w => by rcases w.2.2.2 with w | w; exact w.2 e; omega)]; simp
        · rw [decide_eq_false (p := po A K = x) (fun w => e w.symm), decide_eq_true (p := (S.testBit K = true ∧ _)) ⟨hS, by omega, by omega, Or.inl ⟨hk, e⟩⟩]; simp
      · rw [tb_set, b5 x hx, tN]
        congr 1
        apply decide_eq_decide.mpr
        exact ⟨fun w => ⟨hS, hk, rfl, w⟩, fun w => w.2.2.2⟩
    · exact GH_eq (GH_skip a hK (fun w => by omega) (g.1 h hh)) (fun j _ _ _ => by rw [I_ne (Or.inr (by omega)), I_ne (Or.inr (by omega))]) (fun x _ => by rw [I_ne (Or.inl (by omega)), I_ne (Or.inl (by omega))])
  · rw [I_ne (Or.inl (by omega)), I_ne (Or.inl (by omega)), hsp]; exact g.2
theorem t_addSpan (a : AOK A) (hq : q = 205 ∨ q = 221) {K p : Nat} (hK : K < nP A) (hS : S.testBit K = true) (hk : pk A K = 1) (o : PO σ p K A) (g : GA q A S K σ) : ∃ s, f_X0_addSpan q p σ = some s ∧ Fr (fun x => q ≤ x ∧ x ≤ q + 7) σ s ∧ GA q A S (K + 1) s := by
  obtain ⟨p1, p2, p3, p4, p5, p6, p7, p8, p9, p10⟩ := a.2.2.2.2.1 K hK
  have hpo := p8 (by omega)
  have hnt := a.1.2.1
  have hp0 := o.1.1
  have h2 : spn A S K < 2 := Nat.lt_of_lt_of_le (spn_lt hK ⟨hS, hk⟩) (nS_le a)
  have hsp : spn A S (K + 1) = spn A S K + 1 := by rw [spn, if_pos ⟨hS, hk⟩]
  obtain ⟨-, -, -, o2, o3, o4, o5, -⟩ := id o
  have o1' : PO (setI σ q 8 (nI (spn A S K + 1))) p K A := PO_fr o (Fr_setI (W := fun x => x = q) rfl) (by omega)
  have rd1 := PO_rd (j := 3) o1'
  have L := loopE (fun n i s => f_X0_addSpan_31 q (fun p1_7 x2_8 s9 => (rdP [6, 4, 8, 9] s9 p1_7 4).bind fun v10 => (rdI s9 (q + 7) 12 v10).bind fun v11 => (wrI s9 (q + 7) 12 v10 (v11 ||| x2_8)).bind fun s12 => some s12) n p (nI (2 ^ spn A S K)) (nI i) s) (pq A K + 1) (fun i s => pp A K ≤ i ∧ Fr (fun x => x = q ∨ x = q + 6) σ s ∧ s.1 q 8 = nI (spn A S (K + 1)) ∧ ∀ h x, h < 12 → x < 7 → s.1 (q + 6) (h * 7 + x) = nI (if pp A K ≤ h ∧ h < i ∧ x = po A K then br A S K h x ||| 2 ^ spn A S K else br A S K h x)) (fun s => (rdP [6, 4, 8, 9] s p 4).bind fun v10 => (rdI s (q + 7) 12 v10).bind fun v11 => (wrI s (q + 7) 12 v10 (v11 ||| nI (2 ^ spn A S K))).bind fun s12 => some s12) ?_ ?_ FU (pp A K) (setI σ q 8 (nI (spn A S K + 1))) (by rw [FU_eq]; omega) (by omega) ⟨Nat.le_refl _, Fr_setI (Or.inl rfl), by rw [I_at, hsp], fun h x hh hx => by rw [I_ne (Or.inl (by omega)), if_neg (fun w => by omega)]; exact (g.1 h hh).2.2.2.2.2.1 x hx⟩
  · obtain ⟨s, e, -, i1, i2, i3⟩ := L
    have o' := PO_fr o i1 (by omega)
    obtain ⟨-, -, -, q2, q3, q4, q5, -⟩ := id o'
    have hd : s.1 (q + 7) (pq A K) = nI (du A S K (pq A K)) := by rw [i1.I (by omega)]; exact (g.1 (pq A K) (by omega)).2.2.2.2.2.2
    refine ⟨setI s (q + 7) (pq A K) (nI (du A S K (pq A K) ||| 2 ^ spn A S K)), ?_, (i1.mono (fun x hx => by omega)).tr (Fr_setI (by omega)), fun h hh => ?_, by rw [I_ne (Or.inl (by omega))]; exact i2⟩
    · unfold f_X0_addSpan
      have e8 := g.2
      simp (disch := omega) only [bind_s, bd2_s, rdI_ok, rdJ_ok, rdT_ok, ixR_ok, wrI_ok, wrJ_ok, wrT_none, pfI_s, pfJ_s, pfZ_0, pfZ_1, zr_b2, nl_n, nl_s, nI_add, nI_mul, nI_sub, nI_shlm, nI_shrd, nI_or8, nI_or8r, nI_or5r, nI_and255, nI_and31, nI_and7, nI_and1, nI_andK, nI_clr, Nat.one_mul, nI_eqz, nI_eqq, nI_ltq, nI_ltz, nI_zlt, nI_nm1, nI_m2, m1_z, m1_lt0, m1_m1, b2_z, nI1_z, nI0_z, tb_0, tb_1, ite_nI, I_at, I_ne, J_at, J_ne, J_setI, I_setJ, ↓reduceIte, ltN_T, ltN_F, eqN_T, eqN_F, pow8, pow5, b2_f0, b2_t0, reduceCtorEq, Bool.false_eq_true, Bool.true_eq_false, eq_self, false_and, true_and, and_false, and_true, not_false_eq_true, not_true_eq_false, e8, rd1, o3]
      rw [e]
      simp (disch := omega) only [bind_s, bd2_s, rdI_ok, rdJ_ok, rdT_ok, ixR_ok, wrI_ok, wrJ_ok, wrT_none, pfI_s, pfJ_s, pfZ_0, pfZ_1, zr_b2, nl_n, nl_s, nI_add, nI_mul, nI_sub, nI_shlm, nI_shrd, nI_or8, nI_or8r, nI_or5r, nI_and255, nI_and31, nI_and7, nI_and1, nI_andK, nI_clr, Nat.one_mul, nI_eqz, nI_eqq, nI_ltq, nI_ltz, nI_zlt, nI_nm1, nI_m2, m1_z, m1_lt0, m1_m1, b2_z, nI1_z, nI0_z, tb_0, tb_1, ite_nI, I_at, I_ne, J_at, J_ne, J_setI, I_setJ, ↓reduceIte, ltN_T, ltN_F, eqN_T, eqN_F, pow8, pow5, b2_f0, b2_t0, reduceCtorEq, Bool.false_eq_true, Bool.true_eq_false, eq_self, false_and, true_and, and_false, and_true, not_false_eq_true, not_true_eq_false, PO_rd o', q4, hd, nI_or]
    · obtain ⟨g1, g2, ⟨v3, l3, g3, b3⟩, ⟨v4, l4, g4, b4⟩, ⟨v5, l5, g5, b5⟩, g6, g7⟩ := g.1 h hh
      refine ⟨by rw [I_ne (Or.inl (by omega)), i1.I (by omega), nOn_o (by omega)]; exact g1, by rw [I_ne (Or.inl (by omega)), i1.I (by omega), nOff_o (by omega)]; exact g2, ⟨v3, l3, by rw [I_ne (Or.inl (by omega)), i1.I (by omega)]; exact g3, fun r hr => by rw [rOK_o (by omega)]; exact b3 r hr⟩, ⟨v4, l4, by rw [I_ne (Or.inl (by omega)), i1.I (by omega)]; exact g4, fun x hx => by rw [aN_o (by omega) (by omega)]; exact b4 x hx⟩, ⟨v5, l5, by rw [I_ne (Or.inl (by omega)), i1.I (by omega)]; exact g5, fun x hx => by rw [tN_o (by omega)]; exact b5 x hx⟩, fun x hx => ?_, ?_⟩
      · rw [I_ne (Or.inl (by omega)), i3 h x hh hx, br]
        congr 1
        by_cases e : pp A K ≤ h ∧ h < pq A K + 1 ∧ x = po A K
        · rw [if_pos e, if_pos ⟨hS, hk, e.1, by omega, e.2.2.symm⟩]
        · rw [if_neg e, if_neg (fun w => e ⟨w.2.2.1, by omega, w.2.2.2.2.symm⟩)]
      · rw [du]
        by_cases e : h = pq A K
        · subst e
          rw [I_at, if_pos ⟨hS, hk, rfl⟩]
        · rw [I_ne (Or.inr e), i1.I (by omega), if_neg (fun w => e w.2.2.symm)]; exact g7
  · rintro n i s hi ⟨hpi, hF, hs8, hv⟩ Q hQ
    have o' := PO_fr o hF (by omega)
    obtain ⟨-, -, -, q2, q3, q4, q5, -⟩ := id o'
    have hvi := hv i (po A K) (by omega) (by omega)
    rw [if_neg (by omega)] at hvi
    show ∃ y, f_X0_addSpan_31 q _ (n + 1) p _ (nI i) s = f_X0_addSpan_31 q _ n p _ (nI (i + 1)) y ∧ _
    rw [f_X0_addSpan_31]
    simp (disch := omega) only [bind_s, bd2_s, rdI_ok, rdJ_ok, rdT_ok, ixR_ok, wrI_ok, wrJ_ok, wrT_none, pfI_s, pfJ_s, pfZ_0, pfZ_1, zr_b2, nl_n, nl_s, nI_add, nI_mul, nI_sub, nI_shlm, nI_shrd, nI_or8, nI_or8r, nI_or5r, nI_and255, nI_and31, nI_and7, nI_and1, nI_andK, nI_clr, Nat.one_mul, nI_eqz, nI_eqq, nI_ltq, nI_ltz, nI_zlt, nI_nm1, nI_m2, m1_z, m1_lt0, m1_m1, b2_z, nI1_z, nI0_z, tb_0, tb_1, ite_nI, I_at, I_ne, J_at, J_ne, J_setI, I_setJ, ↓reduceIte, ltN_T, ltN_F, eqN_T, eqN_F, pow8, pow5, b2_f0, b2_t0, reduceCtorEq, Bool.false_eq_true, Bool.true_eq_false, eq_self, false_and, true_and, and_false, and_true, not_false_eq_true, not_true_eq_false, PO_rd o', q2, q4, hvi, nI_or]
    refine ⟨_, rfl, hQ _ ⟨by omega, hF.tr (Fr_setI (Or.inr rfl)), by rw [I_ne (Or.inl (by omega))]; exact hs8, fun h x hh hx => ?_⟩⟩
    by_cases e : h = i ∧ x = po A K
    · obtain ⟨rfl, rfl⟩ := e
      rw [I_at, if_pos ⟨by omega, by omega, rfl⟩]
    · rw [I_ne (Or.inr (by omega)), hv h x hh hx]
      congr 1
      by_cases e2 : pp A K ≤ h ∧ h < i ∧ x = po A K
      · rw [if_pos e2, if_pos (by omega)]
      · rw [if_neg e2, if_neg (by omega)]
  · rintro n s ⟨-, hF, -, -⟩
    have o' := PO_fr o hF (by omega)
    obtain ⟨-, -, -, q2, q3, q4, q5, -⟩ := id o'
    show f_X0_addSpan_31 q _ (n + 1) p _ (nI (pq A K + 1)) s = _
    rw [f_X0_addSpan_31]
    simp (disch := omega) only [bind_s, bd2_s, rdI_ok, rdJ_ok, rdT_ok, ixR_ok, wrI_ok, wrJ_ok, wrT_none, pfI_s, pfJ_s, pfZ_0, pfZ_1, zr_b2, nl_n, nl_s, nI_add, nI_mul, nI_sub, nI_shlm, nI_shrd, nI_or8, nI_or8r, nI_or5r, nI_and255, nI_and31, nI_and7, nI_and1, nI_andK, nI_clr, Nat.one_mul, nI_eqz, nI_eqq, nI_ltq, nI_ltz, nI_zlt, nI_nm1, nI_m2, m1_z, m1_lt0, m1_m1, b2_z, nI1_z, nI0_z, tb_0, tb_1, ite_nI, I_at, I_ne, J_at, J_ne, J_setI, I_setJ, ↓reduceIte, ltN_T, ltN_F, eqN_T, eqN_F, pow8, pow5, b2_f0, b2_t0, reduceCtorEq, Bool.false_eq_true, Bool.true_eq_false, eq_self, false_and, true_and, and_false, and_true, not_false_eq_true, not_true_eq_false, PO_rd o', q4]
theorem t_add (a : AOK A) (hq : q = 205 ∨ q = 221) (c : CR 2 A σ) {K p : Nat} (hK : K < nP A) (hS : S.testBit K = true) (o : PO σ p K A) (g : GA q A S K σ) : ∃ s, f_X0_add q p σ = some s ∧ Fr (fun x => q ≤ x ∧ x ≤ q + 7) σ s ∧ GA q A S (K + 1) s := by
  obtain ⟨-, -, o1, o2, o3, o4, -, -⟩ := id o
  have hk := (a.2.2.2.2.1 K hK).1
  unfold f_X0_add
  rcases (show pk A K = 0 ∨ pk A K = 1 ∨ pk A K = 2 ∨ pk A K = 3 by omega) with e | e | e | e
  · obtain ⟨s, h1, h2⟩ := t_addSeenP (p := p) a hq hK hS e g
    refine ⟨s, ?_, h2⟩
    simp (disch := omega) only [bind_s, bd2_s, rdI_ok, rdJ_ok, rdT_ok, ixR_ok, wrI_ok, wrJ_ok, wrT_none, pfI_s, pfJ_s, pfZ_0, pfZ_1, zr_b2, nl_n, nl_s, nI_add, nI_mul, nI_sub, nI_shlm, nI_shrd, nI_or8, nI_or8r, nI_or5r, nI_and255, nI_and31, nI_and7, nI_and1, nI_andK, nI_clr, Nat.one_mul, nI_eqz, nI_eqq, nI_ltq, nI_ltz, nI_zlt, nI_nm1, nI_m2, m1_z, m1_lt0, m1_m1, b2_z, nI1_z, nI0_z, tb_0, tb_1, ite_nI, I_at, I_ne, J_at, J_ne, J_setI, I_setJ, ↓reduceIte, ltN_T, ltN_F, eqN_T, eqN_F, pow8, pow5, b2_f0, b2_t0, reduceCtorEq, Bool.false_eq_true, Bool.true_eq_false, eq_self, false_and, true_and, and_false, and_true, not_false_eq_true, not_true_eq_false, PO_rd o, o1, o2, o3, e, h1]
  · obtain ⟨s, h1, h2⟩ := t_addSpan a hq hK hS e o g
    refine ⟨s, ?_, h2⟩
    simp (disch := omega) only [bind_s, bd2_s, rdI_ok, rdJ_ok, rdT_ok, ixR_ok, wrI_ok, wrJ_ok, wrT_none, pfI_s, pfJ_s, pfZ_0, pfZ_1, zr_b2, nl_n, nl_s, nI_add, nI_mul, nI_sub, nI_shlm, nI_shrd, nI_or8, nI_or8r, nI_or5r, nI_and255, nI_and31, nI_and7, nI_and1, nI_andK, nI_clr, Nat.one_mul, nI_eqz, nI_eqq, nI_ltq, nI_ltz, nI_zlt, nI_nm1, nI_m2, m1_z, m1_lt0, m1_m1, b2_z, nI1_z, nI0_z, tb_0, tb_1, ite_nI, I_at, I_ne, J_at, J_ne, J_setI, I_setJ, ↓reduceIte, ltN_T, ltN_F, eqN_T, eqN_F, pow8, pow5, b2_f0, b2_t0, reduceCtorEq, Bool.false_eq_true, Bool.true_eq_false, eq_self, false_and, true_and, and_false, and_true, not_false_eq_true, not_true_eq_false, PO_rd o, o1, e, h1]
  · obtain ⟨s, h1, h2⟩ := t_addWas a hq c hK hS e o g
    refine ⟨s, ?_, h2⟩
    simp (disch := omega) only [bind_s, bd2_s, rdI_ok, rdJ_ok, rdT_ok, ixR_ok, wrI_ok, wrJ_ok, wrT_none, pfI_s, pfJ_s, pfZ_0, pfZ_1, zr_b2, nl_n, nl_s, nI_add, nI_mul, nI_sub, nI_shlm, nI_shrd, nI_or8, nI_or8r, nI_or5r, nI_and255, nI_and31, nI_and7, nI_and1, nI_andK, nI_clr, Nat.one_mul, nI_eqz, nI_eqq, nI_ltq, nI_ltz, nI_zlt, nI_nm1, nI_m2, m1_z, m1_lt0, m1_m1, b2_z, nI1_z, nI0_z, tb_0, tb_1, ite_nI, I_at, I_ne, J_at, J_ne, J_setI, I_setJ, ↓reduceIte, ltN_T, ltN_F, eqN_T, eqN_F, pow8, pow5, b2_f0, b2_t0, reduceCtorEq, Bool.false_eq_true, Bool.true_eq_false, eq_self, false_and, true_and, and_false, and_true, not_false_eq_true, not_true_eq_false, PO_rd o, o1, e, h1]
  · obtain ⟨s, h1, h2⟩ := t_addNever a hq hK hS e o g
    refine ⟨s, ?_, h2⟩
    simp (disch := omega) only [bind_s, bd2_s, rdI_ok, rdJ_ok, rdT_ok, ixR_ok, wrI_ok, wrJ_ok, wrT_none, pfI_s, pfJ_s, pfZ_0, pfZ_1, zr_b2, nl_n, nl_s, nI_add, nI_mul, nI_sub, nI_shlm, nI_shrd, nI_or8, nI_or8r, nI_or5r, nI_and255, nI_and31, nI_and7, nI_and1, nI_andK, nI_clr, Nat.one_mul, nI_eqz, nI_eqq, nI_ltq, nI_ltz, nI_zlt, nI_nm1, nI_m2, m1_z, m1_lt0, m1_m1, b2_z, nI1_z, nI0_z, tb_0, tb_1, ite_nI, I_at, I_ne, J_at, J_ne, J_setI, I_setJ, ↓reduceIte, ltN_T, ltN_F, eqN_T, eqN_F, pow8, pow5, b2_f0, b2_t0, reduceCtorEq, Bool.false_eq_true, Bool.true_eq_false, eq_self, false_and, true_and, and_false, and_true, not_false_eq_true, not_true_eq_false, PO_rd o, o1, o3, e, h1]
theorem t_gather (a : AOK A) (hq : q = 205 ∨ q = 221) (c : CR 2 A σ) (S : Nat) (hS : S < 2 ^ 16) : ∃ s, f_X0_gather q (nI S) σ = some s ∧ Fr (fun x => q ≤ x ∧ x ≤ q + 7) σ s ∧ GA q A S (nP A) s := by
  unfold f_X0_gather
  obtain ⟨s1, e1, F1, v1⟩ := t_fill (q + 1) 12 (nI 0) σ (by omega)
  obtain ⟨s2, e2, F2, v2⟩ := t_fill (q + 2) 12 (nI 0) s1 (by omega)
  obtain ⟨s3, e3, F3, v3⟩ := t_fill (q + 3) 12 (nI 255) s2 (by omega)
  have hn3 : s3.1 2 1 = nI (nH A) := by rw [F3.I (by omega), F2.I (by omega), F1.I (by omega)]; exact c.1.2.1
  have hH := a.1.2.1
  have hP2 := Nat.two_pow_pos (nH A)
  obtain ⟨s4, e4, F4, v4⟩ := t_fill (q + 4) 12 (nI (64 ||| (2 ^ nH A - 1))) s3 (by omega)
  obtain ⟨s5, e5, F5, v5⟩ := t_fill (q + 5) 12 (nI 0) s4 (by omega)
  obtain ⟨s6, e6, F6, v6⟩ := t_fill (q + 6) 84 (nI 0) s5 (by omega)
  obtain ⟨s7, e7, F7, v7⟩ := t_fill (q + 7) 12 (nI 0) s6 (by omega)
  simp (disch := omega) only [bind_s, bd2_s, rdI_ok, rdJ_ok, rdT_ok, ixR_ok, wrI_ok, wrJ_ok, wrT_none, pfI_s, pfJ_s, pfZ_0, pfZ_1, zr_b2, nl_n, nl_s, nI_add, nI_mul, nI_sub, nI_shlm, nI_shrd, nI_or8, nI_or8r, nI_or5r, nI_and255, nI_and31, nI_and7, nI_and1, nI_andK, nI_clr, Nat.one_mul, nI_eqz, nI_eqq, nI_ltq, nI_ltz, nI_zlt, nI_nm1, nI_m2, m1_z, m1_lt0, m1_m1, b2_z, nI1_z, nI0_z, tb_0, tb_1, ite_nI, I_at, I_ne, J_at, J_ne, J_setI, I_setJ, ↓reduceIte, ltN_T, ltN_F, eqN_T, eqN_F, pow8, pow5, b2_f0, b2_t0, reduceCtorEq, Bool.false_eq_true, Bool.true_eq_false, eq_self, false_and, true_and, and_false, and_true, not_false_eq_true, not_true_eq_false, e1, e2, e3, hn3, nI_or, e4, e5, e6, e7]
  have FF : Fr (fun x => q ≤ x ∧ x ≤ q + 7) σ (setI s7 q 8 (nI 0)) := (((((((F1.mono (fun x hx => by omega)).tr (F2.mono (fun x hx => by omega))).tr (F3.mono (fun x hx => by omega))).tr (F4.mono (fun x hx => by omega))).tr (F5.mono (fun x hx => by omega))).tr (F6.mono (fun x hx => by omega))).tr (F7.mono (fun x hx => by omega))).tr (Fr_setI (by omega))
  have G0 : GA q A S 0 (setI s7 q 8 (nI 0)) := by
    refine ⟨fun h hh => ⟨?_, ?_, ⟨255, by omega, ?_, fun r hr => ?_⟩, ⟨64 ||| (2 ^ nH A - 1), ?_, ?_, fun x hx => ?_⟩, ⟨0, by omega, ?_, fun x hx => ?_⟩, fun x hx => ?_, ?_⟩, by rw [I_at]; rfl⟩
    · rw [I_ne (Or.inl (by omega)), F7.I (by omega), F6.I (by omega), F5.I (by omega), F4.I (by omega), F3.I (by omega), F2.I (by omega), v1 h hh]; rfl
    · rw [I_ne (Or.inl (by omega)), F7.I (by omega), F6.I (by omega), F5.I (by omega), F4.I (by omega), F3.I (by omega), v2 h hh]; rfl
    · rw [I_ne (Or.inl (by omega)), F7.I (by omega), F6.I (by omega), F5.I (by omega), F4.I (by omega), v3 h hh]
    · rw [show (255 : Nat) = 2 ^ 8 - 1 from rfl, Nat.testBit_two_pow_sub_one, decide_eq_true hr]; rfl
    · have : 2 ^ nH A ≤ 2 ^ 6 := two_le hH
      exact Nat.or_lt_two_pow (n := 7) (by omega) (by omega)
    · rw [I_ne (Or.inl (by omega)), F7.I (by omega), F6.I (by omega), F5.I (by omega), v4 h hh]
    · rw [Nat.testBit_or, Nat.testBit_two_pow_sub_one, show (64 : Nat) = 2 ^ 6 from rfl, Nat.testBit_two_pow, aN, Bool.true_and, ← Bool.decide_or]
      apply decide_eq_decide.mpr
      omega
    · rw [I_ne (Or.inl (by omega)), F7.I (by omega), F6.I (by omega), v5 h hh]
    · rw [tN]; simp
    · rw [I_ne (Or.inl (by omega)), F7.I (by omega), v6 _ (by omega)]; rfl
    · rw [I_ne (Or.inl (by omega)), v7 h hh]; rfl
  have hPP := a.1.2.2
  refine Exists.elim (loopE (fun n i s => f_X0_gather_78 q n (nI S) (nI i) s) (nP A) (fun i s => Fr (fun x => q ≤ x ∧ x ≤ q + 7) σ s ∧ GA q A S i s) (fun s => some s) ?_ ?_ FU 0 _ (by rw [FU_eq]; omega) (Nat.zero_le _) ⟨FF, G0⟩) ?_
  · rintro n i s hi ⟨hF, hg⟩ Q hQ
    have c' := CR_fr a c hF (fun x hx => by omega)
    obtain ⟨p, t1, t2⟩ := c'.2.2.2.2.1 i hi
    have hn := c'.1.2.2.1
    show ∃ y, f_X0_gather_78 q (n + 1) (nI S) (nI i) s = f_X0_gather_78 q n (nI S) (nI (i + 1)) y ∧ _
    rw [f_X0_gather_78]
    cases hb : S.testBit i with
    | false =>
      simp (disch := omega) only [bind_s, bd2_s, rdI_ok, rdJ_ok, rdT_ok, ixR_ok, wrI_ok, wrJ_ok, wrT_none, pfI_s, pfJ_s, pfZ_0, pfZ_1, zr_b2, nl_n, nl_s, nI_add, nI_mul, nI_sub, nI_shlm, nI_shrd, nI_or8, nI_or8r, nI_or5r, nI_and255, nI_and31, nI_and7, nI_and1, nI_andK, nI_clr, Nat.one_mul, nI_eqz, nI_eqq, nI_ltq, nI_ltz, nI_zlt, nI_nm1, nI_m2, m1_z, m1_lt0, m1_m1, b2_z, nI1_z, nI0_z, tb_0, tb_1, ite_nI, I_at, I_ne, J_at, J_ne, J_setI, I_setJ, ↓reduceIte, ltN_T, ltN_F, eqN_T, eqN_F, pow8, pow5, b2_f0, b2_t0, reduceCtorEq, Bool.false_eq_true, Bool.true_eq_false, eq_self, false_and, true_and, and_false, and_true, not_false_eq_true, not_true_eq_false, hn, t1, hb]
      exact ⟨s, rfl, hQ _ ⟨hF, fun h hh => GH_skip a hi (fun w => by rw [hb] at w; cases w.1) (hg.1 h hh), by rw [spn, if_neg (fun w => by rw [hb] at w; cases w.1)]; exact hg.2⟩⟩
    | true =>
      obtain ⟨s', h1, h2, h3⟩ := t_add a hq c' hi hb t2 hg
      simp (disch := omega) only [bind_s, bd2_s, rdI_ok, rdJ_ok, rdT_ok, ixR_ok, wrI_ok, wrJ_ok, wrT_none, pfI_s, pfJ_s, pfZ_0, pfZ_1, zr_b2, nl_n, nl_s, nI_add, nI_mul, nI_sub, nI_shlm, nI_shrd, nI_or8, nI_or8r, nI_or5r, nI_and255, nI_and31, nI_and7, nI_and1, nI_andK, nI_clr, Nat.one_mul, nI_eqz, nI_eqq, nI_ltq, nI_ltz, nI_zlt, nI_nm1, nI_m2, m1_z, m1_lt0, m1_m1, b2_z, nI1_z, nI0_z, tb_0, tb_1, ite_nI, I_at, I_ne, J_at, J_ne, J_setI, I_setJ, ↓reduceIte, ltN_T, ltN_F, eqN_T, eqN_F, pow8, pow5, b2_f0, b2_t0, reduceCtorEq, Bool.false_eq_true, Bool.true_eq_false, eq_self, false_and, true_and, and_false, and_true, not_false_eq_true, not_true_eq_false, hn, t1, hb, h1]
      exact ⟨s', rfl, hQ _ ⟨hF.tr h2, h3⟩⟩
  · rintro n s ⟨hF, -⟩
    have c' := CR_fr a c hF (fun x hx => by omega)
    have hn := c'.1.2.2.1
    show f_X0_gather_78 q (n + 1) (nI S) (nI (nP A)) s = _
    rw [f_X0_gather_78]
    simp (disch := omega) only [bind_s, bd2_s, rdI_ok, rdJ_ok, rdT_ok, ixR_ok, wrI_ok, wrJ_ok, wrT_none, pfI_s, pfJ_s, pfZ_0, pfZ_1, zr_b2, nl_n, nl_s, nI_add, nI_mul, nI_sub, nI_shlm, nI_shrd, nI_or8, nI_or8r, nI_or5r, nI_and255, nI_and31, nI_and7, nI_and1, nI_andK, nI_clr, Nat.one_mul, nI_eqz, nI_eqq, nI_ltq, nI_ltz, nI_zlt, nI_nm1, nI_m2, m1_z, m1_lt0, m1_m1, b2_z, nI1_z, nI0_z, tb_0, tb_1, ite_nI, I_at, I_ne, J_at, J_ne, J_setI, I_setJ, ↓reduceIte, ltN_T, ltN_F, eqN_T, eqN_F, pow8, pow5, b2_f0, b2_t0, reduceCtorEq, Bool.false_eq_true, Bool.true_eq_false, eq_self, false_and, true_and, and_false, and_true, not_false_eq_true, not_true_eq_false, hn]
  · rintro s ⟨e, h1, h2⟩
    exact ⟨s, e, h1, h2⟩
end
