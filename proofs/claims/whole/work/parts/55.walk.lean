section
/-! ===== the looks are gathered; a walk over an hour ===== -/
variable {A : AW} {σ : ST} {d S h : Nat} {x : Nat × Nat} {C : Nat → Nat → Nat}
theorem BS_fr (a : AOK A) (hd : d = 197 ∨ d = 213) {W : Nat → Prop} {s : ST} (b : BS d A S x h C σ) (hF : Fr W σ s) (hW : ∀ y, W y → d + 2 ≤ y ∧ y ≤ d + 7) : BS d A S x h C s := by
  obtain ⟨b1, b2, b3, ⟨f7, f8, f9, f10⟩, b5⟩ := b
  refine ⟨CR_fr a b1 hF (fun y hy => by have := hW y hy; omega), ?_, GX_fr b3 hF (fun y hy => by have := hW y hy; omega), ⟨by rw [hF.I (fun w => by have := hW _ w; omega)]; exact f7, by rw [hF.I (fun w => by have := hW _ w; omega)]; exact f8, by rw [hF.I (fun w => by have := hW _ w; omega)]; exact f9, by rw [hF.I (fun w => by have := hW _ w; omega)]; exact f10⟩, fun fl low h1 h2 => by rw [hF.I (fun w => by have := hW _ w; omega)]; exact b5 fl low h1 h2⟩
  intro f kept run h1 h2 h3
  obtain ⟨t1, t2⟩ := b2 f kept run h1 h2 h3
  exact ⟨by rw [hF.I (fun w => by have := hW _ w; omega)]; exact t1, fun act ha => by rw [hF.I (fun w => by have := hW _ w; omega)]; exact t2 act ha⟩
theorem getD_app {L M : List Nat} {i : Nat} (h : i < L.length) : (L ++ M).getD i 0 = L.getD i 0 := by
  rw [List.getD_eq_getElem?_getD, List.getD_eq_getElem?_getD, List.getElem?_append_left h]
theorem getD_app2 {L M : List Nat} {i : Nat} : (L ++ M).getD (L.length + i) 0 = M.getD i 0 := by
  rw [List.getD_eq_getElem?_getD, List.getD_eq_getElem?_getD, List.getElem?_append_right (by omega), show L.length + i - L.length = i by omega]
theorem getD_mem {L : List Nat} {i : Nat} (h : i < L.length) : L.getD i 0 ∈ L := by
  rw [List.getD_eq_getElem?_getD, List.getElem?_eq_getElem h]
  exact List.getElem_mem h
theorem t_looks43 (a : AOK A) (hd : d = 197 ∨ d = 213) (hh : h < 12) {pass low : Nat} (hp : pass < 3) (hl : low < LW A) {L : List Nat} (hL : L.length ≤ 4 * low) (b : BS d A S x h C σ) (hr : ∀ i, i < L.length → σ.1 (d + 3) i = nI (L.getD i 0)) {k : Int32 → Int32 → Int32 → Int32 → Int32 → ST → Option (Int32 × ST)} : ∃ s, f_X2_gatherLooks_43 d k FU (nI pass) (nI h) (nI (2 ^ cK A 0)) (nI L.length) (nI low) (nI L.length) (nI 0) σ = k (nI pass) (nI h) (nI (2 ^ cK A 0)) (nI (L ++ lkI A S h pass low (2 ^ cK A 0)).length) (nI low) s ∧ Fr (fun y => y = d + 3) σ s ∧ ∀ i, i < (L ++ lkI A S h pass low (2 ^ cK A 0)).length → s.1 (d + 3) i = nI ((L ++ lkI A S h pass low (2 ^ cK A 0)).getD i 0) := by
  have h4 := F4 a
  have hW := LW_256 a
  have e0 : (L ++ lkI A S h pass low 0).length = L.length := by rw [lkI, List.append_nil]
  suffices H : ∃ s, f_X2_gatherLooks_43 d k FU (nI pass) (nI h) (nI (2 ^ cK A 0)) (nI (L ++ lkI A S h pass low 0).length) (nI low) (nI L.length) (nI 0) σ = k (nI pass) (nI h) (nI (2 ^ cK A 0)) (nI (L ++ lkI A S h pass low (2 ^ cK A 0)).length) (nI low) s ∧ Fr (fun y => y = d + 3) σ s ∧ ∀ i, i < (L ++ lkI A S h pass low (2 ^ cK A 0)).length → s.1 (d + 3) i = nI ((L ++ lkI A S h pass low (2 ^ cK A 0)).getD i 0) by
    rw [e0] at H
    exact H
  refine loopE (fun n f s => f_X2_gatherLooks_43 d k n (nI pass) (nI h) (nI (2 ^ cK A 0)) (nI (L ++ lkI A S h pass low f).length) (nI low) (nI L.length) (nI f) s) (2 ^ cK A 0) (fun f s => Fr (fun y => y = d + 3) σ s ∧ ∀ i, i < (L ++ lkI A S h pass low f).length → s.1 (d + 3) i = nI ((L ++ lkI A S h pass low f).getD i 0)) (fun s => k (nI pass) (nI h) (nI (2 ^ cK A 0)) (nI (L ++ lkI A S h pass low (2 ^ cK A 0)).length) (nI low) s) ?_ ?_ FU 0 σ (by rw [FU_eq]; omega) (Nat.zero_le _) ⟨Fr.rf _ _, fun i hi => ?_⟩
  · rintro n f s hf ⟨hF, hv⟩ Q hQ
    have b' := BS_fr a hd b hF (fun y hy => by omega)
    obtain ⟨c', t', g', f', bc'⟩ := b'
    have et := (TB_tr a t' hf hl).1
    have q := lo_of (Nat.two_pow_pos (cK A 1)) hl
    have q8 : low / 2 ^ cK A 1 < 8 := by have := RR_le A; have := q.1; omega
    have eal := t_allows a g' (h := h) (f := f) (kept := low % 2 ^ cK A 1) (run := low / 2 ^ cK A 1) hh q8
    have et2 : trL A (f * 256 + low) = tr A f (low % 2 ^ cK A 1) (low / 2 ^ cK A 1) := by
      unfold trL
      rw [(lk_at (f := f) (show low < 256 by omega)).1, (lk_at (f := f) (show low < 256 by omega)).2]
    rw [← et2] at eal
    have f7 := f'.1
    have hK5 := a.2.2.1.2.1
    have hlen := lkI_len (A := A) (S := S) (h := h) (pass := pass) (low := low) f
    have hlt : f * 256 + low < 1024 := by omega
    have hlen2 : (L ++ lkI A S h pass low f).length = L.length + (lkI A S h pass low f).length := List.length_append
    show ∃ y, f_X2_gatherLooks_43 d k (n + 1) (nI pass) (nI h) (nI (2 ^ cK A 0)) (nI (L ++ lkI A S h pass low f).length) (nI low) (nI L.length) (nI f) s = f_X2_gatherLooks_43 d k n (nI pass) (nI h) (nI (2 ^ cK A 0)) (nI (L ++ lkI A S h pass low (f + 1)).length) (nI low) (nI L.length) (nI (f + 1)) y ∧ _
    rw [f_X2_gatherLooks_43]
    -- a look that is added
    have add : ∀ u : ST, u = s → okB A S h f (low % 2 ^ cK A 1) (low / 2 ^ cK A 1) = true → (pass = 0 → anyN (fun j => decide (trL A ((lkI A S h pass low f).getD j 0) / 1024 = trL A (f * 256 + low) / 1024)) (lkI A S h pass low f).length = false) → Fr (fun y => y = d + 3) σ (setI s (d + 3) (L ++ lkI A S h pass low f).length (nI (f * 256 + low))) ∧ (L ++ lkI A S h pass low (f + 1)).length = (L ++ lkI A S h pass low f).length + 1 ∧ ∀ i, i < (L ++ lkI A S h pass low (f + 1)).length → (setI s (d + 3) (L ++ lkI A S h pass low f).length (nI (f * 256 + low))).1 (d + 3) i = nI ((L ++ lkI A S h pass low (f + 1)).getD i 0) := by
      intro u _ h1 h2
      have e : lkI A S h pass low (f + 1) = lkI A S h pass low f ++ [f * 256 + low] := by rw [lkI, if_pos ⟨h1, h2⟩]
      have e2 : (L ++ lkI A S h pass low (f + 1)).length = (L ++ lkI A S h pass low f).length + 1 := by
        rw [e, ← List.append_assoc, List.length_append, List.length_singleton]
      refine ⟨hF.tr (Fr_setI rfl), e2, fun i hi => ?_⟩
      rw [e2] at hi
      rw [e, ← List.append_assoc]
      by_cases ei : i = (L ++ lkI A S h pass low f).length
      · subst ei
        rw [I_at]
        have := getD_app2 (L := L ++ lkI A S h pass low f) (M := [f * 256 + low]) (i := 0)
        rw [Nat.add_zero] at this
        rw [this]; rfl
      · rw [I_ne (Or.inr ei), hv i (by omega), getD_app (L := L ++ lkI A S h pass low f) (by omega)]
    cases hok : okB A S h f (low % 2 ^ cK A 1) (low / 2 ^ cK A 1) with
    | false =>
      have e : lkI A S h pass low (f + 1) = lkI A S h pass low f := by rw [lkI, if_neg (fun w => by rw [hok] at w; cases w.1)]
      rw [hok] at eal
      simp (disch := omega) only [bind_s, bd2_s, rdI_ok, rdJ_ok, rdT_ok, ixR_ok, wrI_ok, wrJ_ok, wrT_none, pfI_s, pfJ_s, pfZ_0, pfZ_1, zr_b2, nl_n, nl_s, nI_add, nI_mul, nI_sub, nI_shlm, nI_shrd, nI_or8, nI_or8r, nI_or5r, nI_and255, nI_and31, nI_and7, nI_and1, nI_andK, nI_clr, Nat.one_mul, nI_eqz, nI_eqq, nI_ltq, nI_ltz, nI_zlt, nI_nm1, nI_m2, m1_z, m1_lt0, m1_m1, b2_z, nI1_z, nI0_z, tb_0, tb_1, ite_nI, I_at, I_ne, J_at, J_ne, J_setI, I_setJ, ↓reduceIte, ltN_T, ltN_F, eqN_T, eqN_F, pow8, pow5, b2_f0, b2_t0, reduceCtorEq, Bool.false_eq_true, Bool.true_eq_false, eq_self, false_and, true_and, and_false, and_true, not_false_eq_true, not_true_eq_false, f7, et, eal]
      rw [e]
      exact ⟨s, rfl, hQ _ ⟨hF, by rw [e]; exact hv⟩⟩
    | true =>
      rw [hok] at eal
      by_cases h0 : pass = 0
      · have go := t_goesOn (d := d) (look := f * 256 + low) (first := L.length) (M := lkI A S h pass low f) a hd t' (by omega) (by rw [(lk_at (f := f) (show low < 256 by omega)).1, (lk_at (f := f) (show low < 256 by omega)).2]; exact ⟨hf, hl⟩) (fun j hj => ⟨by rw [hv (L.length + j) (by omega), getD_app2], by obtain ⟨g, g1, g2, -⟩ := lkI_mem f (getD_mem hj); rw [g2, (lk_at (f := g) (show low < 256 by omega)).1, (lk_at (f := g) (show low < 256 by omega)).2]; exact ⟨by omega, hl⟩⟩)
        rw [← hlen2] at go
        cases hany : anyN (fun j => decide (trL A ((lkI A S h pass low f).getD j 0) / 1024 = trL A (f * 256 + low) / 1024)) (lkI A S h pass low f).length with
        | true =>
          have e : lkI A S h pass low (f + 1) = lkI A S h pass low f := by rw [lkI, if_neg (fun w => by rw [w.2 h0] at hany; cases hany)]
          rw [hany] at go
          rw [h0] at go ⊢
          simp (disch := omega) only [bind_s, bd2_s, rdI_ok, rdJ_ok, rdT_ok, ixR_ok, wrI_ok, wrJ_ok, wrT_none, pfI_s, pfJ_s, pfZ_0, pfZ_1, zr_b2, nl_n, nl_s, nI_add, nI_mul, nI_sub, nI_shlm, nI_shrd, nI_or8, nI_or8r, nI_or5r, nI_and255, nI_and31, nI_and7, nI_and1, nI_andK, nI_clr, Nat.one_mul, nI_eqz, nI_eqq, nI_ltq, nI_ltz, nI_zlt, nI_nm1, nI_m2, m1_z, m1_lt0, m1_m1, b2_z, nI1_z, nI0_z, tb_0, tb_1, ite_nI, I_at, I_ne, J_at, J_ne, J_setI, I_setJ, ↓reduceIte, ltN_T, ltN_F, eqN_T, eqN_F, pow8, pow5, b2_f0, b2_t0, reduceCtorEq, Bool.false_eq_true, Bool.true_eq_false, eq_self, false_and, true_and, and_false, and_true, not_false_eq_true, not_true_eq_false, f7, et, eal]
          rw [h0] at e hv hQ
          rw [go]
          simp (disch := omega) only [bind_s, bd2_s, rdI_ok, rdJ_ok, rdT_ok, ixR_ok, wrI_ok, wrJ_ok, wrT_none, pfI_s, pfJ_s, pfZ_0, pfZ_1, zr_b2, nl_n, nl_s, nI_add, nI_mul, nI_sub, nI_shlm, nI_shrd, nI_or8, nI_or8r, nI_or5r, nI_and255, nI_and31, nI_and7, nI_and1, nI_andK, nI_clr, Nat.one_mul, nI_eqz, nI_eqq, nI_ltq, nI_ltz, nI_zlt, nI_nm1, nI_m2, m1_z, m1_lt0, m1_m1, b2_z, nI1_z, nI0_z, tb_0, tb_1, ite_nI, I_at, I_ne, J_at, J_ne, J_setI, I_setJ, ↓reduceIte, ltN_T, ltN_F, eqN_T, eqN_F, pow8, pow5, b2_f0, b2_t0, reduceCtorEq, Bool.false_eq_true, Bool.true_eq_false, eq_self, false_and, true_and, and_false, and_true, not_false_eq_true, not_true_eq_false]
          rw [e]
          exact ⟨s, rfl, hQ _ ⟨hF, by rw [e]; exact hv⟩⟩
        | false =>
          obtain ⟨u1, u2, u3⟩ := add s rfl hok (fun _ => hany)
          rw [hany] at go
          rw [h0] at go u1 u2 u3 hQ ⊢
          have hlt2 : (L ++ lkI A S h 0 low f).length < 1024 := by rw [h0] at hlen2 hlen; omega
          simp (disch := omega) only [bind_s, bd2_s, rdI_ok, rdJ_ok, rdT_ok, ixR_ok, wrI_ok, wrJ_ok, wrT_none, pfI_s, pfJ_s, pfZ_0, pfZ_1, zr_b2, nl_n, nl_s, nI_add, nI_mul, nI_sub, nI_shlm, nI_shrd, nI_or8, nI_or8r, nI_or5r, nI_and255, nI_and31, nI_and7, nI_and1, nI_andK, nI_clr, Nat.one_mul, nI_eqz, nI_eqq, nI_ltq, nI_ltz, nI_zlt, nI_nm1, nI_m2, m1_z, m1_lt0, m1_m1, b2_z, nI1_z, nI0_z, tb_0, tb_1, ite_nI, I_at, I_ne, J_at, J_ne, J_setI, I_setJ, ↓reduceIte, ltN_T, ltN_F, eqN_T, eqN_F, pow8, pow5, b2_f0, b2_t0, reduceCtorEq, Bool.false_eq_true, Bool.true_eq_false, eq_self, false_and, true_and, and_false, and_true, not_false_eq_true, not_true_eq_false, f7, et, eal]
          rw [go]
          simp (disch := omega) only [bind_s, bd2_s, rdI_ok, rdJ_ok, rdT_ok, ixR_ok, wrI_ok, wrJ_ok, wrT_none, pfI_s, pfJ_s, pfZ_0, pfZ_1, zr_b2, nl_n, nl_s, nI_add, nI_mul, nI_sub, nI_shlm, nI_shrd, nI_or8, nI_or8r, nI_or5r, nI_and255, nI_and31, nI_and7, nI_and1, nI_andK, nI_clr, Nat.one_mul, nI_eqz, nI_eqq, nI_ltq, nI_ltz, nI_zlt, nI_nm1, nI_m2, m1_z, m1_lt0, m1_m1, b2_z, nI1_z, nI0_z, tb_0, tb_1, ite_nI, I_at, I_ne, J_at, J_ne, J_setI, I_setJ, ↓reduceIte, ltN_T, ltN_F, eqN_T, eqN_F, pow8, pow5, b2_f0, b2_t0, reduceCtorEq, Bool.false_eq_true, Bool.true_eq_false, eq_self, false_and, true_and, and_false, and_true, not_false_eq_true, not_true_eq_false]
          rw [u2]
          exact ⟨_, rfl, hQ _ ⟨u1, u3⟩⟩
      · obtain ⟨u1, u2, u3⟩ := add s rfl hok (fun q => absurd q h0)
        have hlt2 : (L ++ lkI A S h pass low f).length < 1024 := by omega
        simp (disch := omega) only [bind_s, bd2_s, rdT_ok, ixR_ok, wrT_none, pfI_s, pfJ_s, pfZ_0, pfZ_1, zr_b2, nl_n, nl_s, nI_add, nI_mul, nI_sub, nI_shlm, nI_shrd, nI_or8, nI_or8r, nI_or5r, nI_and255, nI_and31, nI_and7, nI_and1, nI_andK, nI_clr, Nat.one_mul, nI_eqz, nI_eqq, nI_ltq, nI_ltz, nI_zlt, nI_nm1, nI_m2, m1_z, m1_lt0, m1_m1, b2_z, nI1_z, nI0_z, tb_0, tb_1, ite_nI, I_at, I_ne, J_at, J_ne, J_setI, I_setJ, ↓reduceIte, ltN_T, ltN_F, eqN_T, eqN_F, pow8, pow5, b2_f0, b2_t0, reduceCtorEq, Bool.false_eq_true, Bool.true_eq_false, eq_self, false_and, true_and, and_false, and_true, not_false_eq_true, not_true_eq_false, f7, rdI_ok hlt (show 1024 < 2 ^ 31 by decide), et, eal, h0, wrI_ok hlt2 (show 1024 < 2 ^ 31 by decide)]
        rw [u2]
        exact ⟨_, rfl, hQ _ ⟨u1, u3⟩⟩
  · rintro n s -
    show f_X2_gatherLooks_43 d k (n + 1) _ _ _ _ _ _ (nI (2 ^ cK A 0)) s = _
    rw [f_X2_gatherLooks_43]
    simp (disch := omega) only [bind_s, bd2_s, rdI_ok, rdJ_ok, rdT_ok, ixR_ok, wrI_ok, wrJ_ok, wrT_none, pfI_s, pfJ_s, pfZ_0, pfZ_1, zr_b2, nl_n, nl_s, nI_add, nI_mul, nI_sub, nI_shlm, nI_shrd, nI_or8, nI_or8r, nI_or5r, nI_and255, nI_and31, nI_and7, nI_and1, nI_andK, nI_clr, Nat.one_mul, nI_eqz, nI_eqq, nI_ltq, nI_ltz, nI_zlt, nI_nm1, nI_m2, m1_z, m1_lt0, m1_m1, b2_z, nI1_z, nI0_z, tb_0, tb_1, ite_nI, I_at, I_ne, J_at, J_ne, J_setI, I_setJ, ↓reduceIte, ltN_T, ltN_F, eqN_T, eqN_F, pow8, pow5, b2_f0, b2_t0, reduceCtorEq, Bool.false_eq_true, Bool.true_eq_false, eq_self, false_and, true_and, and_false, and_true, not_false_eq_true, not_true_eq_false]
  · rw [lkI, List.append_nil] at hi ⊢
    exact hr i hi
theorem t_gatherLooks (a : AOK A) (hd : d = 197 ∨ d = 213) (hh : h < 12) {pass : Nat} (hp : pass < 3) (hC : ∀ fl low, C fl low ≤ 1048576) (b : BS d A S x h C σ) : ∃ s, f_X2_gatherLooks d (nI pass) (nI h) σ = some (nI (lkA A S h pass C (LW A)).length, s) ∧ Fr (fun y => y = d + 3) σ s ∧ ∀ i, i < (lkA A S h pass C (LW A)).length → s.1 (d + 3) i = nI ((lkA A S h pass C (LW A)).getD i 0) := by
  have h4 := F4 a
  have hW := LW_256 a
  unfold f_X2_gatherLooks
  simp (disch := omega) only [bind_s, bd2_s, rdI_ok, rdJ_ok, rdT_ok, ixR_ok, wrI_ok, wrJ_ok, wrT_none, pfI_s, pfJ_s, pfZ_0, pfZ_1, zr_b2, nl_n, nl_s, nI_add, nI_mul, nI_sub, nI_shlm, nI_shrd, nI_or8, nI_or8r, nI_or5r, nI_and255, nI_and31, nI_and7, nI_and1, nI_andK, nI_clr, Nat.one_mul, nI_eqz, nI_eqq, nI_ltq, nI_ltz, nI_zlt, nI_nm1, nI_m2, m1_z, m1_lt0, m1_m1, b2_z, nI1_z, nI0_z, tb_0, tb_1, ite_nI, I_at, I_ne, J_at, J_ne, J_setI, I_setJ, ↓reduceIte, ltN_T, ltN_F, eqN_T, eqN_F, pow8, pow5, b2_f0, b2_t0, reduceCtorEq, Bool.false_eq_true, Bool.true_eq_false, eq_self, false_and, true_and, and_false, and_true, not_false_eq_true, not_true_eq_false, t_freeLooks a b.1]
  refine loopE (fun n low s => f_X2_gatherLooks_14 d n (nI pass) (nI h) (nI (2 ^ cK A 0)) (nI (lkA A S h pass C low).length) (nI low) s) (LW A) (fun low s => Fr (fun y => y = d + 3) σ s ∧ ∀ i, i < (lkA A S h pass C low).length → s.1 (d + 3) i = nI ((lkA A S h pass C low).getD i 0)) (fun s => some (nI (lkA A S h pass C (LW A)).length, s)) ?_ ?_ FU 0 σ (by rw [FU_eq]; omega) (Nat.zero_le _) ⟨Fr.rf _ _, fun i hi => by simp [lkA] at hi⟩
  · rintro n low s hl ⟨hF, hv⟩ Q hQ
    have b' := BS_fr a hd b hF (fun y hy => by omega)
    have f8 := b'.2.2.2.1.2.1
    have hre := t_isReached a hd b' hh hC hl
    show ∃ y, f_X2_gatherLooks_14 d (n + 1) (nI pass) (nI h) (nI (2 ^ cK A 0)) (nI (lkA A S h pass C low).length) (nI low) s = f_X2_gatherLooks_14 d n (nI pass) (nI h) (nI (2 ^ cK A 0)) (nI (lkA A S h pass C (low + 1)).length) (nI (low + 1)) y ∧ _
    rw [f_X2_gatherLooks_14]
    cases hr : rch A S C low with
    | false =>
      have e : lkA A S h pass C (low + 1) = lkA A S h pass C low := by rw [lkA, if_neg (by rw [hr]; simp)]
      rw [hr] at hre
      simp (disch := omega) only [bind_s, bd2_s, rdI_ok, rdJ_ok, rdT_ok, ixR_ok, wrI_ok, wrJ_ok, wrT_none, pfI_s, pfJ_s, pfZ_0, pfZ_1, zr_b2, nl_n, nl_s, nI_add, nI_mul, nI_sub, nI_shlm, nI_shrd, nI_or8, nI_or8r, nI_or5r, nI_and255, nI_and31, nI_and7, nI_and1, nI_andK, nI_clr, Nat.one_mul, nI_eqz, nI_eqq, nI_ltq, nI_ltz, nI_zlt, nI_nm1, nI_m2, m1_z, m1_lt0, m1_m1, b2_z, nI1_z, nI0_z, tb_0, tb_1, ite_nI, I_at, I_ne, J_at, J_ne, J_setI, I_setJ, ↓reduceIte, ltN_T, ltN_F, eqN_T, eqN_F, pow8, pow5, b2_f0, b2_t0, reduceCtorEq, Bool.false_eq_true, Bool.true_eq_false, eq_self, false_and, true_and, and_false, and_true, not_false_eq_true, not_true_eq_false, f8, hre]
      rw [e]
      exact ⟨s, rfl, hQ _ ⟨hF, by rw [e]; exact hv⟩⟩
    | true =>
      have e : lkA A S h pass C (low + 1) = lkA A S h pass C low ++ lkI A S h pass low (2 ^ cK A 0) := by rw [lkA, if_pos hr]
      rw [hr] at hre
      simp (disch := omega) only [bind_s, bd2_s, rdI_ok, rdJ_ok, rdT_ok, ixR_ok, wrI_ok, wrJ_ok, wrT_none, pfI_s, pfJ_s, pfZ_0, pfZ_1, zr_b2, nl_n, nl_s, nI_add, nI_mul, nI_sub, nI_shlm, nI_shrd, nI_or8, nI_or8r, nI_or5r, nI_and255, nI_and31, nI_and7, nI_and1, nI_andK, nI_clr, Nat.one_mul, nI_eqz, nI_eqq, nI_ltq, nI_ltz, nI_zlt, nI_nm1, nI_m2, m1_z, m1_lt0, m1_m1, b2_z, nI1_z, nI0_z, tb_0, tb_1, ite_nI, I_at, I_ne, J_at, J_ne, J_setI, I_setJ, ↓reduceIte, ltN_T, ltN_F, eqN_T, eqN_F, pow8, pow5, b2_f0, b2_t0, reduceCtorEq, Bool.false_eq_true, Bool.true_eq_false, eq_self, false_and, true_and, and_false, and_true, not_false_eq_true, not_true_eq_false, f8, hre]
      obtain ⟨s2, e2, i1, i2⟩ := t_looks43 (k := fun x1_12 x2_13 x3_14 x4_15 x5_16 s17 => f_X2_gatherLooks_14 d n x1_12 x2_13 x3_14 x4_15 (x5_16 + nI 1) s17) a hd hh hp hl (lkA_len a low) b' hv
      rw [e2]
      simp (disch := omega) only [bind_s, bd2_s, rdI_ok, rdJ_ok, rdT_ok, ixR_ok, wrI_ok, wrJ_ok, wrT_none, pfI_s, pfJ_s, pfZ_0, pfZ_1, zr_b2, nl_n, nl_s, nI_add, nI_mul, nI_sub, nI_shlm, nI_shrd, nI_or8, nI_or8r, nI_or5r, nI_and255, nI_and31, nI_and7, nI_and1, nI_andK, nI_clr, Nat.one_mul, nI_eqz, nI_eqq, nI_ltq, nI_ltz, nI_zlt, nI_nm1, nI_m2, m1_z, m1_lt0, m1_m1, b2_z, nI1_z, nI0_z, tb_0, tb_1, ite_nI, I_at, I_ne, J_at, J_ne, J_setI, I_setJ, ↓reduceIte, ltN_T, ltN_F, eqN_T, eqN_F, pow8, pow5, b2_f0, b2_t0, reduceCtorEq, Bool.false_eq_true, Bool.true_eq_false, eq_self, false_and, true_and, and_false, and_true, not_false_eq_true, not_true_eq_false]
      rw [e]
      exact ⟨s2, rfl, hQ _ ⟨hF.tr i1, by rw [e]; exact i2⟩⟩
  · rintro n s ⟨hF, -⟩
    have b' := BS_fr a hd b hF (fun y hy => by omega)
    have f8 := b'.2.2.2.1.2.1
    show f_X2_gatherLooks_14 d (n + 1) _ _ _ _ (nI (LW A)) s = _
    rw [f_X2_gatherLooks_14]
    simp (disch := omega) only [bind_s, bd2_s, rdI_ok, rdJ_ok, rdT_ok, ixR_ok, wrI_ok, wrJ_ok, wrT_none, pfI_s, pfJ_s, pfZ_0, pfZ_1, zr_b2, nl_n, nl_s, nI_add, nI_mul, nI_sub, nI_shlm, nI_shrd, nI_or8, nI_or8r, nI_or5r, nI_and255, nI_and31, nI_and7, nI_and1, nI_andK, nI_clr, Nat.one_mul, nI_eqz, nI_eqq, nI_ltq, nI_ltz, nI_zlt, nI_nm1, nI_m2, m1_z, m1_lt0, m1_m1, b2_z, nI1_z, nI0_z, tb_0, tb_1, ite_nI, I_at, I_ne, J_at, J_ne, J_setI, I_setJ, ↓reduceIte, ltN_T, ltN_F, eqN_T, eqN_F, pow8, pow5, b2_f0, b2_t0, reduceCtorEq, Bool.false_eq_true, Bool.true_eq_false, eq_self, false_and, true_and, and_false, and_true, not_false_eq_true, not_true_eq_false, f8]
end
