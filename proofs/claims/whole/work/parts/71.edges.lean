section
/-! ===== the reference's steps from a state ===== -/
variable {A : AW} {σ : ST} {S h : Nat} {x : Nat × Nat}
def eA (p : Nat → Bool) (f : Nat) : Nat → List (Nat × Nat)
  | 0 => []
  | a + 1 => if p a = true then eA p f a ++ [(f, a)] else eA p f a
def eF (E : GR) (h s : Nat) : Nat → List (Nat × Nat)
  | 0 => []
  | f + 1 => eF E h s f ++ eA (fun a => (E h s f a).isSome) f 7
theorem eA_len (p : Nat → Bool) (f : Nat) : ∀ a, (eA p f a).length ≤ a := by
  intro a
  induction a with
  | zero => exact Nat.le_refl _
  | succ a ih =>
    rw [eA]
    split
    · rw [List.length_append, List.length_singleton]; omega
    · omega
theorem eF_len (E : GR) (h s : Nat) : ∀ f, (eF E h s f).length ≤ 7 * f := by
  intro f
  induction f with
  | zero => exact Nat.le_refl _
  | succ f ih =>
    rw [eF, List.length_append]
    have := eA_len (fun a => (E h s f a).isSome) f 7
    omega
/-- the steps are laid out in the reference's rows -/
def EdA (A : AW) (S : Nat) (x : Nat × Nat) (h s : Nat) (L : List (Nat × Nat)) (σ : ST) : Prop := σ.1 247 40 = nI L.length ∧ ∀ e, e < L.length → σ.1 278 e = nI ((L.getD e (0, 0)).1 * 256 + s % 256) ∧ σ.1 279 e = nI (L.getD e (0, 0)).2 ∧ σ.1 280 e = nI (TG A S x h s (L.getD e (0, 0)).1 (L.getD e (0, 0)).2) ∧ σ.1 281 e = nI (cst A S x h (L.getD e (0, 0)).2)
/-- what stays beneath steps -/
def Fe (σ s : ST) : Prop := Fr (fun y => y = 247 ∨ (278 ≤ y ∧ y ≤ 281)) σ s ∧ ∀ k, k ≠ 40 → s.1 247 k = σ.1 247 k
theorem Fe.rf (σ : ST) : Fe σ σ := ⟨Fr.rf _ _, fun _ _ => rfl⟩
theorem Fe.tr {σ s u : ST} (h : Fe σ s) (g : Fe s u) : Fe σ u := ⟨h.1.tr g.1, fun k a => (g.2 k a).trans (h.2 k a)⟩
theorem Fe_set {σ : ST} {a k : Nat} {v : Int32} (h : 278 ≤ a ∧ a ≤ 281) : Fe σ (setI σ a k v) := ⟨Fr_setI (Or.inr h), fun j _ => I_ne (Or.inl (by omega))⟩
theorem Fe_40 {σ : ST} {v : Int32} : Fe σ (setI σ 247 40 v) := ⟨Fr_setI (Or.inl rfl), fun j hj => I_ne (Or.inr hj)⟩
theorem Fe.I {σ s : ST} (h : Fe σ s) {y : Nat} (h1 : y ≠ 247) (h2 : y < 278 ∨ 281 < y) (k : Nat) : s.1 y k = σ.1 y k := h.1.I (fun q => by omega) k
theorem Fe.J {σ s : ST} (h : Fe σ s) {y : Nat} (h1 : y ≠ 247) (h2 : y < 278 ∨ 281 < y) (k : Nat) : s.2.1 y k = σ.2.1 y k := h.1.J (fun q => by omega) k
theorem MR_fe {s : ST} (m : MR A σ) (h : Fe σ s) : MR A s := MR_eq m (h.2 0 (by omega)) (h.2 4 (by omega)) (h.2 9 (by omega)) (fun y h1 h2 => (h.1.1 y (by omega)).1)
theorem GM_fe {s : ST} (g : GM A S x σ) (h : Fe σ s) : GM A S x s := by
  refine ⟨fun hh h12 => ?_, by rw [h.2 36 (by omega)]; exact g.2.1, fun k h1 h2 h3 => by rw [h.I (by omega) (by omega)]; exact g.2.2 k h1 h2 h3⟩
  obtain ⟨g1, ⟨b, g2, g3, g4⟩, g5, g6, g7⟩ := g.1 hh h12
  exact ⟨by rw [h.I (by omega) (by omega)]; exact g1, ⟨b, g2, by rw [h.I (by omega) (by omega)]; exact g3, g4⟩, by rw [h.I (by omega) (by omega)]; exact g5, by rw [h.I (by omega) (by omega)]; exact g6, by rw [h.I (by omega) (by omega)]; exact g7⟩
theorem TBm_fe {s : ST} (t : TBm A σ) (h : Fe σ s) : TBm A s := by
  intro m hm
  obtain ⟨t1, t2⟩ := t m hm
  refine ⟨fun q => by rw [h.I (by omega) (by omega)]; exact t1 q, fun q => ?_⟩
  obtain ⟨u1, u2, u3⟩ := t2 q
  exact ⟨by rw [h.I (by omega) (by omega)]; exact u1, by rw [h.I (by omega) (by omega)]; exact u2, fun b hb => by rw [h.I (by omega) (by omega)]; exact u3 b hb⟩
theorem CTm_fe {s : ST} (c : CTm A σ) (h : Fe σ s) : CTm A s := ⟨by rw [h.2 27 (by omega)]; exact c.1, by rw [h.2 28 (by omega)]; exact c.2.1, by rw [h.2 29 (by omega)]; exact c.2.2⟩
/-- all that steps stand on -/
def MB (A : AW) (S : Nat) (x : Nat × Nat) (σ : ST) : Prop := MR A σ ∧ GM A S x σ ∧ TBm A σ ∧ CTm A σ
theorem MB_fe {s : ST} (b : MB A S x σ) (h : Fe σ s) : MB A S x s := ⟨MR_fe b.1 h, GM_fe b.2.1 h, TBm_fe b.2.2.1 h, CTm_fe b.2.2.2 h⟩
theorem br_msk (hb : nS A S ≤ nS A S) {a : Nat} : msk (fun i => (br A S (nP A) h a).testBit i) (nS A S) = br A S (nP A) h a := by
  apply Nat.eq_of_testBit_eq
  intro j
  rw [msk_tb]
  by_cases hj : j < nS A S
  · rw [decide_eq_true hj]; rfl
  · rw [decide_eq_false hj]
    exact (Nat.testBit_lt_two_pow (Nat.lt_of_lt_of_le (br_lt _ _ _) (two_le (show nS A S ≤ j by omega)))).symm
theorem t_met (a : AOK A) (b : MB A S x σ) (hh : h < 12) {s act m f fl : Nat} (hs : s < 1024) (ha : act < 7) (hfl : fl < 2 ^ nS A S) {k : Int32 → Int32 → Int32 → Int32 → Int32 → Int32 → ST → Option ST} : f_X12_edgesOf_260 k FU (nI h) (nI s) (nI f) (nI m) (nI act) (nI fl) (nI 0) σ = k (nI h) (nI s) (nI f) (nI m) (nI act) (nI (fl ||| br A S (nP A) h act)) σ := by
  have h2 := nS_le (S := S) a
  have hP := a.1.2.2
  obtain ⟨mr, ⟨-, sp1, sp2⟩, -, -⟩ := b
  have e0 := br_msk (S := S) (h := h) (a := act) (A := A) (Nat.le_refl _)
  rw [← e0]
  have z : nI fl = nI (fl ||| msk (fun i => (br A S (nP A) h act).testBit i) 0) := by rw [msk, Nat.or_zero]
  rw [z]
  refine loopC (fun n j => f_X12_edgesOf_260 k n (nI h) (nI s) (nI f) (nI m) (nI act) (nI (fl ||| msk (fun i => (br A S (nP A) h act).testBit i) j)) (nI j) σ) (nS A S) _ ?_ ?_ FU 0 (by rw [FU_eq]; omega) (Nat.zero_le _)
  · intro n j hj
    obtain ⟨K, k1, k2, k3⟩ := spn_sur hj
    have sj := sp2 K k1 k2.1 k2.2
    rw [k3] at sj
    obtain ⟨-, p1, p2, p3, -⟩ := mr.2.2.2.1 K k1
    obtain ⟨-, q2, q3, -, -, -, -, q8, -⟩ := a.2.2.2.2.1 K k1
    have hpo := q8 (by omega)
    have hH := a.1.2.1
    have ebr : (br A S (nP A) h act).testBit j = true ↔ (po A K = act ∧ pp A K ≤ h ∧ h ≤ pq A K) := by
      rw [br_tb]
      constructor
      · rintro ⟨K', r1, r2, r3⟩
        have := spn_inj ⟨r2.1, r2.2.1⟩ k2 (by omega)
        subst this
        exact ⟨r2.2.2.2.2, r2.2.2.1, r2.2.2.2.1⟩
      · rintro ⟨r1, r2, r3⟩; exact ⟨K, k1, ⟨k2.1, k2.2, r2, r3, r1⟩, k3⟩
    show f_X12_edgesOf_260 k (n + 1) _ _ _ _ _ _ (nI j) σ = f_X12_edgesOf_260 k n _ _ _ _ _ (nI (fl ||| msk (fun i => (br A S (nP A) h act).testBit i) (j + 1))) (nI (j + 1)) σ
    have hms : msk (fun i => (br A S (nP A) h act).testBit i) (j + 1) = if (br A S (nP A) h act).testBit j = true then msk (fun i => (br A S (nP A) h act).testBit i) j ||| 2 ^ j else msk (fun i => (br A S (nP A) h act).testBit i) j := rfl
    rw [f_X12_edgesOf_260, hms]
    have sp1' : σ.1 247 36 = nI (nS A S) := sp1
    by_cases c1 : po A K = act
    · by_cases c2 : h < pp A K
      · have hb : (br A S (nP A) h act).testBit j = false := by
          cases q : (br A S (nP A) h act).testBit j with
          | false => rfl
          | true => have := ebr.mp q; omega
        simp (disch := omega) only [bind_s, bd2_s, rdI_ok, rdJ_ok, rdT_ok, ixR_ok, wrI_ok, wrJ_ok, wrT_none, pfI_s, pfJ_s, pfZ_0, pfZ_1, zr_b2, nl_n, nl_s, nI_add, nI_mul, nI_sub, nI_shlm, nI_shrd, nI_or8, nI_or8r, nI_or5r, nI_and255, nI_and31, nI_and7, nI_and1, nI_andK, nI_clr, Nat.one_mul, nI_eqz, nI_eqq, nI_ltq, nI_ltz, nI_zlt, nI_nm1, nI_m2, m1_z, m1_lt0, m1_m1, b2_z, nI1_z, nI0_z, tb_0, tb_1, ite_nI, I_at, I_ne, J_at, J_ne, J_setI, I_setJ, ↓reduceIte, ltN_T, ltN_F, eqN_T, eqN_F, pow8, pow5, b2_f0, b2_t0, reduceCtorEq, Bool.false_eq_true, Bool.true_eq_false, eq_self, false_and, true_and, and_false, and_true, not_false_eq_true, not_true_eq_false, sp1', sj, p1, p2, p3, c1, hb]
      · by_cases c3 : pq A K < h
        · have hb : (br A S (nP A) h act).testBit j = false := by
            cases q : (br A S (nP A) h act).testBit j with
            | false => rfl
            | true => have := ebr.mp q; omega
          simp (disch := omega) only [bind_s, bd2_s, rdI_ok, rdJ_ok, rdT_ok, ixR_ok, wrI_ok, wrJ_ok, wrT_none, pfI_s, pfJ_s, pfZ_0, pfZ_1, zr_b2, nl_n, nl_s, nI_add, nI_mul, nI_sub, nI_shlm, nI_shrd, nI_or8, nI_or8r, nI_or5r, nI_and255, nI_and31, nI_and7, nI_and1, nI_andK, nI_clr, Nat.one_mul, nI_eqz, nI_eqq, nI_ltq, nI_ltz, nI_zlt, nI_nm1, nI_m2, m1_z, m1_lt0, m1_m1, b2_z, nI1_z, nI0_z, tb_0, tb_1, ite_nI, I_at, I_ne, J_at, J_ne, J_setI, I_setJ, ↓reduceIte, ltN_T, ltN_F, eqN_T, eqN_F, pow8, pow5, b2_f0, b2_t0, reduceCtorEq, Bool.false_eq_true, Bool.true_eq_false, eq_self, false_and, true_and, and_false, and_true, not_false_eq_true, not_true_eq_false, sp1', sj, p1, p2, p3, c1, hb]
        · have hb := ebr.mpr ⟨c1, by omega, by omega⟩
          simp (disch := omega) only [bind_s, bd2_s, rdI_ok, rdJ_ok, rdT_ok, ixR_ok, wrI_ok, wrJ_ok, wrT_none, pfI_s, pfJ_s, pfZ_0, pfZ_1, zr_b2, nl_n, nl_s, nI_add, nI_mul, nI_sub, nI_shlm, nI_shrd, nI_or8, nI_or8r, nI_or5r, nI_and255, nI_and31, nI_and7, nI_and1, nI_andK, nI_clr, Nat.one_mul, nI_eqz, nI_eqq, nI_ltq, nI_ltz, nI_zlt, nI_nm1, nI_m2, m1_z, m1_lt0, m1_m1, b2_z, nI1_z, nI0_z, tb_0, tb_1, ite_nI, I_at, I_ne, J_at, J_ne, J_setI, I_setJ, ↓reduceIte, ltN_T, ltN_F, eqN_T, eqN_F, pow8, pow5, b2_f0, b2_t0, reduceCtorEq, Bool.false_eq_true, Bool.true_eq_false, eq_self, false_and, true_and, and_false, and_true, not_false_eq_true, not_true_eq_false, sp1', sj, p1, p2, p3, c1, hb, nI_or]
          rw [Nat.or_assoc]
    · have hb : (br A S (nP A) h act).testBit j = false := by
        cases q : (br A S (nP A) h act).testBit j with
        | false => rfl
        | true => exact absurd (ebr.mp q).1 c1
      simp (disch := omega) only [bind_s, bd2_s, rdI_ok, rdJ_ok, rdT_ok, ixR_ok, wrI_ok, wrJ_ok, wrT_none, pfI_s, pfJ_s, pfZ_0, pfZ_1, zr_b2, nl_n, nl_s, nI_add, nI_mul, nI_sub, nI_shlm, nI_shrd, nI_or8, nI_or8r, nI_or5r, nI_and255, nI_and31, nI_and7, nI_and1, nI_andK, nI_clr, Nat.one_mul, nI_eqz, nI_eqq, nI_ltq, nI_ltz, nI_zlt, nI_nm1, nI_m2, m1_z, m1_lt0, m1_m1, b2_z, nI1_z, nI0_z, tb_0, tb_1, ite_nI, I_at, I_ne, J_at, J_ne, J_setI, I_setJ, ↓reduceIte, ltN_T, ltN_F, eqN_T, eqN_F, pow8, pow5, b2_f0, b2_t0, reduceCtorEq, Bool.false_eq_true, Bool.true_eq_false, eq_self, false_and, true_and, and_false, and_true, not_false_eq_true, not_true_eq_false, sp1', sj, p1, p2, p3, c1, hb]
  · intro n
    have sp1' : σ.1 247 36 = nI (nS A S) := sp1
    show f_X12_edgesOf_260 k (n + 1) _ _ _ _ _ _ (nI (nS A S)) σ = _
    rw [f_X12_edgesOf_260]
    simp (disch := omega) only [bind_s, bd2_s, rdI_ok, rdJ_ok, rdT_ok, ixR_ok, wrI_ok, wrJ_ok, wrT_none, pfI_s, pfJ_s, pfZ_0, pfZ_1, zr_b2, nl_n, nl_s, nI_add, nI_mul, nI_sub, nI_shlm, nI_shrd, nI_or8, nI_or8r, nI_or5r, nI_and255, nI_and31, nI_and7, nI_and1, nI_andK, nI_clr, Nat.one_mul, nI_eqz, nI_eqq, nI_ltq, nI_ltz, nI_zlt, nI_nm1, nI_m2, m1_z, m1_lt0, m1_m1, b2_z, nI1_z, nI0_z, tb_0, tb_1, ite_nI, I_at, I_ne, J_at, J_ne, J_setI, I_setJ, ↓reduceIte, ltN_T, ltN_F, eqN_T, eqN_F, pow8, pow5, b2_f0, b2_t0, reduceCtorEq, Bool.false_eq_true, Bool.true_eq_false, eq_self, false_and, true_and, and_false, and_true, not_false_eq_true, not_true_eq_false, sp1']
/-- a step is added -/
theorem t_edge (a : AOK A) (b : MB A S x σ) (hh : h < 12) {s f act : Nat} (vs : vst A s) (hfl : s / 256 < 2 ^ nS A S) (hs : s < 1024) (hf : f < 2 ^ cK A 0) (ha : act = 6 ∨ act < nH A) {L : List (Nat × Nat)} (hL : L.length < 28) (ed : EdA A S x h s L σ) (hE : EG A S x h s f act = some (tos A S h s f act, cst A S x h act)) (ht : σ.1 270 h ≠ -2) {k : Int32 → Int32 → Int32 → Int32 → Int32 → ST → Option ST} : ∃ u, f_X12_edgesOf_251 k (nI h) (nI s) (nI f) (nI (f * 256 + s % 256)) (nI act) σ = k (nI h) (nI s) (nI f) (nI (f * 256 + s % 256)) (nI (act + 1)) u ∧ Fe σ u ∧ EdA A S x h s (L ++ [(f, act)]) u := by
  have hH := a.1.2.1
  have h4 := S4 (S := S) a
  have hF4 := F4 a
  have hK := K32 a
  obtain ⟨e40, ee⟩ := ed
  have hsm : f * 256 + s % 256 < 1024 := by omega
  have hmm : (f * 256 + s % 256) % 32 = s % 32 ∧ (f * 256 + s % 256) / 32 % 8 = s / 32 % 8 ∧ (f * 256 + s % 256) / 256 = f := by omega
  have hvm : VM A (f * 256 + s % 256) := by
    unfold VM
    rw [hmm.1, hmm.2.1, hmm.2.2]
    exact ⟨vs.1, hf, vs.2⟩
  have hso : som A (f * 256 + s % 256) = so A f (s % 32) (s / 32 % 8) := by unfold som; rw [hmm.1, hmm.2.1, hmm.2.2]
  obtain ⟨-, -, tb3⟩ := (b.2.2.1 _ hsm).2 hvm
  have t9 := tb3 act ha.symm
  rw [hso, hmm.1, hmm.2.1] at t9
  have hn1 := nxk_lt a (so := so A f (s % 32) (s / 32 % 8)) (run := s / 32 % 8) (act := act) vs.1
  have hn2 := nxr_lt (A := A) (so := so A f (s % 32) (s / 32 % 8)) (run := s / 32 % 8) (act := act) (by omega)
  have hnx : NXm A (so A f (s % 32) (s / 32 % 8)) (s % 32) (s / 32 % 8) act < 256 := by unfold NXm; omega
  have hbr : s / 256 ||| br A S (nP A) h act < 4 := Nat.lt_of_lt_of_le (Nat.or_lt_two_pow hfl (br_lt _ _ _)) h4
  have htg : TG A S x h s f act = (s / 256 ||| br A S (nP A) h act) * 256 + NXm A (so A f (s % 32) (s / 32 % 8)) (s % 32) (s / 32 % 8) act := by
    show tg (EG A S x) h s f act = _
    rw [tg_of hE]
    unfold tos NXm
    omega
  have i7 : 7 * (f * 256 + s % 256) + act < 7168 := by omega
  obtain ⟨g1, -⟩ := b.2.1.1 h hh
  rw [f_X12_edgesOf_251, nI_shrd (by omega) (by omega), pow8, t_met a b hh hs (by omega) hfl]
  have fin : ∀ v : Nat, v = cst A S x h act → Fe σ (setI (setI (setI (setI (setI σ 278 L.length (nI (f * 256 + s % 256))) 279 L.length (nI act)) 280 L.length (nI ((s / 256 ||| br A S (nP A) h act) * 256 + NXm A (so A f (s % 32) (s / 32 % 8)) (s % 32) (s / 32 % 8) act))) 281 L.length (nI v)) 247 40 (nI (L.length + 1))) ∧ EdA A S x h s (L ++ [(f, act)]) (setI (setI (setI (setI (setI σ 278 L.length (nI (f * 256 + s % 256))) 279 L.length (nI act)) 280 L.length (nI ((s / 256 ||| br A S (nP A) h act) * 256 + NXm A (so A f (s % 32) (s / 32 % 8)) (s % 32) (s / 32 % 8) act))) 281 L.length (nI v)) 247 40 (nI (L.length + 1))) := by
    intro v hv
    refine ⟨((((Fe_set (by omega)).tr (Fe_set (by omega))).tr (Fe_set (by omega))).tr (Fe_set (by omega))).tr Fe_40, by rw [I_at, List.length_append, List.length_singleton], fun e he => ?_⟩
    rw [List.length_append, List.length_singleton] at he
    by_cases q : e = L.length
    · subst q
      have eg : (L ++ [(f, act)]).getD L.length (0, 0) = (f, act) := by
        rw [List.getD_eq_getElem?_getD, List.getElem?_append_right (Nat.le_refl _), Nat.sub_self]; rfl
      rw [eg]
      refine ⟨?_, ?_, ?_, ?_⟩
      · rw [I_ne (Or.inl (by omega)), I_ne (Or.inl (by omega)), I_ne (Or.inl (by omega)), I_ne (Or.inl (by omega)), I_at]
      · rw [I_ne (Or.inl (by omega)), I_ne (Or.inl (by omega)), I_ne (Or.inl (by omega)), I_at]
      · rw [I_ne (Or.inl (by omega)), I_ne (Or.inl (by omega)), I_at, htg]
      · rw [I_ne (Or.inl (by omega)), I_at, hv]
    · have eg : (L ++ [(f, act)]).getD e (0, 0) = L.getD e (0, 0) := by
        rw [List.getD_eq_getElem?_getD, List.getD_eq_getElem?_getD, List.getElem?_append_left (by omega)]
      rw [eg]
      obtain ⟨r1, r2, r3, r4⟩ := ee e (by omega)
      refine ⟨?_, ?_, ?_, ?_⟩
      · rw [I_ne (Or.inl (by omega)), I_ne (Or.inl (by omega)), I_ne (Or.inl (by omega)), I_ne (Or.inl (by omega)), I_ne (Or.inr q)]; exact r1
      · rw [I_ne (Or.inl (by omega)), I_ne (Or.inl (by omega)), I_ne (Or.inl (by omega)), I_ne (Or.inr q), I_ne (Or.inl (by omega))]; exact r2
      · rw [I_ne (Or.inl (by omega)), I_ne (Or.inl (by omega)), I_ne (Or.inr q), I_ne (Or.inl (by omega)), I_ne (Or.inl (by omega))]; exact r3
      · rw [I_ne (Or.inl (by omega)), I_ne (Or.inr q), I_ne (Or.inl (by omega)), I_ne (Or.inl (by omega)), I_ne (Or.inl (by omega))]; exact r4
  simp (disch := omega) only [bind_s, bd2_s, rdI_ok, rdJ_ok, rdT_ok, ixR_ok, wrI_ok, wrJ_ok, wrT_none, pfI_s, pfJ_s, pfZ_0, pfZ_1, zr_b2, nl_n, nl_s, nI_add, nI_mul, nI_sub, nI_shlm, nI_shrd, nI_or8, nI_or8r, nI_or5r, nI_and255, nI_and31, nI_and7, nI_and1, nI_andK, nI_clr, Nat.one_mul, nI_eqz, nI_eqq, nI_ltq, nI_ltz, nI_zlt, nI_nm1, nI_m2, m1_z, m1_lt0, m1_m1, b2_z, nI1_z, nI0_z, tb_0, tb_1, ite_nI, I_at, I_ne, J_at, J_ne, J_setI, I_setJ, ↓reduceIte, ltN_T, ltN_F, eqN_T, eqN_F, pow8, pow5, b2_f0, b2_t0, reduceCtorEq, Bool.false_eq_true, Bool.true_eq_false, eq_self, false_and, true_and, and_false, and_true, not_false_eq_true, not_true_eq_false, e40, t9]
  by_cases e6 : act = 6
  · have hc : 0 = cst A S x h act := by unfold cst; rw [if_neg (fun w => by omega)]
    have hn : ¬ act < nH A := by omega
    obtain ⟨r1, r2⟩ := fin 0 hc
    rw [if_pos e6, f_X12_edgesOf_401]
    simp (disch := omega) only [bind_s, bd2_s, rdI_ok, rdJ_ok, rdT_ok, ixR_ok, wrI_ok, wrJ_ok, wrT_none, pfI_s, pfJ_s, pfZ_0, pfZ_1, zr_b2, nl_n, nl_s, nI_add, nI_mul, nI_sub, nI_shlm, nI_shrd, nI_or8, nI_or8r, nI_or5r, nI_and255, nI_and31, nI_and7, nI_and1, nI_andK, nI_clr, Nat.one_mul, nI_eqz, nI_eqq, nI_ltq, nI_ltz, nI_zlt, nI_nm1, nI_m2, m1_z, m1_lt0, m1_m1, b2_z, nI1_z, nI0_z, tb_0, tb_1, ite_nI, I_at, I_ne, J_at, J_ne, J_setI, I_setJ, ↓reduceIte, ltN_T, ltN_F, eqN_T, eqN_F, pow8, pow5, b2_f0, b2_t0, reduceCtorEq, Bool.false_eq_true, Bool.true_eq_false, eq_self, false_and, true_and, and_false, and_true, not_false_eq_true, not_true_eq_false, e40]
    exact ⟨_, rfl, r1, r2⟩
  · rw [if_neg e6]
    have han : act < nH A := ha.resolve_left e6
    obtain ⟨len, -, -, -, -, -, hpr, -⟩ := b.1.2.2.1 act han
    rcases g1 with ⟨v1, v2, -⟩ | ⟨c, hc6, v1, v2, -⟩ | ⟨v1, -⟩
    · have hc : pr A act = cst A S x h act := by unfold cst; rw [if_pos ⟨han, v2⟩]
      obtain ⟨r1, r2⟩ := fin _ hc
      simp (disch := omega) only [bind_s, bd2_s, rdI_ok, rdJ_ok, rdT_ok, ixR_ok, wrI_ok, wrJ_ok, wrT_none, pfI_s, pfJ_s, pfZ_0, pfZ_1, zr_b2, nl_n, nl_s, nI_add, nI_mul, nI_sub, nI_shlm, nI_shrd, nI_or8, nI_or8r, nI_or5r, nI_and255, nI_and31, nI_and7, nI_and1, nI_andK, nI_clr, Nat.one_mul, nI_eqz, nI_eqq, nI_ltq, nI_ltz, nI_zlt, nI_nm1, nI_m2, m1_z, m1_lt0, m1_m1, b2_z, nI1_z, nI0_z, tb_0, tb_1, ite_nI, I_at, I_ne, J_at, J_ne, J_setI, I_setJ, ↓reduceIte, ltN_T, ltN_F, eqN_T, eqN_F, pow8, pow5, b2_f0, b2_t0, reduceCtorEq, Bool.false_eq_true, Bool.true_eq_false, eq_self, false_and, true_and, and_false, and_true, not_false_eq_true, not_true_eq_false, e40, v1, hpr]
      exact ⟨_, rfl, r1, r2⟩
    · have hc : 0 = cst A S x h act := by unfold cst; rw [if_neg (fun w => by rw [v2] at w; cases w.2)]
      obtain ⟨r1, r2⟩ := fin _ hc
      simp (disch := omega) only [bind_s, bd2_s, rdI_ok, rdJ_ok, rdT_ok, ixR_ok, wrI_ok, wrJ_ok, wrT_none, pfI_s, pfJ_s, pfZ_0, pfZ_1, zr_b2, nl_n, nl_s, nI_add, nI_mul, nI_sub, nI_shlm, nI_shrd, nI_or8, nI_or8r, nI_or5r, nI_and255, nI_and31, nI_and7, nI_and1, nI_andK, nI_clr, Nat.one_mul, nI_eqz, nI_eqq, nI_ltq, nI_ltz, nI_zlt, nI_nm1, nI_m2, m1_z, m1_lt0, m1_m1, b2_z, nI1_z, nI0_z, tb_0, tb_1, ite_nI, I_at, I_ne, J_at, J_ne, J_setI, I_setJ, ↓reduceIte, ltN_T, ltN_F, eqN_T, eqN_F, pow8, pow5, b2_f0, b2_t0, reduceCtorEq, Bool.false_eq_true, Bool.true_eq_false, eq_self, false_and, true_and, and_false, and_true, not_false_eq_true, not_true_eq_false, e40, v1]
      rw [f_X12_edgesOf_401]
      simp (disch := omega) only [bind_s, bd2_s, rdI_ok, rdJ_ok, rdT_ok, ixR_ok, wrI_ok, wrJ_ok, wrT_none, pfI_s, pfJ_s, pfZ_0, pfZ_1, zr_b2, nl_n, nl_s, nI_add, nI_mul, nI_sub, nI_shlm, nI_shrd, nI_or8, nI_or8r, nI_or5r, nI_and255, nI_and31, nI_and7, nI_and1, nI_andK, nI_clr, Nat.one_mul, nI_eqz, nI_eqq, nI_ltq, nI_ltz, nI_zlt, nI_nm1, nI_m2, m1_z, m1_lt0, m1_m1, b2_z, nI1_z, nI0_z, tb_0, tb_1, ite_nI, I_at, I_ne, J_at, J_ne, J_setI, I_setJ, ↓reduceIte, ltN_T, ltN_F, eqN_T, eqN_F, pow8, pow5, b2_f0, b2_t0, reduceCtorEq, Bool.false_eq_true, Bool.true_eq_false, eq_self, false_and, true_and, and_false, and_true, not_false_eq_true, not_true_eq_false, e40]
      exact ⟨_, rfl, r1, r2⟩
    · exact absurd v1 ht
end
