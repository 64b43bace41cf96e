section
/-! ===== the reference's calls: since, quarrel, why, seemed ===== -/
variable {A : AW} {σ : ST}
/-- a set without one -/
def clr (m k : Nat) : Nat := m &&& (2 ^ k ^^^ 4294967295)
theorem clq_le (m k : Nat) : clr m k ≤ m := Nat.and_le_left
theorem nI_clq (m : Nat) {k : Nat} (hk : k < 32) : nI m &&& ((nI 1 <<< (nI k &&& 31)) ^^^ (-1)) = nI (clr m k) := by
  have e1 : nI 1 <<< (nI k &&& 31) = nI (2 ^ k) := by rw [nI_shlm hk, Nat.one_mul]
  rw [e1, show (-1 : Int32) = nI 4294967295 from rfl, nI_xor, nI_and]
  rfl
theorem bit_q (m : Nat) {k : Nat} (hk : k < 31) (hm : m < 2 ^ 31) : ((nI m >>> (nI k &&& 31)) &&& nI 1 = 0) = (m.testBit k = false) := by
  cases c : m.testBit k with
  | true => simp (disch := omega) only [bind_s, bd2_s, rdT_ok, ixR_ok, wrT_none, pfI_s, pfJ_s, pfZ_0, pfZ_1, zr_b2, nl_n, nl_s, nI_add, nI_mul, nI_sub, nI_shlm, nI_shrd, nI_or8, nI_or8r, nI_or5r, nI_and255, nI_and31, nI_and7, nI_and1, nI_andK, nI_clr, Nat.one_mul, nI_eqz, nI_eqq, nI_ltq, nI_ltz, nI_zlt, nI_nm1, nI_m2, m1_z, m1_lt0, m1_m1, b2_z, nI1_z, nI0_z, tb_0, tb_1, ite_nI, I_at, I_ne, J_at, J_ne, J_setI, I_setJ, ↓reduceIte, ltN_T, ltN_F, eqN_T, eqN_F, pow8, pow5, b2_f0, b2_t0, reduceCtorEq, Bool.false_eq_true, Bool.true_eq_false, eq_self, false_and, true_and, and_false, and_true, not_false_eq_true, not_true_eq_false, c]
  | false => simp (disch := omega) only [bind_s, bd2_s, rdT_ok, ixR_ok, wrT_none, pfI_s, pfJ_s, pfZ_0, pfZ_1, zr_b2, nl_n, nl_s, nI_add, nI_mul, nI_sub, nI_shlm, nI_shrd, nI_or8, nI_or8r, nI_or5r, nI_and255, nI_and31, nI_and7, nI_and1, nI_andK, nI_clr, Nat.one_mul, nI_eqz, nI_eqq, nI_ltq, nI_ltz, nI_zlt, nI_nm1, nI_m2, m1_z, m1_lt0, m1_m1, b2_z, nI1_z, nI0_z, tb_0, tb_1, ite_nI, I_at, I_ne, J_at, J_ne, J_setI, I_setJ, ↓reduceIte, ltN_T, ltN_F, eqN_T, eqN_F, pow8, pow5, b2_f0, b2_t0, reduceCtorEq, Bool.false_eq_true, Bool.true_eq_false, eq_self, false_and, true_and, and_false, and_true, not_false_eq_true, not_true_eq_false, c]
theorem Fz_MR {s : ST} (m : MR A σ) (F : Fz σ s) : MR A s := MR_fz m F
/-! quarrel -/
noncomputable def qrN (A : AW) (m0 : Nat) : Nat → Nat
  | 0 => m0
  | k + 1 => if (qrN A m0 k).testBit k = true ∧ ¬ LE A (clr (qrN A m0 k) k) X0 < 100000000 then clr (qrN A m0 k) k else qrN A m0 k
theorem qrN_le (m0 : Nat) : ∀ k, qrN A m0 k ≤ m0 := by
  intro k
  induction k with
  | zero => exact Nat.le_refl _
  | succ k ih =>
    rw [qrN]
    split
    · exact Nat.le_trans (clq_le _ _) ih
    · exact ih
theorem t_quarrel19 (a : AOK A) (m : MR A σ) {m0 : Nat} (h0 : m0 < 2 ^ 16) : ∃ u, f_X12_quarrel_19 FU (nI m0) (nI 0) σ = some (nI (qrN A m0 (nP A)), u) ∧ Fz σ u := by
  have hP := a.1.2.2
  refine Exists.elim (loopE (A := Int32 × ST) (fun n i y => f_X12_quarrel_19 n y.1 (nI i) y.2) (nP A) (fun i y => y.1 = nI (qrN A m0 i) ∧ Fz σ y.2) (fun y => some (y.1, y.2)) ?_ ?_ FU 0 (nI m0, σ) (by rw [FU_eq]; omega) (Nat.zero_le _) ⟨rfl, Fz.rf _⟩) ?_
  · rintro n i ⟨y, u⟩ hi ⟨e, F⟩ Q hQ
    have e : y = nI (qrN A m0 i) := e
    have F : Fz σ u := F
    subst e
    have mu := MR_fz m F
    have hl : qrN A m0 i < 2 ^ 16 := Nat.lt_of_le_of_lt (qrN_le _ _) h0
    have hs : qrN A m0 (i + 1) = if (qrN A m0 i).testBit i = true ∧ ¬ LE A (clr (qrN A m0 i) i) X0 < 100000000 then clr (qrN A m0 i) i else qrN A m0 i := rfl
    generalize qrN A m0 i = w at *
    show ∃ y : Int32 × ST, f_X12_quarrel_19 (n + 1) (nI w) (nI i) u = f_X12_quarrel_19 n y.1 (nI (i + 1)) y.2 ∧ _
    rw [f_X12_quarrel_19, mu.1.2.2, if_pos ((nI_ltI (by omega) (by omega)).mpr hi), nI_clq w (show i < 32 by omega), nI_add]
    cases hb : w.testBit i with
    | false =>
      rw [if_pos ((bit_q w (by omega) (by omega)).mpr hb)]
      exact ⟨(_, u), rfl, hQ (_, u) ⟨(congrArg nI (hs.trans (if_neg (fun q => by rw [hb] at q; cases q.1)))).symm, F⟩⟩
    | true =>
      rw [if_neg (fun q => by have := (bit_q w (show i < 31 by omega) (by omega)).mp q; rw [hb] at this; cases this)]
      obtain ⟨u1, e1, F1, v1⟩ := t_solve (x := X0) a mu (Nat.lt_of_le_of_lt (clq_le w i) hl) (by decide)
      rw [e1, bd2_s]
      by_cases c : LE A (clr w i) X0 < 100000000
      · rw [decide_eq_true c, if_neg b2t0]
        exact ⟨(_, u1), rfl, hQ (_, u1) ⟨(congrArg nI (hs.trans (if_neg (fun q => q.2 c)))).symm, F.tr F1⟩⟩
      · rw [decide_eq_false c, if_pos b2f0]
        exact ⟨(_, u1), rfl, hQ (_, u1) ⟨(congrArg nI (hs.trans (if_pos ⟨hb, c⟩))).symm, F.tr F1⟩⟩
  · rintro n ⟨y, u⟩ ⟨e, F⟩
    have F : Fz σ u := F
    show f_X12_quarrel_19 (n + 1) y (nI (nP A)) u = _
    rw [f_X12_quarrel_19, (MR_fz m F).1.2.2, if_neg (fun w => Nat.lt_irrefl _ ((nI_ltI (by omega) (by omega)).mp w))]
  · rintro ⟨y, u⟩ ⟨e, e1, F⟩
    have e1 : y = nI (qrN A m0 (nP A)) := e1
    exact ⟨u, by rw [e, e1], F⟩
theorem m_quarrel (a : AOK A) (m : MR A σ) : ∃ u, f_X12_quarrel σ = some (if LE A (AL A) X0 < 100000000 then nI 0 else nI (qrN A (AL A) (nP A)), u) ∧ Fz σ u := by
  obtain ⟨u, e, F, v⟩ := t_solve (x := X0) a m (AL_lt a) (by decide)
  unfold f_X12_quarrel
  rw [t_mall a m, bd2_s, e, bd2_s]
  by_cases c : LE A (AL A) X0 < 100000000
  · rw [decide_eq_true c, if_neg b2t0, if_pos c]
    exact ⟨u, rfl, F⟩
  · rw [decide_eq_false c, if_pos b2f0, if_neg c]
    obtain ⟨u1, e1, F1⟩ := t_quarrel19 a (MR_fz m F) (AL_lt a)
    exact ⟨u1, e1, F.tr F1⟩
/-! why -/
noncomputable def whN (A : AW) (t h r m0 : Nat) : Nat → Nat
  | 0 => m0
  | k + 1 => if (whN A t h r m0 k).testBit k = true ∧ LE A (clr (whN A t h r m0 k) k) X0 < 100000000 ∧ isv A (clr (whN A t h r m0 k) k) X0 h t = r then clr (whN A t h r m0 k) k else whN A t h r m0 k
theorem whN_le (t h r m0 : Nat) : ∀ k, whN A t h r m0 k ≤ m0 := by
  intro k
  induction k with
  | zero => exact Nat.le_refl _
  | succ k ih =>
    rw [whN]
    split
    · exact Nat.le_trans (clq_le _ _) ih
    · exact ih
theorem cif_or (p : Prop) (b c : Nat) : cif p b c = b ∨ cif p b c = c := by
  rcases Classical.em p with h | h
  · exact Or.inl (cif_t h b c)
  · exact Or.inr (cif_f h b c)
theorem isv_le (S : Nat) (x : Nat × Nat) (h t : Nat) : isv A S x h t ≤ 2 := by
  unfold isv
  rcases cif_or (EP A S x h 1024 [] (fun _ f s => (so A f (s % 32) (s / 32 % 8)).testBit t = true)) (cif (EP A S x h 1024 [] (fun _ f s => (so A f (s % 32) (s / 32 % 8)).testBit t = false)) 2 1) 0 with e | e
  · rw [e]
    rcases cif_or (EP A S x h 1024 [] (fun _ f s => (so A f (s % 32) (s / 32 % 8)).testBit t = false)) 2 1 with e | e <;> rw [e] <;> decide
  · rw [e]; decide
theorem t_why27 (a : AOK A) (m : MR A σ) {t h r m0 : Nat} (ht : t < nT A) (hh : h < 12) (hr : r < 3) (h0 : m0 < 2 ^ 16) : ∃ u, f_X12_why_27 FU (nI t) (nI h) (nI r) (nI m0) (nI 0) σ = some (nI (whN A t h r m0 (nP A)), u) ∧ Fz σ u := by
  have hP := a.1.2.2
  have hT := nT10 a
  refine Exists.elim (loopE (A := Int32 × ST) (fun n i y => f_X12_why_27 n (nI t) (nI h) (nI r) y.1 (nI i) y.2) (nP A) (fun i y => y.1 = nI (whN A t h r m0 i) ∧ Fz σ y.2) (fun y => some (y.1, y.2)) ?_ ?_ FU 0 (nI m0, σ) (by rw [FU_eq]; omega) (Nat.zero_le _) ⟨rfl, Fz.rf _⟩) ?_
  · rintro n i ⟨y, u⟩ hi ⟨e, F⟩ Q hQ
    have e : y = nI (whN A t h r m0 i) := e
    have F : Fz σ u := F
    subst e
    have mu := MR_fz m F
    have hl : whN A t h r m0 i < 2 ^ 16 := Nat.lt_of_le_of_lt (whN_le _ _ _ _ _) h0
    have hs : whN A t h r m0 (i + 1) = if (whN A t h r m0 i).testBit i = true ∧ LE A (clr (whN A t h r m0 i) i) X0 < 100000000 ∧ isv A (clr (whN A t h r m0 i) i) X0 h t = r then clr (whN A t h r m0 i) i else whN A t h r m0 i := rfl
    generalize whN A t h r m0 i = w at *
    show ∃ y : Int32 × ST, f_X12_why_27 (n + 1) (nI t) (nI h) (nI r) (nI w) (nI i) u = f_X12_why_27 n (nI t) (nI h) (nI r) y.1 (nI (i + 1)) y.2 ∧ _
    rw [f_X12_why_27, mu.1.2.2, if_pos ((nI_ltI (by omega) (by omega)).mpr hi), nI_clq w (show i < 32 by omega), nI_add]
    cases hb : w.testBit i with
    | false =>
      rw [if_pos ((bit_q w (by omega) (by omega)).mpr hb)]
      exact ⟨(_, u), rfl, hQ (_, u) ⟨(congrArg nI (hs.trans (if_neg (fun q => by rw [hb] at q; cases q.1)))).symm, F⟩⟩
    | true =>
      rw [if_neg (fun q => by have := (bit_q w (show i < 31 by omega) (by omega)).mp q; rw [hb] at this; cases this)]
      obtain ⟨u1, e1, F1, v1⟩ := t_solve (x := X0) a mu (Nat.lt_of_le_of_lt (clq_le w i) hl) (by decide)
      rw [e1, bd2_s]
      by_cases c : LE A (clr w i) X0 < 100000000
      · rw [decide_eq_true c, if_neg b2t0]
        obtain ⟨u2, e2, F2⟩ := t_isOf a v1 c hh (show t < 10 by omega)
        have h2 := isv_le (A := A) (clr w i) X0 h t
        rw [e2, bd2_s]
        by_cases d : isv A (clr w i) X0 h t = r
        · rw [if_pos (congrArg nI d)]
          exact ⟨(_, u2), rfl, hQ (_, u2) ⟨(congrArg nI (hs.trans (if_pos ⟨hb, c, d⟩))).symm, (F.tr F1).tr (Fz_e F2)⟩⟩
        · rw [if_neg (fun q => d ((nI_eq (by omega) (by omega)).mp q))]
          exact ⟨(_, u2), rfl, hQ (_, u2) ⟨(congrArg nI (hs.trans (if_neg (fun q => d q.2.2)))).symm, (F.tr F1).tr (Fz_e F2)⟩⟩
      · rw [decide_eq_false c, if_pos b2f0]
        exact ⟨(_, u1), rfl, hQ (_, u1) ⟨(congrArg nI (hs.trans (if_neg (fun q => c q.2.1)))).symm, F.tr F1⟩⟩
  · rintro n ⟨y, u⟩ ⟨e, F⟩
    have F : Fz σ u := F
    show f_X12_why_27 (n + 1) _ _ _ y (nI (nP A)) u = _
    rw [f_X12_why_27, (MR_fz m F).1.2.2, if_neg (fun w => Nat.lt_irrefl _ ((nI_ltI (by omega) (by omega)).mp w))]
  · rintro ⟨y, u⟩ ⟨e, e1, F⟩
    have e1 : y = nI (whN A t h r m0 (nP A)) := e1
    exact ⟨u, by rw [e, e1], F⟩
end
