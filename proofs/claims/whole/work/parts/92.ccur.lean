section
/-! ===== the class: its least courses at hand ===== -/
variable {A : AW} {σ : ST}
theorem t_inForce (a : AOK A) (c : CR 2 A σ) : f_X10_inForce σ = some (nI (AL A), σ) := by
  obtain ⟨⟨-, -, c3, c4⟩, -⟩ := c
  have hP := a.1.2.2
  have hpos := Nat.two_pow_pos (nP A)
  have hbig : 2 ^ nP A ≤ 2 ^ 16 := Nat.pow_le_pow_right (by decide) hP
  unfold f_X10_inForce
  have e1 : (nI 1 <<< (σ.1 2 2 &&& 31)) - nI 1 = nI (2 ^ nP A - 1) := by simp (disch := omega) only [bind_s, bd2_s, rdT_ok, ixR_ok, wrT_none, pfI_s, pfJ_s, pfZ_0, pfZ_1, zr_b2, nl_n, nl_s, nI_add, nI_mul, nI_sub, nI_shlm, nI_shrd, nI_or8, nI_or8r, nI_or5r, nI_and255, nI_and31, nI_and7, nI_and1, nI_andK, nI_clr, Nat.one_mul, nI_eqz, nI_eqq, nI_ltq, nI_ltz, nI_zlt, nI_nm1, nI_m2, m1_z, m1_lt0, m1_m1, b2_z, nI1_z, nI0_z, tb_0, tb_1, ite_nI, I_at, I_ne, J_at, J_ne, J_setI, I_setJ, ↓reduceIte, ltN_T, ltN_F, eqN_T, eqN_F, pow8, pow5, b2_f0, b2_t0, reduceCtorEq, Bool.false_eq_true, Bool.true_eq_false, eq_self, false_and, true_and, and_false, and_true, not_false_eq_true, not_true_eq_false, c3]
  have e2 : (2 ^ nP A - 1) &&& (msk (fun k => decide (pb A k = 1)) (nP A) ^^^ 4294967295) = AL A := by
    unfold AL
    apply Nat.eq_of_testBit_eq
    intro j
    rw [Nat.testBit_and, Nat.testBit_two_pow_sub_one, Nat.testBit_xor, msk_tb, msk_tb]
    by_cases hj : j < nP A
    · have hb := (a.2.2.2.2.1 j hj).2.2.2.2.2.1
      have e3 : Nat.testBit 4294967295 j = true := by
        rw [show (4294967295 : Nat) = 2 ^ 32 - 1 from rfl, Nat.testBit_two_pow_sub_one, decide_eq_true_iff]; omega
      rw [e3, decide_eq_true hj]
      rcases (show pb A j = 0 ∨ pb A j = 1 by omega) with e | e <;> rw [e] <;> rfl
    · rw [decide_eq_false hj]; rfl
  rw [e1, c4, nI_clr, e2]
/-- the least courses at hand -/
def NW (A : AW) (σ : ST) : Prop := (LE A (AL A) X0 < 100000000 → KPT 197 A (AL A) X0 0 σ) ∧ (¬ LE A (AL A) X0 < 100000000 → σ.1 197 12 = -1 ∧ σ.2.1 197 13 = 0)
def CI (A : AW) (σ : ST) : Prop := (σ.1 0 12 = 0 → σ.1 0 11 = 0) ∧ (σ.1 0 11 = 0 → TB A σ) ∧ (σ.1 0 12 = 0 → NW A σ)
/-- what stays where the class looks up its least courses -/
def Fc (σ s : ST) : Prop := Fr (fun y => y = 0 ∨ (195 ≤ y ∧ y ≤ 212)) σ s ∧ (∀ k, k ≠ 11 → k ≠ 12 → s.1 0 k = σ.1 0 k) ∧ s.2.1 0 = σ.2.1 0 ∧ s.2.2.1 0 = σ.2.2.1 0
theorem Fc.rf (σ : ST) : Fc σ σ := ⟨Fr.rf _ _, fun _ _ _ => rfl, rfl, rfl⟩
theorem Fc.tr {σ s u : ST} (h : Fc σ s) (g : Fc s u) : Fc σ u := ⟨h.1.tr g.1, fun k a b => (g.2.1 k a b).trans (h.2.1 k a b), g.2.2.1.trans h.2.2.1, g.2.2.2.trans h.2.2.2⟩
theorem Fc_f {k : Nat} {v : Int32} (hk : k = 11 ∨ k = 12) : Fc σ (setI σ 0 k v) := ⟨Fr_setI (Or.inl rfl), fun j a b => I_ne (Or.inr (by omega)), by rw [J_setI], by rw [J_setI]⟩
theorem Fc_w {W : Nat → Prop} {s : ST} (h : Fr W σ s) (hW : ∀ y, W y → 195 ≤ y ∧ y ≤ 212) : Fc σ s := ⟨h.mono (fun y q => Or.inr (hW y q)), fun k _ _ => h.I (fun q => by have := hW _ q; omega) k, (h.1 0 (fun q => by have := hW _ q; omega)).2.1, (h.1 0 (fun q => by have := hW _ q; omega)).2.2⟩
theorem CR_fc {s : ST} (a : AOK A) (c : CR 2 A σ) (h : Fc σ s) : CR 2 A s := CR_fr a c h.1 (fun x hx => by omega)
theorem t_freshen (a : AOK A) (c : CR 2 A σ) (i : CI A σ) : ∃ u, f_X11_freshenTruth σ = some u ∧ Fc σ u ∧ u.1 0 11 = 0 ∧ u.1 0 12 = σ.1 0 12 ∧ TB A u ∧ (σ.1 0 12 = 0 → u = σ) := by
  unfold f_X11_freshenTruth
  by_cases h : σ.1 0 11 = 0
  · rw [if_pos h]
    exact ⟨σ, rfl, Fc.rf _, h, rfl, i.2.1 h, fun _ => rfl⟩
  · rw [if_neg h, pfZ_0]
    simp only [bind_s]
    have F1 : Fc σ (setI σ 0 11 0) := Fc_f (Or.inl rfl)
    obtain ⟨u, e, F2, t⟩ := t_fillTables a (CR_fc a c F1)
    rw [e]
    simp only [bind_s]
    refine ⟨u, rfl, F1.tr (Fc_w F2 (fun y hy => by omega)), ?_, ?_, t, fun q => absurd (i.1 q) h⟩
    · rw [F2.I (by omega), I_at]
    · rw [F2.I (by omega), I_ne (Or.inr (by decide))]
theorem t_current (a : AOK A) (c : CR 2 A σ) (i : CI A σ) : ∃ u, f_X11_current σ = some u ∧ Fc σ u ∧ u.1 0 11 = 0 ∧ u.1 0 12 = 0 ∧ TB A u ∧ NW A u := by
  obtain ⟨u, e, F, h11, h12, t, same⟩ := t_freshen a c i
  unfold f_X11_current
  rw [e]
  simp only [bind_s]
  by_cases h : σ.1 0 12 = 0
  · rw [if_pos (h12.trans h)]
    have := same h
    subst this
    exact ⟨u, rfl, F, h11, h, t, i.2.2 h⟩
  · rw [if_neg (fun q => h (h12.symm.trans q)), pfZ_0]
    simp only [bind_s]
    have F1 : Fc u (setI u 0 12 0) := Fc_f (Or.inr rfl)
    have c1 := CR_fc a (CR_fc a c F) F1
    have t1 : TB A (setI u 0 12 0) := TB_fr (W := fun y => y = 0) t (Fr_setI rfl) (fun y hy => by omega)
    obtain ⟨u1, e1, F2, fn⟩ := t_find (x := X0) a (Or.inl rfl) c1 t1 (AL_lt a) (by decide)
    have F2' := Fc_w F2 (fun y hy => by omega)
    have t2 : TB A u1 := TB_fr t1 F2 (fun y hy => by omega)
    have g : ∀ k, u1.1 0 k = (setI u 0 12 0).1 0 k := fun k => F2.I (by omega) k
    have g11 : u1.1 0 11 = 0 := by rw [g, I_ne (Or.inr (by decide))]; exact h11
    have g12 : u1.1 0 12 = 0 := by rw [g, I_at]
    rw [t_inForce a c1, bd2_s, e1, bd2_s]
    by_cases w : LE A (AL A) X0 < NV
    · obtain ⟨u2, e2, F3, kp⟩ := t_keepBest (first := 0) a (Or.inl rfl) (by omega) (CR_fc a c1 F2') t2 fn w
      rw [decide_eq_true w, if_neg b2t0, e2]
      simp only [bind_s]
      refine ⟨u2, rfl, ((F.tr F1).tr F2').tr (Fc_w F3 (fun y hy => by omega)), by rw [F3.I (by omega)]; exact g11, by rw [F3.I (by omega)]; exact g12, TB_fr t2 F3 (fun y hy => by omega), fun _ => kp, fun q => absurd w q⟩
    · obtain ⟨-, -, -, f12, f13⟩ := fn
      rw [decide_eq_false w, if_pos b2f0]
      rw [if_neg w] at f12
      exact ⟨u1, rfl, (F.tr F1).tr F2', g11, g12, t2, fun q => absurd q w, fun _ => ⟨f12, f13⟩⟩
theorem CI_of {u : ST} (h11 : u.1 0 11 = 0) (t : TB A u) (n : NW A u) : CI A u := ⟨fun _ => h11, fun _ => t, fun _ => n⟩
end
