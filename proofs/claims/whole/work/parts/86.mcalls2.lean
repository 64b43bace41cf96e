section
/-! ===== the reference's calls: could, value, must, ever, howLong, since ===== -/
variable {A : AW} {σ : ST}
theorem b2t0 : ¬ b2 true = 0 := by decide
theorem b2f0 : b2 false = 0 := by decide
theorem guardT {i n : Nat} (hi : i < n) (hn : n < 2 ^ 31) : inR (nI i) n = true := by rw [inR_nI (by omega) hn, decide_eq_true hi]
theorem m_could (a : AOK A) (m : MR A σ) {h : Nat} (hh : h < 12) : ∃ u mm, f_X12_could (nI h) σ = some (if LE A (AL A) X0 < 100000000 then nI mm else -1, u) ∧ Fz σ u ∧ (LE A (AL A) X0 < 100000000 → bitsE (EP A (AL A) X0 h 1024 []) 7 (fun j act _ _ => act = j) mm) := by
  obtain ⟨u, e, F, v⟩ := t_solve (x := X0) a m (AL_lt a) (by decide)
  unfold f_X12_could
  rw [t_isHour, guardT hh (by decide), bd2_s, if_neg b2t0, t_mall a m, bd2_s, e, bd2_s]
  by_cases c : LE A (AL A) X0 < 100000000
  · obtain ⟨u1, mm, e1, F1, b⟩ := t_could27 a v c hh
    refine ⟨u1, mm, ?_, F.tr (Fz_e F1), fun _ => b⟩
    rw [decide_eq_true c, if_neg b2t0, if_pos c, e1]
  · refine ⟨u, 0, ?_, F, fun w => absurd w c⟩
    rw [decide_eq_false c, if_pos b2f0, if_neg c]
theorem m_could_no {x : Int32} (h : inR x 12 = false) : f_X12_could x σ = some (-1, σ) := by
  unfold f_X12_could
  rw [t_isHour, h, bd2_s, if_pos b2f0]
theorem m_value (a : AOK A) (m : MR A σ) {t h : Nat} (ht : t < nT A) (hk : kd A t = 3) (hh : h < 12) : ∃ u lo hi, f_X12_value (nI t) (nI h) σ = some (if LE A (AL A) X0 < 100000000 then nI (10 * hi + lo) else -1, u) ∧ Fz σ u ∧ (LE A (AL A) X0 < 100000000 → VaS A (AL A) X0 h 1024 lo hi) := by
  have hT := nT10 a
  obtain ⟨u, e, F, v⟩ := t_solve (x := X0) a m (AL_lt a) (by decide)
  have e3 := (m.2.1 t ht).1
  unfold f_X12_value
  rw [t_isThing m, guardT ht (by omega), bd2_s, if_neg b2t0, rdI_ok (show t < 10 by omega) (by decide), e3, hk]
  simp only [bind_s]
  rw [if_pos trivial, t_isHour, guardT hh (by decide), bd2_s, if_neg b2t0, t_mall a m, bd2_s, e, bd2_s]
  by_cases c : LE A (AL A) X0 < 100000000
  · obtain ⟨lo, hi, e1, b⟩ := t_value50 a v c hh
    refine ⟨u, lo, hi, ?_, F, fun _ => b⟩
    rw [decide_eq_true c, if_neg b2t0, if_pos c, e1]
  · refine ⟨u, 0, 0, ?_, F, fun w => absurd w c⟩
    rw [decide_eq_false c, if_pos b2f0, if_neg c]
theorem m_value_no (a : AOK A) (m : MR A σ) {x y : Int32} (h : inR x (nT A) = false ∨ (∃ t, t < nT A ∧ x = nI t ∧ kd A t ≠ 3) ∨ inR y 12 = false) : f_X12_value x y σ = some (-1, σ) := by
  have hT := nT10 a
  unfold f_X12_value
  rw [t_isThing m, bd2_s]
  cases c : inR x (nT A) with
  | false => rw [if_pos b2f0]
  | true =>
    rw [if_neg b2t0]
    obtain ⟨t, ht, rfl⟩ := inR_of c (by omega)
    have e3 := (m.2.1 t ht).1
    have hk := a.2.1 t ht
    rw [rdI_ok (show t < 10 by omega) (by decide), e3]
    simp only [bind_s]
    by_cases d : nI (kd A t) = nI 3
    · rw [if_pos d, t_isHour]
      rcases h with h | ⟨t', h1, h2, h3⟩ | h
      · rw [c] at h; cases h
      · exfalso
        have : t = t' := (nI_eq (by omega) (by omega)).mp h2
        subst this
        have hk4 : kd A t < 2 ^ 31 := by omega
        exact h3 ((nI_eq hk4 (by decide)).mp d)
      · rw [h, bd2_s, if_pos b2f0]
    · rw [if_neg d]
def OFs (A : AW) (S : Nat) (x : Nat × Nat) (b p q lo hi : Nat) : Prop := lo ≤ 12 ∧ hi ≤ 12 ∧ OF A S x b p q lo ∧ OF A S x b p q hi ∧ ∀ n, OF A S x b p q n → lo ≤ n ∧ n ≤ hi
theorem m_must (a : AOK A) (m : MR A σ) {act p q : Nat} (ha : act < nH A) (hpq : p ≤ q) (hq : q < 12) (hin : inHH (nI p) (nI q) = true) : ∃ u lo hi, f_X12_must (nI act) (nI p) (nI q) σ = some (if LE A (AL A) X0 < 100000000 then nI (if hi = 0 then 0 else if 0 < lo then 1 else 2) else -1, u) ∧ Fz σ u ∧ (LE A (AL A) X0 < 100000000 → OFs A (AL A) X0 (10 + act) p q lo hi) := by
  have hH := a.1.2.1
  obtain ⟨u, e, F, v⟩ := t_solve (x := X0) a m (AL_lt a) (by decide)
  unfold f_X12_must
  rw [t_isHappening m, guardT ha (by omega), bd2_s, if_neg b2t0, t_areHours, hin, bd2_s, if_neg b2t0, t_mall a m, bd2_s, e, bd2_s]
  by_cases c : LE A (AL A) X0 < 100000000
  · obtain ⟨u1, lo, hi, e1, F1, b⟩ := t_often (b := 10 + act) a v c hpq hq (x1 := -1) (x2 := nI act) (Or.inr ⟨by omega, by omega, rfl, by rw [Nat.add_sub_cancel_left]⟩)
    refine ⟨u1, lo, hi, ?_, F.tr (Fz_q F1 (fun y hy => by unfold F7 at hy; omega)), fun _ => b⟩
    rw [decide_eq_true c, if_neg b2t0, if_pos c, e1, bd2_s, t_told b.1 b.2.1, bd2_s]
  · refine ⟨u, 0, 0, ?_, F, fun w => absurd w c⟩
    rw [decide_eq_false c, if_pos b2f0, if_neg c]
theorem m_must_no (m : MR A σ) {x y z : Int32} (h : (inR x (nH A) && inHH y z) = false) : f_X12_must x y z σ = some (-1, σ) := by
  unfold f_X12_must
  rw [t_isHappening m, bd2_s]
  cases c : inR x (nH A) with
  | false => rw [if_pos b2f0]
  | true =>
    rw [c] at h
    have h' : inHH y z = false := h
    rw [if_neg b2t0, t_areHours, h', bd2_s, if_pos b2f0]
theorem m_ever (a : AOK A) (m : MR A σ) {t p q : Nat} (ht : t < nT A) (hpq : p ≤ q) (hq : q < 12) (hin : inHH (nI p) (nI q) = true) : ∃ u lo hi, f_X12_ever (nI t) (nI p) (nI q) σ = some (if LE A (AL A) X0 < 100000000 then nI (if hi = 0 then 0 else if 0 < lo then 1 else 2) else -1, u) ∧ Fz σ u ∧ (LE A (AL A) X0 < 100000000 → OFs A (AL A) X0 t p q lo hi) := by
  have hT := nT10 a
  obtain ⟨u, e, F, v⟩ := t_solve (x := X0) a m (AL_lt a) (by decide)
  unfold f_X12_ever
  rw [t_isThing m, guardT ht (by omega), bd2_s, if_neg b2t0, t_areHours, hin, bd2_s, if_neg b2t0, t_mall a m, bd2_s, e, bd2_s]
  by_cases c : LE A (AL A) X0 < 100000000
  · obtain ⟨u1, lo, hi, e1, F1, b⟩ := t_often (b := t) a v c hpq hq (x1 := nI t) (x2 := -1) (Or.inl ⟨by omega, rfl⟩)
    refine ⟨u1, lo, hi, ?_, F.tr (Fz_q F1 (fun y hy => by unfold F7 at hy; omega)), fun _ => b⟩
    rw [decide_eq_true c, if_neg b2t0, if_pos c, e1, bd2_s, t_told b.1 b.2.1, bd2_s]
  · refine ⟨u, 0, 0, ?_, F, fun w => absurd w c⟩
    rw [decide_eq_false c, if_pos b2f0, if_neg c]
theorem m_ever_no (m : MR A σ) {x y z : Int32} (h : (inR x (nT A) && inHH y z) = false) : f_X12_ever x y z σ = some (-1, σ) := by
  unfold f_X12_ever
  rw [t_isThing m, bd2_s]
  cases c : inR x (nT A) with
  | false => rw [if_pos b2f0]
  | true =>
    rw [c] at h
    have h' : inHH y z = false := h
    rw [if_neg b2t0, t_areHours, h', bd2_s, if_pos b2f0]
theorem m_howLong (a : AOK A) (m : MR A σ) {t p q : Nat} (ht : t < nT A) (hpq : p ≤ q) (hq : q < 12) (hin : inHH (nI p) (nI q) = true) : ∃ u lo hi, f_X12_howLong (nI t) (nI p) (nI q) σ = some (if LE A (AL A) X0 < 100000000 then nI (100 * hi + lo) else -1, u) ∧ Fz σ u ∧ (LE A (AL A) X0 < 100000000 → OFs A (AL A) X0 t p q lo hi) := by
  have hT := nT10 a
  obtain ⟨u, e, F, v⟩ := t_solve (x := X0) a m (AL_lt a) (by decide)
  unfold f_X12_howLong
  rw [t_isThing m, guardT ht (by omega), bd2_s, if_neg b2t0, t_areHours, hin, bd2_s, if_neg b2t0, t_mall a m, bd2_s, e, bd2_s]
  by_cases c : LE A (AL A) X0 < 100000000
  · obtain ⟨u1, lo, hi, e1, F1, b⟩ := t_often (b := t) a v c hpq hq (x1 := nI t) (x2 := -1) (Or.inl ⟨by omega, rfl⟩)
    refine ⟨u1, lo, hi, ?_, F.tr (Fz_q F1 (fun y hy => by unfold F7 at hy; omega)), fun _ => b⟩
    rw [decide_eq_true c, if_neg b2t0, if_pos c, e1, bd2_s]
  · refine ⟨u, 0, 0, ?_, F, fun w => absurd w c⟩
    rw [decide_eq_false c, if_pos b2f0, if_neg c]
theorem m_howLong_no (m : MR A σ) {x y z : Int32} (h : (inR x (nT A) && inHH y z) = false) : f_X12_howLong x y z σ = some (-1, σ) := by
  unfold f_X12_howLong
  rw [t_isThing m, bd2_s]
  cases c : inR x (nT A) with
  | false => rw [if_pos b2f0]
  | true =>
    rw [c] at h
    have h' : inHH y z = false := h
    rw [if_neg b2t0, t_areHours, h', bd2_s, if_pos b2f0]
end
