section
/-! ===== the reference's calls: plan, the whole ===== -/
variable {A : AW} {σ : ST}
/-- the first such, hour by hour -/
def plA (A : AW) (t g h : Nat) (r : Int32) : Prop := (r = -1 ∧ ∀ i act, g ≤ i → i < h → act < nH A → ¬ plG A t h i act) ∨ ∃ i act, g ≤ i ∧ i < h ∧ act < nH A ∧ plG A t h i act ∧ r = nI (10 * i + act) ∧ (∀ b, b < act → ¬ plG A t h i b) ∧ ∀ j b, g ≤ j → j < i → b < nH A → ¬ plG A t h j b
theorem t_plan75 (a : AOK A) (m : MR A σ) {t g h : Nat} (ht : t < 10) (hg : g ≤ h) (hh : h < 12) (p : P295 A (AL A) g h σ) : ∃ u r, f_X12_plan_75 FU (nI t) (nI h) (nI g) σ = some (r, u) ∧ Fz σ u ∧ plA A t g h r := by
  refine loopX (fun n i u => f_X12_plan_75 n (nI t) (nI h) (nI i) u) h (fun i u => Fy σ u ∧ g ≤ i ∧ ∀ j b, g ≤ j → j < i → b < nH A → ¬ plG A t h j b) (fun o => ∃ u r, o = some (r, u) ∧ Fz σ u ∧ plA A t g h r) ?_ ?_ FU g σ (by rw [FU_eq]; omega) hg ⟨Fy.rf _, Nat.le_refl _, fun j b h1 h2 => by omega⟩
  · rintro n i u hi ⟨F, hgi, hm⟩
    have mu := MR_fz m (Fz_y F)
    have pu : P295 A (AL A) g h u := fun j h1 h2 => by
      obtain ⟨v, v1, v2⟩ := p j h1 h2
      exact ⟨v, by rw [F.I]; exact v1, v2⟩
    show (∃ y, f_X12_plan_75 (n + 1) (nI t) (nI h) (nI i) u = f_X12_plan_75 n (nI t) (nI h) (nI (i + 1)) y ∧ _) ∨ _
    rw [f_X12_plan_75, if_pos ((nI_ltI (by omega) (by omega)).mpr hi)]
    rcases t_plan84 a mu ht hi hgi hh pu (k := fun x1_25 x3_26 x4_27 s28 => (f_X12_plan_75 n) x1_25 x3_26 (x4_27 + nI 1) s28) with ⟨u1, e1, F1, n1⟩ | ⟨act, u1, h1, h2, h3, e1, F1⟩
    · left
      rw [e1, nI_add]
      refine ⟨u1, rfl, F.tr F1, by omega, fun j b q1 q2 q3 => ?_⟩
      by_cases c : j = i
      · rw [c]; exact n1 b q3
      · exact hm j b q1 (by omega) q3
    · right
      rw [e1]
      exact ⟨u1, _, rfl, Fz_y (F.tr F1), Or.inr ⟨i, act, hgi, hi, h1, h2, rfl, h3, hm⟩⟩
  · rintro n u ⟨F, -, hm⟩
    show ∃ u' r, f_X12_plan_75 (n + 1) (nI t) (nI h) (nI h) u = some (r, u') ∧ _
    rw [f_X12_plan_75, if_neg (fun w => Nat.lt_irrefl _ ((nI_ltI (by omega) (by omega)).mp w))]
    exact ⟨u, -1, rfl, Fz_y F, Or.inl ⟨rfl, fun i act h1 h2 h3 => hm i act h1 h2 h3⟩⟩
theorem m_plan (a : AOK A) (m : MR A σ) {t g h : Nat} (ht : t < nT A) (hg : g < h) (hh : h < 12) : ∃ u r, f_X12_plan (nI t) (nI g) (nI h) σ = some (r, u) ∧ Fz σ u ∧ (LE A (AL A) X0 < 100000000 → plA A t g h r) ∧ (¬ LE A (AL A) X0 < 100000000 → r = -1) := by
  have hT := nT10 a
  obtain ⟨u, e, F, v⟩ := t_solve (x := X0) a m (AL_lt a) (by decide)
  unfold f_X12_plan
  rw [t_isThing m, guardT ht (by omega), bd2_s, if_neg b2t0, t_isHour, guardT (show g < 12 by omega) (by decide), bd2_s, if_neg b2t0, t_isHour, guardT hh (by decide), bd2_s, if_neg b2t0, if_pos ((nI_ltI (by omega) (by omega)).mpr hg), t_mall a m, bd2_s, e, bd2_s]
  by_cases c : LE A (AL A) X0 < 100000000
  · rw [decide_eq_true c, if_neg b2t0]
    obtain ⟨u1, e1, F1, p⟩ := t_plan47 a v c (x1 := nI t) (x2 := nI g) (show g ≤ h by omega) (show h ≤ 12 by omega) (k := fun x1_14 x2_15 x3_16 s17 => f_X12_plan_75 FU x1_14 x3_16 x2_15 s17)
    rw [e1]
    obtain ⟨u2, r, e2, F2, q⟩ := t_plan75 a (MR_fz m (F.tr F1)) (show t < 10 by omega) (show g ≤ h by omega) hh p
    exact ⟨u2, r, e2, (F.tr F1).tr F2, fun _ => q, fun w => absurd c w⟩
  · rw [decide_eq_false c, if_pos b2f0]
    exact ⟨u, -1, rfl, F, fun w => absurd w c, fun _ => rfl⟩
theorem m_plan_no (m : MR A σ) {x y z : Int32} (h : (inR x (nT A) && (inR y 12 && (inR z 12 && decide (y < z)))) = false) : f_X12_plan x y z σ = some (-1, σ) := by
  unfold f_X12_plan
  rw [t_isThing m, bd2_s]
  cases c1 : inR x (nT A) with
  | false => rw [if_pos b2f0]
  | true =>
    rw [if_neg b2t0, t_isHour, bd2_s]
    cases c2 : inR y 12 with
    | false => rw [if_pos b2f0]
    | true =>
      rw [if_neg b2t0, t_isHour, bd2_s]
      cases c3 : inR z 12 with
      | false => rw [if_pos b2f0]
      | true =>
        rw [c1, c2, c3] at h
        have h' : decide (y < z) = false := h
        rw [if_neg b2t0, if_neg (of_decide_eq_false h')]
end
