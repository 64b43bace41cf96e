section
/-! ===== the reference's calls: why, since, out, seemed ===== -/
variable {A : AW} {σ : ST}
theorem nnI {r : Nat} (h : r < 13) : ¬ nI r < 0 := mq5 ⟨r, by omega⟩
theorem m_isV (a : AOK A) (m : MR A σ) {t h : Nat} (ht : t < nT A) (hh : h < 12) : ∃ u, f_X12_is (nI t) (nI h) σ = some (isA A (AL A) X0 t h, u) ∧ Fz σ u ∧ (LE A (AL A) X0 < 100000000 → SV A (AL A) X0 u) := by
  have hT := nT10 a
  obtain ⟨u, e, F, v⟩ := t_solve (x := X0) a m (AL_lt a) (by decide)
  unfold f_X12_is isA
  rw [t_isThing m, guardT ht (by omega), bd2_s, if_neg b2t0, t_isHour, guardT hh (by decide), bd2_s, if_neg b2t0, t_mall a m, bd2_s, e, bd2_s]
  by_cases c : LE A (AL A) X0 < 100000000
  · obtain ⟨u1, e1, F1⟩ := t_isOf a v c hh (show t < 10 by omega)
    refine ⟨u1, ?_, F.tr (Fz_e F1), fun _ => SV_fe v F1⟩
    rw [decide_eq_true c, if_neg b2t0, if_pos c, e1, bd2_s]
  · refine ⟨u, ?_, F, fun w => absurd w c⟩
    rw [decide_eq_false c, if_pos b2f0, if_neg c]
noncomputable def whyA (A : AW) (t h : Nat) : Int32 := if LE A (AL A) X0 < 100000000 ∧ isv A (AL A) X0 h t ≠ 2 then nI (whN A t h (isv A (AL A) X0 h t) (AL A) (nP A)) else -1
theorem m_why (a : AOK A) (m : MR A σ) {t h : Nat} (ht : t < nT A) (hh : h < 12) : ∃ u, f_X12_why (nI t) (nI h) σ = some (whyA A t h, u) ∧ Fz σ u := by
  obtain ⟨u, e, F, -⟩ := m_isV a m ht hh
  have mu := MR_fz m F
  have h2 := isv_le (A := A) (AL A) X0 h t
  unfold f_X12_why whyA
  rw [e, bd2_s]
  unfold isA
  by_cases c : LE A (AL A) X0 < 100000000
  · rw [if_pos c, if_neg (nnI (show isv A (AL A) X0 h t < 13 by omega))]
    by_cases d : isv A (AL A) X0 h t = 2
    · rw [if_pos (congrArg nI d), if_neg (fun q => q.2 d)]
      exact ⟨u, rfl, F⟩
    · rw [if_neg (fun q => d ((nI_eq (by omega) (by omega)).mp q)), if_pos ⟨c, d⟩, t_mall a mu, bd2_s]
      obtain ⟨u1, e1, F1⟩ := t_why27 a mu ht hh (show isv A (AL A) X0 h t < 3 by omega) (AL_lt a)
      exact ⟨u1, e1, F.tr F1⟩
  · rw [if_neg c, if_pos (show (-1 : Int32) < 0 by decide), if_neg (fun q => c q.1)]
    exact ⟨u, rfl, F⟩
theorem m_why_no (m : MR A σ) {x y : Int32} (h : (inR x (nT A) && inR y 12) = false) : f_X12_why x y σ = some (-1, σ) := by
  unfold f_X12_why
  rw [m_is_no m h, bd2_s, if_pos (show (-1 : Int32) < 0 by decide)]
/-! since -/
noncomputable def snN (A : AW) (t : Nat) : Nat → Nat
  | 0 => 0
  | k + 1 => if isv A (AL A) X0 k t = 1 then snN A t k else k + 1
theorem nI_s1 (k : Nat) : nI (k + 1) - nI 1 = nI k := by rw [← nI_add, Int32.add_sub_cancel]
theorem nI_d1 (k : Nat) : nI (k + 1) + (-1) = nI k := by
  rw [← nI_add, Int32.add_assoc, show nI 1 + (-1) = 0 from by decide, Int32.add_zero]
theorem t_since14 (a : AOK A) {t : Nat} (ht : t < 10) (c : LE A (AL A) X0 < 100000000) : ∀ k n, k < n → k ≤ 12 → ∀ σ, SV A (AL A) X0 σ → ∃ u, f_X12_since_14 n (nI t) (nI k) σ = some (nI (snN A t k), u) ∧ Fz σ u := by
  intro k
  induction k with
  | zero =>
    intro n hn _ σ v
    obtain ⟨n, rfl⟩ : ∃ j, n = j + 1 := ⟨n - 1, by omega⟩
    rw [f_X12_since_14, if_neg (by decide)]
    exact ⟨σ, rfl, Fz.rf _⟩
  | succ k ih =>
    intro n hn hk σ v
    obtain ⟨n, rfl⟩ : ∃ j, n = j + 1 := ⟨n - 1, by omega⟩
    obtain ⟨u, e, F⟩ := t_isOf a v c (show k < 12 by omega) ht
    have h2 := isv_le (A := A) (AL A) X0 k t
    have h0 : (0 : Int32) < nI (k + 1) := (nI_ltI (a := 0) (by decide) (by omega)).mpr (by omega)
    rw [f_X12_since_14, if_pos h0, nI_s1, nI_d1, e, bd2_s, snN]
    by_cases d : isv A (AL A) X0 k t = 1
    · rw [if_pos (congrArg nI d), if_pos d]
      obtain ⟨u1, e1, F1⟩ := ih n (by omega) (by omega) u (SV_fe v F)
      exact ⟨u1, e1, (Fz_e F).tr F1⟩
    · rw [if_neg (fun q => d ((nI_eq (by omega) (by omega)).mp q)), if_neg d]
      exact ⟨u, rfl, Fz_e F⟩
noncomputable def snA (A : AW) (t h : Nat) : Int32 := if LE A (AL A) X0 < 100000000 ∧ isv A (AL A) X0 h t = 1 then nI (snN A t h) else -1
theorem m_since (a : AOK A) (m : MR A σ) {t h : Nat} (ht : t < nT A) (hh : h < 12) : ∃ u, f_X12_since (nI t) (nI h) σ = some (snA A t h, u) ∧ Fz σ u := by
  have hT := nT10 a
  obtain ⟨u, e, F, v⟩ := m_isV a m ht hh
  have h2 := isv_le (A := A) (AL A) X0 h t
  unfold f_X12_since snA
  rw [e, bd2_s]
  unfold isA
  by_cases c : LE A (AL A) X0 < 100000000
  · rw [if_pos c]
    by_cases d : isv A (AL A) X0 h t = 1
    · rw [if_pos (congrArg nI d), if_pos ⟨c, d⟩]
      obtain ⟨u1, e1, F1⟩ := t_since14 a (show t < 10 by omega) c h FU (by rw [FU_eq]; omega) (by omega) u (v c)
      exact ⟨u1, e1, F.tr F1⟩
    · rw [if_neg (fun q => d ((nI_eq (by omega) (by omega)).mp q)), if_neg (fun q => d q.2)]
      exact ⟨u, rfl, F⟩
  · rw [if_neg c, if_neg (show ¬ (-1 : Int32) = nI 1 by decide), if_neg (fun q => c q.1)]
    exact ⟨u, rfl, F⟩
theorem m_since_no (m : MR A σ) {x y : Int32} (h : (inR x (nT A) && inR y 12) = false) : f_X12_since x y σ = some (-1, σ) := by
  unfold f_X12_since
  rw [m_is_no m h, bd2_s, if_neg (show ¬ (-1 : Int32) = nI 1 by decide)]
/-! seemed -/
def seS (A : AW) (mo h K : Nat) : Nat := msk (fun k => decide (pb A k = 0 ∧ pm A k = mo ∧ pq A k ≤ h)) K
theorem seS_lt (a : AOK A) (mo h : Nat) : seS A mo h (nP A) < 2 ^ 16 := Nat.lt_of_lt_of_le (msk_lt _ _) (Nat.pow_le_pow_right (by decide) a.1.2.2)
theorem t_seemed41 (a : AOK A) (m : MR A σ) {mo h : Nat} (hm : mo < 6) (hh : h < 12) {x3 x4 : Int32} {k : Int32 → Int32 → Int32 → ST → Option (Int32 × ST)} : f_X12_seemed_41 k FU (nI mo) (nI h) x3 x4 (nI 0) (nI 0) σ = k x3 x4 (nI (seS A mo h (nP A))) σ := by
  have hP := a.1.2.2
  refine Exists.elim (loopE (A := Int32) (fun n i y => f_X12_seemed_41 k n (nI mo) (nI h) x3 x4 y (nI i) σ) (nP A) (fun i y => y = nI (seS A mo h i)) (fun y => k x3 x4 y σ) ?_ ?_ FU 0 (nI 0) (by rw [FU_eq]; omega) (Nat.zero_le _) rfl) ?_
  · rintro n i y hi e Q hQ
    have e : y = nI (seS A mo h i) := e
    subst e
    obtain ⟨-, -, -, m3, -, m5, m6⟩ := m.2.2.2.1 i hi
    have hb := (a.2.2.2.2.1 i hi)
    have hs : seS A mo h (i + 1) = if decide (pb A i = 0 ∧ pm A i = mo ∧ pq A i ≤ h) = true then seS A mo h i ||| 2 ^ i else seS A mo h i := rfl
    have ob : nI (seS A mo h i) ||| (nI 1 <<< (nI i &&& 31)) = nI (seS A mo h i ||| 2 ^ i) := by rw [nI_shlm (by omega), Nat.one_mul]; exact nI_or _ _
    generalize seS A mo h i = w at *
    have no : ¬ (pb A i = 0 ∧ pm A i = mo ∧ pq A i ≤ h) → Q (nI w) := fun q => hQ _ (congrArg nI (hs.trans (if_neg (by rw [decide_eq_true_iff]; exact q)))).symm
    show ∃ y, f_X12_seemed_41 k (n + 1) (nI mo) (nI h) x3 x4 (nI w) (nI i) σ = f_X12_seemed_41 k n (nI mo) (nI h) x3 x4 y (nI (i + 1)) σ ∧ _
    rw [f_X12_seemed_41, m.1.2.2, if_pos ((nI_ltI (by omega) (by omega)).mpr hi), rdI_ok (show i < 16 by omega) (by decide), m6, ob, nI_add]
    simp only [bind_s]
    by_cases c1 : pb A i = 0
    · rw [if_pos (show nI (pb A i) = 0 by rw [c1]; rfl), rdI_ok (show i < 16 by omega) (by decide), m5]
      simp only [bind_s]
      by_cases c2 : pm A i = mo
      · rw [if_pos (congrArg nI c2), rdI_ok (show i < 16 by omega) (by decide), m3]
        simp only [bind_s]
        by_cases c3 : h < pq A i
        · rw [if_pos ((nI_ltI (by omega) (by omega)).mpr c3)]
          exact ⟨_, rfl, no (fun q => by omega)⟩
        · rw [if_neg (fun q => c3 ((nI_ltI (by omega) (by omega)).mp q))]
          exact ⟨_, rfl, hQ _ (congrArg nI (hs.trans (if_pos (decide_eq_true ⟨c1, c2, by omega⟩)))).symm⟩
      · rw [if_neg (fun q => c2 ((nI_eq (by omega) (by omega)).mp q))]
        exact ⟨_, rfl, no (fun q => c2 q.2.1)⟩
    · have c1' : ¬ nI (pb A i) = 0 := fun q => c1 ((nI_eq (b := 0) (by omega) (by omega)).mp q)
      rw [if_neg c1']
      exact ⟨_, rfl, no (fun q => c1 q.1)⟩
  · rintro n y -
    show f_X12_seemed_41 k (n + 1) _ _ _ _ y (nI (nP A)) σ = _
    rw [f_X12_seemed_41, m.1.2.2, if_neg (fun w => Nat.lt_irrefl _ ((nI_ltI (by omega) (by omega)).mp w))]
  · rintro y ⟨e, e1⟩
    have e1 : y = nI (seS A mo h (nP A)) := e1
    rw [e, e1]
theorem m_seemed (a : AOK A) (m : MR A σ) {mo g t h : Nat} (hmo : mo < 6) (hg : g < 12) (ht : t < nT A) (hh : h < 12) : ∃ u, f_X12_seemed (nI mo) (nI g) (nI t) (nI h) σ = some (isA A (seS A mo g (nP A)) X0 t h, u) ∧ Fz σ u := by
  have hT := nT10 a
  obtain ⟨u, e, F, v⟩ := t_solve (x := X0) a m (seS_lt a mo g) (by decide)
  unfold f_X12_seemed isA
  rw [t_isMouth, guardT hmo (by decide), bd2_s, if_neg b2t0, t_isHour, guardT hg (by decide), bd2_s, if_neg b2t0, t_isThing m, guardT ht (by omega), bd2_s, if_neg b2t0, t_isHour, guardT hh (by decide), bd2_s, if_neg b2t0, t_seemed41 a m hmo hg, e, bd2_s]
  by_cases c : LE A (seS A mo g (nP A)) X0 < 100000000
  · obtain ⟨u1, e1, F1⟩ := t_isOf a v c hh (show t < 10 by omega)
    refine ⟨u1, ?_, F.tr (Fz_e F1)⟩
    rw [decide_eq_true c, if_neg b2t0, if_pos c, e1, bd2_s]
  · refine ⟨u, ?_, F⟩
    rw [decide_eq_false c, if_pos b2f0, if_neg c]
theorem m_seemed_no (m : MR A σ) {x y z w : Int32} (h : (inR x 6 && (inR y 12 && (inR z (nT A) && inR w 12))) = false) : f_X12_seemed x y z w σ = some (-1, σ) := by
  unfold f_X12_seemed
  rw [t_isMouth, bd2_s]
  cases c1 : inR x 6 with
  | false => rw [if_pos b2f0]
  | true =>
    rw [if_neg b2t0, t_isHour, bd2_s]
    cases c2 : inR y 12 with
    | false => rw [if_pos b2f0]
    | true =>
      rw [if_neg b2t0, t_isThing m, bd2_s]
      cases c3 : inR z (nT A) with
      | false => rw [if_pos b2f0]
      | true =>
        rw [c1, c2, c3] at h
        have h' : inR w 12 = false := h
        rw [if_neg b2t0, t_isHour, h', bd2_s, if_pos b2f0]
end
