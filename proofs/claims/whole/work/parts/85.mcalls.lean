section
/-! ===== the reference's calls: least, courses, is, value, could, must, ever, howLong ===== -/
variable {A : AW} {σ : ST}
theorem in_g {β : Type} (x : Int32) (n : Nat) {p q : β} : (if x < 0 then p else if x < nI n then q else p) = if inR x n = true then q else p := by
  by_cases h : x < 0
  · rw [if_pos h, inR_f1 h, if_neg (by decide)]
  · rw [if_neg h]
    by_cases c : x < nI n
    · rw [if_pos c, inR_t h (Int32.not_le.mpr c), if_pos rfl]
    · rw [if_neg c, inR_f2 (Int32.not_lt.mp c), if_neg (by decide)]
theorem b2_g (b : Bool) : (if b = true then some (nI 1, σ) else some (nI 0, σ)) = some (b2 b, σ) := by cases b <;> rfl
theorem t_isThing (m : MR A σ) (x : Int32) : f_X12_isThing x σ = some (b2 (inR x (nT A)), σ) := by
  unfold f_X12_isThing
  rw [m.1.1, in_g, b2_g]
theorem t_isHappening (m : MR A σ) (x : Int32) : f_X12_isHappening x σ = some (b2 (inR x (nH A)), σ) := by
  unfold f_X12_isHappening
  rw [m.1.2.1, in_g, b2_g]
theorem t_isPiece (m : MR A σ) (x : Int32) : f_X12_isPiece x σ = some (b2 (inR x (nP A)), σ) := by
  unfold f_X12_isPiece
  rw [m.1.2.2, in_g, b2_g]
theorem t_isMouth (x : Int32) : f_X12_isMouth x σ = some (b2 (inR x 6), σ) := by
  unfold f_X12_isMouth
  rw [in_g, b2_g]
theorem t_isHour (x : Int32) : f_X12_isHour x σ = some (b2 (inR x 12), σ) := by
  unfold f_X12_isHour
  rw [in_g, b2_g]
/-- two hours in order -/
def inHH (x y : Int32) : Bool := inR x 12 && (inR y 12 && !decide (y < x))
theorem inHH_of {x y : Int32} (h : inHH x y = true) : ∃ p q, p ≤ q ∧ q < 12 ∧ x = nI p ∧ y = nI q := by
  unfold inHH at h
  rw [Bool.and_eq_true, Bool.and_eq_true] at h
  obtain ⟨h1, h2, h3⟩ := h
  obtain ⟨p, hp, rfl⟩ := inR_of h1 (by decide)
  obtain ⟨q, hq, rfl⟩ := inR_of h2 (by decide)
  refine ⟨p, q, ?_, hq, rfl, rfl⟩
  by_cases c : q < p
  · rw [decide_eq_true ((nI_ltI (by omega) (by omega)).mpr c)] at h3; cases h3
  · omega
theorem t_areHours (x y : Int32) : f_X12_areHours x y σ = some (b2 (inHH x y), σ) := by
  unfold f_X12_areHours inHH
  rw [t_isHour, bd2_s]
  cases inR x 12 with
  | false => rfl
  | true =>
    rw [if_neg (show ¬ b2 true = 0 by decide), t_isHour, bd2_s]
    cases inR y 12 with
    | false => rfl
    | true =>
      rw [if_neg (show ¬ b2 true = 0 by decide)]
      by_cases c : y < x
      · rw [if_pos c, decide_eq_true c]; rfl
      · rw [if_neg c, decide_eq_false c]; rfl
theorem Fz_q {W : Nat → Prop} {s : ST} (h : Fq W σ s) (hW : ∀ y, W y → 266 ≤ y ∧ y ≤ 287) : Fz σ s := ⟨h.1.mono (fun y q => q.elim Or.inl (fun q => Or.inr (Or.inl (hW y q)))), fun k _ _ _ _ _ b => h.2 k b⟩
abbrev X0 : Nat × Nat := (99, 0)
theorem m_least (a : AOK A) (m : MR A σ) : ∃ u, f_X12_least σ = some (if LE A (AL A) X0 < 100000000 then nI (LE A (AL A) X0) else -1, u) ∧ Fz σ u := by
  obtain ⟨u, e, F, v⟩ := t_solve (x := X0) a m (AL_lt a) (by decide)
  refine ⟨u, ?_, F⟩
  unfold f_X12_least
  rw [t_mall a m, bd2_s, e, bd2_s]
  by_cases c : LE A (AL A) X0 < 100000000
  · rw [decide_eq_true c, if_neg (show ¬ b2 true = 0 by decide), if_pos c, v.2.2.1]
  · rw [decide_eq_false c, if_pos (show b2 false = 0 by decide), if_neg c]
theorem m_courses (a : AOK A) (m : MR A σ) : ∃ u, f_X12_courses σ = some (if LE A (AL A) X0 < 100000000 then lN (cap (sm 1024 (NB A (AL A) X0 12))) else 0, u) ∧ Fz σ u := by
  obtain ⟨u, e, F, v⟩ := t_solve (x := X0) a m (AL_lt a) (by decide)
  by_cases c : LE A (AL A) X0 < 100000000
  · obtain ⟨u1, e1, F1, m1⟩ := t_co21 a v (y1 := 1000000000000000000) (k := fun y1_9 s10 => f_X12_courses_62 (fun y1_36 s37 => f_X12_courses_243 FU y1_36 (0) (nI 0) s37) FU y1_9 (nI 0) s10)
    have G1 : Fq F8 u u1 := ⟨F1.mono (fun y hy => Or.inr (Or.inr (Or.inl hy))), fun k _ => F1.I (by omega) k⟩
    have v1 := SV_fq v G1 (fun y hy => by unfold F8 at hy; omega)
    obtain ⟨u2, e2, F2, m2⟩ := t_co62 a v1 c m1 (k := fun y1_36 s37 => f_X12_courses_243 FU y1_36 (0) (nI 0) s37)
    have v2 := SV_fq v1 F2 (fun y hy => by unfold F8 at hy; omega)
    have e3 := t_co243 a v2 m2
    have hI : 2 ^ cK A 1 ≤ 1024 := by have := K32 a; omega
    have ce := cnt_eq (gl := glS A (AL A)) (I := 2 ^ cK A 1) (EG_ok (S := AL A) (x := X0) a) hI
    refine ⟨u2, ?_, (F.tr (Fz_q G1 (fun y hy => by unfold F8 at hy; omega))).tr (Fz_q F2 (fun y hy => by unfold F8 at hy; omega))⟩
    unfold f_X12_courses
    rw [t_mall a m, bd2_s, e, bd2_s, decide_eq_true c, if_neg (show ¬ b2 true = 0 by decide), if_pos c, e1, e2, e3]
    have ce' : sm 1024 (fun s => if glS A (AL A) s = true then NF A (AL A) X0 12 s else 0) = sm 1024 (NB A (AL A) X0 12) := ce
    rw [ce']
  · refine ⟨u, ?_, F⟩
    unfold f_X12_courses
    rw [t_mall a m, bd2_s, e, bd2_s, decide_eq_false c, if_pos (show b2 false = 0 by decide), if_neg c]
/-- what `is` answers of some pieces -/
noncomputable def isA (A : AW) (S : Nat) (x : Nat × Nat) (t h : Nat) : Int32 := if LE A S x < 100000000 then nI (isv A S x h t) else -1
theorem nT10 (a : AOK A) : nT A ≤ 10 := a.1.1
theorem m_is (a : AOK A) (m : MR A σ) {t h : Nat} (ht : t < nT A) (hh : h < 12) : ∃ u, f_X12_is (nI t) (nI h) σ = some (isA A (AL A) X0 t h, u) ∧ Fz σ u := by
  have hT := nT10 a
  obtain ⟨u, e, F, v⟩ := t_solve (x := X0) a m (AL_lt a) (by decide)
  unfold f_X12_is isA
  rw [t_isThing m, inR_nI (by omega) (by omega), decide_eq_true ht, bd2_s, if_neg (show ¬ b2 true = 0 by decide), t_isHour, inR_nI (by omega) (by omega), decide_eq_true hh, bd2_s, if_neg (show ¬ b2 true = 0 by decide), t_mall a m, bd2_s, e, bd2_s]
  by_cases c : LE A (AL A) X0 < 100000000
  · obtain ⟨u1, e1, F1⟩ := t_isOf a v c hh (show t < 10 by omega)
    refine ⟨u1, ?_, F.tr (Fz_e F1)⟩
    rw [decide_eq_true c, if_neg (show ¬ b2 true = 0 by decide), if_pos c, e1, bd2_s]
  · refine ⟨u, ?_, F⟩
    rw [decide_eq_false c, if_pos (show b2 false = 0 by decide), if_neg c]
theorem m_is_no (m : MR A σ) {x y : Int32} (h : (inR x (nT A) && inR y 12) = false) : f_X12_is x y σ = some (-1, σ) := by
  unfold f_X12_is
  rw [t_isThing m, bd2_s]
  cases c : inR x (nT A) with
  | false => rfl
  | true =>
    rw [c] at h
    have h' : inR y 12 = false := h
    rw [if_neg (show ¬ b2 true = 0 by decide), t_isHour, h', bd2_s, if_pos (show b2 false = 0 by decide)]
theorem tq1 : ∀ hi lo : Fin 13, decide (nI (100 * hi.1 + lo.1) / nI 100 = 0) = decide (hi.1 = 0) ∧ decide (0 < nI (100 * hi.1 + lo.1) - nI (100 * hi.1 + lo.1) / nI 100 * nI 100) = decide (0 < lo.1) := by decide +kernel
theorem t_told {lo hi : Nat} (h1 : lo ≤ 12) (h2 : hi ≤ 12) : f_X12_told (nI (100 * hi + lo)) σ = some (nI (if hi = 0 then 0 else if 0 < lo then 1 else 2), σ) := by
  obtain ⟨q1, q2⟩ := tq1 ⟨hi, by omega⟩ ⟨lo, by omega⟩
  have q1 := decide_eq_decide.mp q1
  have q2 := decide_eq_decide.mp q2
  unfold f_X12_told
  by_cases c : hi = 0
  · rw [if_pos (q1.mpr c), if_pos c]
  · rw [if_neg (fun w => c (q1.mp w)), if_neg c]
    by_cases d : 0 < lo
    · rw [if_pos (q2.mpr d), if_pos d]
    · rw [if_neg (fun w => d (q2.mp w)), if_neg d]
end
