section
/-! ===== the class's calls: quarrel, why ===== -/
variable {A : AW} {σ : ST}
theorem t_cquarrel23 (a : AOK A) (c : CR 2 A σ) (tb : TB A σ) {m0 : Nat} (h0 : m0 < 2 ^ 16) : ∃ u, f_X11_quarrel_23 FU (nI m0) (nI 0) σ = some (nI (qrN A m0 (nP A)), u) ∧ Ft σ u := by
  have hP := a.1.2.2
  refine Exists.elim (loopE (A := Int32 × ST) (fun n i y => f_X11_quarrel_23 n y.1 (nI i) y.2) (nP A) (fun i y => y.1 = nI (qrN A m0 i) ∧ Ft σ y.2) (fun y => some (y.1, y.2)) ?_ ?_ FU 0 (nI m0, σ) (by rw [FU_eq]; omega) (Nat.zero_le _) ⟨rfl, Ft.rf _⟩) ?_
  · rintro n i ⟨y, u⟩ hi ⟨e, F⟩ Q hQ
    have e : y = nI (qrN A m0 i) := e
    have F : Ft σ u := F
    subst e
    have cu := CR_ft a c F
    have tu := TB_ft tb F
    have hl : qrN A m0 i < 2 ^ 16 := Nat.lt_of_le_of_lt (qrN_le _ _) h0
    have hs : qrN A m0 (i + 1) = if (qrN A m0 i).testBit i = true ∧ ¬ LE A (clr (qrN A m0 i) i) X0 < 100000000 then clr (qrN A m0 i) i else qrN A m0 i := rfl
    generalize qrN A m0 i = w at *
    have hw := clq_le w i
    show ∃ y : Int32 × ST, f_X11_quarrel_23 (n + 1) (nI w) (nI i) u = f_X11_quarrel_23 n y.1 (nI (i + 1)) y.2 ∧ _
    rw [f_X11_quarrel_23, cu.1.2.2.1, if_pos ((nI_ltI (by omega) (by omega)).mpr hi), nI_clq w (show i < 32 by omega), nI_add]
    cases hb : w.testBit i with
    | false =>
      rw [if_pos (congrArg nI ((clr_same hl).mpr hb))]
      exact ⟨(_, u), rfl, hQ (_, u) ⟨(congrArg nI (hs.trans (if_neg (fun q => by rw [hb] at q; cases q.1)))).symm, F⟩⟩
    | true =>
      rw [if_neg (fun q => by have := (clr_same hl).mp ((nI_eq (by omega) (by omega)).mp q); rw [hb] at this; cases this)]
      obtain ⟨u1, e1, F1, -⟩ := t_findT a cu tu (Nat.lt_of_le_of_lt hw hl)
      rw [e1, bd2_s]
      by_cases q : LE A (clr w i) X0 < 100000000
      · rw [decide_eq_true q, if_neg b2t0]
        exact ⟨(_, u1), rfl, hQ (_, u1) ⟨(congrArg nI (hs.trans (if_neg (fun z => z.2 q)))).symm, F.tr F1⟩⟩
      · rw [decide_eq_false q, if_pos b2f0]
        exact ⟨(_, u1), rfl, hQ (_, u1) ⟨(congrArg nI (hs.trans (if_pos ⟨hb, q⟩))).symm, F.tr F1⟩⟩
  · rintro n ⟨y, u⟩ ⟨e, F⟩
    have F : Ft σ u := F
    show f_X11_quarrel_23 (n + 1) y (nI (nP A)) u = _
    rw [f_X11_quarrel_23, (CR_ft a c F).1.2.2.1, if_neg (fun w => Nat.lt_irrefl _ ((nI_ltI (by omega) (by omega)).mp w))]
  · rintro ⟨y, u⟩ ⟨e, e1, F⟩
    have e1 : y = nI (qrN A m0 (nP A)) := e1
    exact ⟨u, by rw [e, e1], F⟩
theorem c_quarrel (a : AOK A) (c : CR 2 A σ) (i : CI A σ) : ∃ u, f_X11_quarrel σ = some (if LE A (AL A) X0 < 100000000 then nI 0 else nI (qrN A (AL A) (nP A)), u) ∧ Fxd σ u ∧ CI A u := by
  obtain ⟨u, e, F, h11, h12, tb, n⟩ := t_current a c i
  have cu := CR_fc a c F
  unfold f_X11_quarrel
  rw [e]
  simp only [bind_s]
  by_cases w : LE A (AL A) X0 < 100000000
  · refine ⟨u, ?_, Fxd_c F, CI_of h11 tb n⟩
    rw [if_pos w, NW_12 n, if_pos w, if_neg (LE_ne w)]
  · obtain ⟨u1, e1, F1⟩ := t_cquarrel23 a cu tb (AL_lt a)
    refine ⟨u1, ?_, (Fxd_c F).tr (Fxd_t F1), CI_ft (CI_of h11 tb n) F1⟩
    rw [if_neg w, (n.2 w).1, if_pos rfl, t_inForce a cu, bd2_s, e1]
/-! why -/
theorem isA_eq {S t h r : Nat} (hr : r < 3) : isA A S X0 t h = nI r ↔ LE A S X0 < 100000000 ∧ isv A S X0 h t = r := by
  have h2 := isv_le (A := A) S X0 h t
  unfold isA
  by_cases w : LE A S X0 < 100000000
  · rw [if_pos w]
    exact ⟨fun q => ⟨w, (nI_eq (by omega) (by omega)).mp q⟩, fun q => congrArg nI q.2⟩
  · rw [if_neg w]
    refine ⟨fun q => absurd q.symm ?_, fun q => absurd q.1 w⟩
    have := nI_nm1 (a := r) (by omega)
    rw [this]
    exact id
theorem t_cwhy50 (a : AOK A) (c : CR 2 A σ) (tb : TB A σ) (h11 : σ.1 0 11 = 0) {t h r m0 : Nat} (ht : t < nT A) (hh : h < 12) (hr : r < 3) (h0 : m0 < 2 ^ 16) : ∃ u, f_X11_why_50 FU (nI t) (nI h) (nI r) (nI m0) (nI 0) σ = some (nI (whN A t h r m0 (nP A)), u) ∧ Ft σ u := by
  have hP := a.1.2.2
  have hT := nT10 a
  refine Exists.elim (loopE (A := Int32 × ST) (fun n i y => f_X11_why_50 n (nI t) (nI h) (nI r) y.1 (nI i) y.2) (nP A) (fun i y => y.1 = nI (whN A t h r m0 i) ∧ Ft σ y.2) (fun y => some (y.1, y.2)) ?_ ?_ FU 0 (nI m0, σ) (by rw [FU_eq]; omega) (Nat.zero_le _) ⟨rfl, Ft.rf _⟩) ?_
  · rintro n i ⟨y, u⟩ hi ⟨e, F⟩ Q hQ
    have e : y = nI (whN A t h r m0 i) := e
    have F : Ft σ u := F
    subst e
    have cu := CR_ft a c F
    have tu := TB_ft tb F
    have u11 : u.1 0 11 = 0 := by rw [Fr.I F (by omega)]; exact h11
    have hl : whN A t h r m0 i < 2 ^ 16 := Nat.lt_of_le_of_lt (whN_le _ _ _ _ _) h0
    have hs : whN A t h r m0 (i + 1) = if (whN A t h r m0 i).testBit i = true ∧ LE A (clr (whN A t h r m0 i) i) X0 < 100000000 ∧ isv A (clr (whN A t h r m0 i) i) X0 h t = r then clr (whN A t h r m0 i) i else whN A t h r m0 i := rfl
    generalize whN A t h r m0 i = w at *
    have hw := clq_le w i
    show ∃ y : Int32 × ST, f_X11_why_50 (n + 1) (nI t) (nI h) (nI r) (nI w) (nI i) u = f_X11_why_50 n (nI t) (nI h) (nI r) y.1 (nI (i + 1)) y.2 ∧ _
    rw [f_X11_why_50, cu.1.2.2.1, if_pos ((nI_ltI (by omega) (by omega)).mpr hi), nI_clq w (show i < 32 by omega), nI_add]
    cases hb : w.testBit i with
    | false =>
      rw [if_pos (congrArg nI ((clr_same hl).mpr hb))]
      exact ⟨(_, u), rfl, hQ (_, u) ⟨(congrArg nI (hs.trans (if_neg (fun q => by rw [hb] at q; cases q.1)))).symm, F⟩⟩
    | true =>
      rw [if_neg (fun q => by have := (clr_same hl).mp ((nI_eq (by omega) (by omega)).mp q); rw [hb] at this; cases this)]
      obtain ⟨u1, e1, F1⟩ := t_seems a cu tu u11 (Nat.lt_of_le_of_lt hw hl) hh (show t < 10 by omega)
      rw [e1, bd2_s]
      by_cases q : isA A (clr w i) X0 t h = nI r
      · rw [if_pos q]
        have q2 := (isA_eq hr).mp q
        exact ⟨(_, u1), rfl, hQ (_, u1) ⟨(congrArg nI (hs.trans (if_pos ⟨hb, q2⟩))).symm, F.tr F1⟩⟩
      · rw [if_neg q]
        exact ⟨(_, u1), rfl, hQ (_, u1) ⟨(congrArg nI (hs.trans (if_neg (fun z => q ((isA_eq hr).mpr z.2))))).symm, F.tr F1⟩⟩
  · rintro n ⟨y, u⟩ ⟨e, F⟩
    have F : Ft σ u := F
    show f_X11_why_50 (n + 1) _ _ _ y (nI (nP A)) u = _
    rw [f_X11_why_50, (CR_ft a c F).1.2.2.1, if_neg (fun w => Nat.lt_irrefl _ ((nI_ltI (by omega) (by omega)).mp w))]
  · rintro ⟨y, u⟩ ⟨e, e1, F⟩
    have e1 : y = nI (whN A t h r m0 (nP A)) := e1
    exact ⟨u, by rw [e, e1], F⟩
theorem soOf_no {t h : Int32} {d : Nat} (h12 : σ.1 d 12 = -1) : f_X2_soOf d t h σ = some (-1, σ) := by
  unfold f_X2_soOf
  rw [h12, if_pos rfl]
theorem t_cwhy38 (a : AOK A) (c : CR 2 A σ) (tb : TB A σ) (h11 : σ.1 0 11 = 0) {t h r : Nat} (ht : t < nT A) (hh : h < 12) (hr : r < 3) : ∃ u, f_X11_why_38 (nI t) (nI h) (nI r) σ = some (nI (whN A t h r (AL A) (nP A)), u) ∧ Ft σ u := by
  unfold f_X11_why_38
  rw [t_inForce a c, bd2_s]
  exact t_cwhy50 a c tb h11 ht hh hr (AL_lt a)
theorem c_why (a : AOK A) (c : CR 2 A σ) (i : CI A σ) {t h : Nat} (ht : t < nT A) (hh : h < 12) : ∃ u, f_X11_why (nI t) (nI h) σ = some (whyA A t h, u) ∧ Fxd σ u ∧ CI A u := by
  have hT := nT10 a
  obtain ⟨u, e, F, h11, h12, tb, n⟩ := t_current a c i
  have cu := CR_fc a c F
  have h2 := isv_le (A := A) (AL A) X0 h t
  unfold f_X11_why whyA
  rw [c_isThing c, guardT ht (by omega), bd2_s, if_neg b2t0, c_isHour, guardT hh (by decide), bd2_s, if_neg b2t0, e]
  simp only [bind_s]
  by_cases w : LE A (AL A) X0 < 100000000
  · rw [t_soOf a (n.1 w) (Nat.zero_le _) w hh (show t < 10 by omega), bd2_s]
    obtain ⟨u1, e1, F1⟩ := t_cwhy38 a cu tb h11 ht hh (show isv A (AL A) X0 h t < 3 by omega)
    by_cases z0 : isv A (AL A) X0 h t = 0
    · refine ⟨u1, ?_, (Fxd_c F).tr (Fxd_t F1), CI_ft (CI_of h11 tb n) F1⟩
      rw [if_pos (show nI (isv A (AL A) X0 h t) = 0 by rw [z0]; rfl), e1, if_pos ⟨w, by omega⟩]
    · rw [if_neg (nI_n0 z0 (by omega))]
      by_cases z1 : isv A (AL A) X0 h t = 1
      · refine ⟨u1, ?_, (Fxd_c F).tr (Fxd_t F1), CI_ft (CI_of h11 tb n) F1⟩
        rw [if_pos (congrArg nI z1), e1, if_pos ⟨w, by omega⟩]
      · refine ⟨u, ?_, Fxd_c F, CI_of h11 tb n⟩
        rw [if_neg (fun q => z1 ((nI_eq (by omega) (by omega)).mp q)), if_neg (fun q => q.2 (by omega))]
  · refine ⟨u, ?_, Fxd_c F, CI_of h11 tb n⟩
    rw [soOf_no (n.2 w).1, bd2_s, if_neg (show ¬ (-1 : Int32) = 0 by decide), if_neg (show ¬ (-1 : Int32) = nI 1 by decide), if_neg (fun q => w q.1)]
theorem c_why_no (c : CR 2 A σ) {x y : Int32} (h : (inR x (nT A) && inR y 12) = false) : f_X11_why x y σ = some (-1, σ) := by
  unfold f_X11_why
  rw [c_isThing c, bd2_s]
  cases q : inR x (nT A) with
  | false => rw [if_pos b2f0]
  | true =>
    rw [q] at h
    have h' : inR y 12 = false := h
    rw [if_neg b2t0, c_isHour, h', bd2_s, if_pos b2f0]
end
