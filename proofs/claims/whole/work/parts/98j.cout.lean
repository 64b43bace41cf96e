section
/-! ===== the class's calls: out ===== -/
variable {A : AW} {σ : ST}
theorem t_pieceAt (a : AOK A) (c : CR 2 A σ) {k : Nat} (hk : k < nP A) : ∃ q, f_X10_pieceAt (nI k) σ = some (some q, σ) ∧ PO σ q k A ∧ σ.2.2.1 7 k = some q := by
  have hP := a.1.2.2
  obtain ⟨q, h1, h2⟩ := c.2.2.2.2.1 k hk
  refine ⟨q, ?_, h2, h1⟩
  unfold f_X10_pieceAt
  rw [if_neg (mnn (show k < 16 by omega)), c.1.2.2.1, if_pos ((nI_ltI (by omega) (by omega)).mpr hk), rdT_ok (show k < 16 by omega) (by decide)]
  simp only [bind_s]
  rw [h1]
theorem t_pieceAt_no (c : CR 2 A σ) {y : Int32} (h : inR y (nP A) = false) : f_X10_pieceAt y σ = some (none, σ) := by
  unfold f_X10_pieceAt
  rw [c.1.2.2.1, in_g, h, if_neg (by decide)]
theorem t_weightOf (a : AOK A) (c : CR 2 A σ) {k : Nat} (hk : k < nP A) : f_X10_weightOf (nI k) σ = some (nI (wt A (pm A k)), σ) := by
  obtain ⟨q, e, p, -⟩ := t_pieceAt a c hk
  have p5 := (a.2.2.2.2.1 k hk).2.2.2.2.1
  unfold f_X10_weightOf
  rw [e, bd2_s, nl_s, PO_rd p]
  simp only [bind_s]
  rw [p.2.2.2.2.2.2.2, rdI_ok p5 (by decide), c.2.2.2.2.2 _ p5]
  simp only [bind_s]
def ouW (A : AW) : Option Nat → Nat
  | none => 100
  | some b => wt A (pm A b)
theorem t_cout29 (a : AOK A) (c : CR 2 A σ) (tb : TB A σ) : ∃ u, f_X11_out_29 FU (nI (AL A)) (-1) (nI 100) (nI 0) σ = some (ouI (ouN A (nP A)), u) ∧ Ft σ u := by
  have hP := a.1.2.2
  have h0 := AL_lt a
  refine Exists.elim (loopE (A := Int32 × Int32 × ST) (fun n i y => f_X11_out_29 n (nI (AL A)) y.1 y.2.1 (nI i) y.2.2) (nP A) (fun i y => (y.1 = ouI (ouN A i) ∧ y.2.1 = nI (ouW A (ouN A i))) ∧ Ft σ y.2.2) (fun y => some (y.1, y.2.2)) ?_ ?_ FU 0 (-1, nI 100, σ) (by rw [FU_eq]; omega) (Nat.zero_le _) ⟨⟨rfl, rfl⟩, Ft.rf _⟩) ?_
  · rintro n i ⟨y, y2, u⟩ hi ⟨⟨e, e2⟩, F⟩ Q hQ
    have e : y = ouI (ouN A i) := e
    have e2 : y2 = nI (ouW A (ouN A i)) := e2
    have F : Ft σ u := F
    subst e; subst e2
    have cu := CR_ft a c F
    have tu := TB_ft tb F
    have hs : ouN A (i + 1) = if (AL A).testBit i = true ∧ ouB A i (ouN A i) = true ∧ LE A (clr (AL A) i) X0 < 100000000 then some i else ouN A i := rfl
    have hlt := ouN_lt (A := A) i
    generalize ouN A i = w at *
    have hwi := a.2.2.2.2.2.2 _ (a.2.2.2.2.1 i hi).2.2.2.2.1
    have hww : ouW A w ≤ 100 ∧ (ouB A i w = true ↔ wt A (pm A i) < ouW A w) := by
      cases w with
      | none => exact ⟨Nat.le_refl _, fun _ => by show _ < 100; omega, fun _ => rfl⟩
      | some b =>
        have hb := hlt b rfl
        have := a.2.2.2.2.2.2 _ (a.2.2.2.2.1 b (by omega)).2.2.2.2.1
        exact ⟨by show wt A (pm A b) ≤ 100; omega, fun q => of_decide_eq_true q, fun q => decide_eq_true q⟩
    have stay : ∀ u1, Ft σ u1 → ¬ ((AL A).testBit i = true ∧ ouB A i w = true ∧ LE A (clr (AL A) i) X0 < 100000000) → Q (ouI w, nI (ouW A w), u1) := fun u1 F1 q => hQ (_, _, u1) ⟨⟨(congrArg ouI (hs.trans (if_neg q))).symm, (congrArg (fun z => nI (ouW A z)) (hs.trans (if_neg q))).symm⟩, F1⟩
    show ∃ y : Int32 × Int32 × ST, f_X11_out_29 (n + 1) (nI (AL A)) (ouI w) (nI (ouW A w)) (nI i) u = f_X11_out_29 n (nI (AL A)) y.1 y.2.1 (nI (i + 1)) y.2.2 ∧ _
    have hw := clq_le (AL A) i
    rw [f_X11_out_29, cu.1.2.2.1, if_pos ((nI_ltI (by omega) (by omega)).mpr hi), t_weightOf a cu hi, bd2_s, nI_clq (AL A) (show i < 32 by omega), nI_add]
    cases hb : (AL A).testBit i with
    | false =>
      rw [if_pos (congrArg nI ((clr_same h0).mpr hb))]
      exact ⟨(_, _, u), rfl, stay u F (fun q => by rw [hb] at q; cases q.1)⟩
    | true =>
      rw [if_neg (fun q => by have := (clr_same h0).mp ((nI_eq (by omega) (by omega)).mp q); rw [hb] at this; cases this)]
      by_cases z : wt A (pm A i) < ouW A w
      · rw [if_pos ((nI_ltI (by omega) (by omega)).mpr z)]
        obtain ⟨u1, e1, F1, -⟩ := t_findT a cu tu (Nat.lt_of_le_of_lt hw h0)
        rw [e1, bd2_s]
        by_cases q : LE A (clr (AL A) i) X0 < 100000000
        · rw [decide_eq_true q, if_neg b2t0]
          have g : ouN A (i + 1) = some i := hs.trans (if_pos ⟨hb, hww.2.mpr z, q⟩)
          exact ⟨(nI i, nI (wt A (pm A i)), u1), rfl, hQ (_, _, u1) ⟨⟨(congrArg ouI g).symm, (congrArg (fun z => nI (ouW A z)) g).symm⟩, F.tr F1⟩⟩
        · rw [decide_eq_false q, if_pos b2f0]
          exact ⟨(_, _, u1), rfl, stay u1 (F.tr F1) (fun v => q v.2.2)⟩
      · rw [if_neg (fun q => z ((nI_ltI (by omega) (by omega)).mp q))]
        exact ⟨(_, _, u), rfl, stay u F (fun v => z (hww.2.mp v.2.1))⟩
  · rintro n ⟨y, y2, u⟩ ⟨e, F⟩
    have F : Ft σ u := F
    show f_X11_out_29 (n + 1) _ y y2 (nI (nP A)) u = _
    rw [f_X11_out_29, (CR_ft a c F).1.2.2.1, if_neg (fun w => Nat.lt_irrefl _ ((nI_ltI (by omega) (by omega)).mp w))]
  · rintro ⟨y, y2, u⟩ ⟨e, ⟨e1, -⟩, F⟩
    have e1 : y = ouI (ouN A (nP A)) := e1
    exact ⟨u, by rw [e, e1], F⟩
theorem c_out (a : AOK A) (c : CR 2 A σ) (i : CI A σ) : ∃ u, f_X11_out σ = some (if LE A (AL A) X0 < 100000000 then -1 else ouI (ouN A (nP A)), u) ∧ Fxd σ u ∧ CI A u := by
  obtain ⟨u, e, F, h11, h12, tb, n⟩ := t_current a c i
  have cu := CR_fc a c F
  unfold f_X11_out
  rw [e]
  simp only [bind_s]
  by_cases w : LE A (AL A) X0 < 100000000
  · refine ⟨u, ?_, Fxd_c F, CI_of h11 tb n⟩
    rw [if_pos w, NW_12 n, if_pos w, if_neg (LE_ne w)]
  · obtain ⟨u1, e1, F1⟩ := t_cout29 a cu tb
    refine ⟨u1, ?_, (Fxd_c F).tr (Fxd_t F1), CI_ft (CI_of h11 tb n) F1⟩
    rw [if_neg w, (n.2 w).1, if_pos rfl, t_inForce a cu, bd2_s, e1]
/-! since -/
theorem t_csince35 (a : AOK A) {t : Nat} (ht : t < 10) (n : NW A σ) (c : LE A (AL A) X0 < 100000000) : ∀ k m, k < m → k ≤ 12 → f_X11_since_35 m (nI t) (nI k) (hI k) σ = some (nI (snN A t k), σ) := by
  intro k
  induction k with
  | zero =>
    intro m hm _
    obtain ⟨m, rfl⟩ : ∃ j, m = j + 1 := ⟨m - 1, by omega⟩
    rw [f_X11_since_35, if_pos (show hI 0 < 0 by decide)]
    rfl
  | succ k ih =>
    intro m hm hk
    obtain ⟨m, rfl⟩ : ∃ j, m = j + 1 := ⟨m - 1, by omega⟩
    have h2 := isv_le (A := A) (AL A) X0 k t
    rw [f_X11_since_35, show hI (k + 1) = nI k from rfl, if_neg (nnI (show k < 13 by omega)), t_soOf a (n.1 c) (Nat.zero_le _) c (show k < 12 by omega) ht, bd2_s, hI_dec (show k < 2 ^ 31 by omega), snN]
    by_cases d : isv A (AL A) X0 k t = 1
    · rw [if_pos (congrArg nI d), if_pos d]
      exact ih m (by omega) (by omega)
    · rw [if_neg (fun q => d ((nI_eq (by omega) (by omega)).mp q)), if_neg d]
theorem c_since (a : AOK A) (c : CR 2 A σ) (i : CI A σ) {t h : Nat} (ht : t < nT A) (hh : h < 12) : ∃ u, f_X11_since (nI t) (nI h) σ = some (snA A t h, u) ∧ Fc σ u ∧ CI A u := by
  have hT := nT10 a
  obtain ⟨u, e, F, h11, h12, tb, n⟩ := t_current a c i
  have h2 := isv_le (A := A) (AL A) X0 h t
  refine ⟨u, ?_, F, CI_of h11 tb n⟩
  unfold f_X11_since snA
  rw [c_isThing c, guardT ht (by omega), bd2_s, if_neg b2t0, c_isHour, guardT hh (by decide), bd2_s, if_neg b2t0, e]
  simp only [bind_s]
  by_cases w : LE A (AL A) X0 < 100000000
  · rw [t_soOf a (n.1 w) (Nat.zero_le _) w hh (show t < 10 by omega), bd2_s]
    by_cases d : isv A (AL A) X0 h t = 1
    · rw [if_pos (congrArg nI d), if_pos ⟨w, d⟩, show FU = 19999 + 1 from rfl, f_X11_since_35, if_neg (nnI (show h < 13 by omega)), t_soOf a (n.1 w) (Nat.zero_le _) w hh (show t < 10 by omega), bd2_s, if_pos (congrArg nI d), hI_dec (show h < 2 ^ 31 by omega)]
      exact t_csince35 a (show t < 10 by omega) n w h 19999 (by omega) (by omega)
    · rw [if_neg (fun q => d ((nI_eq (by omega) (by omega)).mp q)), if_neg (fun q => d q.2)]
  · rw [soOf_no (n.2 w).1, bd2_s, if_neg (show ¬ (-1 : Int32) = nI 1 by decide), if_neg (fun q => w q.1)]
theorem c_since_no (c : CR 2 A σ) {x y : Int32} (h : (inR x (nT A) && inR y 12) = false) : f_X11_since x y σ = some (-1, σ) := by
  unfold f_X11_since
  rw [c_isThing c, bd2_s]
  cases q : inR x (nT A) with
  | false => rw [if_pos b2f0]
  | true =>
    rw [q] at h
    have h' : inR y 12 = false := h
    rw [if_neg b2t0, c_isHour, h', bd2_s, if_pos b2f0]
end
