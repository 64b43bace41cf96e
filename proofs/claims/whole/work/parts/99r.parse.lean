section
/-! ===== the reference looks for a fault: stage by stage ===== -/
variable {A : AW} {H : SHV} {τ : ST} {s : Nat}
def MC (A : AW) (H : SHV) (τ : ST) : Prop := MR A τ ∧ SHM H τ
def W22 (τ τ' : ST) : Prop := Fr (fun y => y = 247) τ τ' ∧ ∀ k, k ≠ 22 → τ'.1 247 k = τ.1 247 k
theorem W22.rf (τ : ST) : W22 τ τ := ⟨Fr.rf _ _, fun _ _ => rfl⟩
theorem W22.tr {σ s u : ST} (h : W22 σ s) (g : W22 s u) : W22 σ u := ⟨h.1.tr g.1, fun i hi => (g.2 i hi).trans (h.2 i hi)⟩
theorem W22_set {v : Int32} : W22 τ (setI τ 247 22 v) := ⟨Fr_setI rfl, fun k hk => I_ne (Or.inr hk)⟩
theorem MC_w {τ' : ST} (h : MC A H τ) (w : W22 τ τ') : MC A H τ' := ⟨MR_eq h.1 (w.2 0 (by decide)) (w.2 4 (by decide)) (w.2 9 (by decide)) (fun y h1 h2 => (w.1.1 y (by omega)).1), SHM_eq h.2 (w.1.1 _ (by omega)).1 (w.1.1 _ (by omega)).1 (w.1.1 _ (by omega)).2.1⟩
/-- the row that is read -/
def RD (A : AW) (H : SHV) (s : Nat) : Prop := HOK A H ∧ s < 8 ∧ 101 ≤ hq H s
def LL (H : SHV) (s p : Nat) : Int32 := if p < hn H s then lt H s p else 0
theorem LL_t {p : Nat} (h : p < hn H s) : LL H s p = lt H s p := if_pos h
theorem LL_f {p : Nat} (h : ¬ p < hn H s) : LL H s p = 0 := if_neg h
theorem RD_60 (r : RD A H s) : hn H s ≤ 60 := (r.1 s r.2.1).1
theorem m_letter (r : RD A H s) (mc : MC A H τ) {p : Nat} (hp : p < 2 ^ 31) : f_X12_letter (nI s) (nI p) τ = some (LL H s p, τ) := by
  have l := RD_60 r
  obtain ⟨-, hs, hw⟩ := r
  unfold f_X12_letter LL
  rw [rdI_ok hs (by decide), (mc.2 s hs).2.1 hw, bind_s]
  by_cases z : p < hn H s
  · rw [if_pos ((nI_ltI hp (by omega)).mpr z), nI_mul, nI_add, rdJ_ok (show 60 * s + p < 480 by omega) (by decide), (mc.2 s hs).2.2 p (by omega), bind_s, if_pos z]
    rfl
  · rw [if_neg (fun w => z ((nI_ltI hp (by omega)).mp w)), if_neg z]; rfl
theorem m_digit (a : AOK A) (mc : MC A H τ) (l : Int32) : f_X12_isDigitOf l (-1) τ = some (b2 (inR (l - nI 48) (nT A)), τ) := by
  have hT := a.1.1
  unfold f_X12_isDigitOf
  generalize l - nI 48 = x
  rw [t_isThing mc.1, bd2_s, if_pos (show (-1 : Int32) < 0 by decide)]
  by_cases x0 : x < 0
  · rw [if_pos x0, inR_f1 x0]; rfl
  · rw [if_neg x0]
    by_cases x10 : x < nI 10
    · rw [if_pos x10]
      cases inR x (nT A)
      · rw [if_pos b2f0]; rfl
      · rw [if_neg b2t0]; rfl
    · rw [if_neg x10, inR_f2 (Int32.le_trans (Int32.not_lt.mp (fun w => by have := (nI_ltI (by omega) (by omega)).mp w; omega)) (Int32.not_lt.mp x10))]; rfl
def dk (A : AW) (l : Int32) (k : Nat) : Bool := inR (l - nI 48) (nT A) && decide (kd A (l - nI 48).toNatClampNeg = k)
theorem m_digitk (a : AOK A) (mc : MC A H τ) (l : Int32) {k : Nat} (hk : k ≤ 3) : f_X12_isDigitOf l (nI k) τ = some (b2 (dk A l k), τ) := by
  have hT := a.1.1
  unfold f_X12_isDigitOf dk
  generalize l - nI 48 = x
  rw [t_isThing mc.1, bd2_s, if_neg (nI_pos (show k < 2 ^ 31 by omega))]
  by_cases x0 : x < 0
  · rw [if_pos x0, inR_f1 x0]; rfl
  · rw [if_neg x0]
    by_cases x10 : x < nI 10
    · rw [if_pos x10]
      cases g : inR x (nT A)
      · rw [if_pos b2f0]; rfl
      · obtain ⟨d, hd, rfl⟩ := inR_of g (by omega)
        have hk3 := a.2.1 d hd
        rw [if_neg b2t0, rdI_ok (show d < 10 by omega) (by decide), (mc.1.2.1 d hd).1, bind_s, nI_cl (by omega), Bool.true_and]
        by_cases z : kd A d = k
        · rw [if_pos (congrArg nI z), decide_eq_true z]; rfl
        · rw [if_neg (fun w => z ((nI_eq (by omega) (by omega)).mp w)), decide_eq_false z]; rfl
    · rw [if_neg x10, inR_f2 (Int32.le_trans (Int32.not_lt.mp (fun w => by have := (nI_ltI (by omega) (by omega)).mp w; omega)) (Int32.not_lt.mp x10))]; rfl
variable {MF : ST → Option (Int32 × ST)} {K : Int32 → ST → Option (Int32 × ST)} {p c d : Nat}
/-- the search has come to p, and goes on with E -/
def MS (A : AW) (H : SHV) (MF : ST → Option (Int32 × ST)) (K : Int32 → ST → Option (Int32 × ST)) (E : Nat → ST → Option (Int32 × ST)) (c p : Nat) : Prop := ∀ τ, MC A H τ → ∃ m τ', 1000 ≤ m + c ∧ W22 τ τ' ∧ τ'.1 247 22 = nI p ∧ MF τ = bd2 (E m τ') K
/-- a fault at p -/
def MDf (A : AW) (H : SHV) (MF : ST → Option (Int32 × ST)) (p : Nat) : Prop := ∀ τ, MC A H τ → ∃ τ', W22 τ τ' ∧ MF τ = some (nI p, τ')
/-- the condition ends ahead of p -/
def MK (A : AW) (H : SHV) (MF : ST → Option (Int32 × ST)) (K : Int32 → ST → Option (Int32 × ST)) (p : Nat) : Prop := ∀ τ, MC A H τ → ∃ τ', W22 τ τ' ∧ τ'.1 247 22 = nI p ∧ MF τ = K (nI 1) τ'
noncomputable abbrev E1 (s : Nat) (m : Nat) : ST → Option (Int32 × ST) := f_X12_overCondition_0 m (nI s)
noncomputable abbrev E2 (s : Nat) (m : Nat) : ST → Option (Int32 × ST) := f_X12_overCondition_24 (f_X12_overCondition_0 m) (nI s)
noncomputable abbrev E5 (s : Nat) (m : Nat) : ST → Option (Int32 × ST) := f_X12_overCondition_128 (f_X12_overCondition_0 m) (nI s)
noncomputable def E4 (s : Nat) (m : Nat) (s18 : ST) : Option (Int32 × ST) := bd2 (f_X12_letter (nI s) (s18.1 247 22) s18) fun v20 s19 =>
    if v20 < (nI 48) then
    (some ((nI 0), s19))
    else (bd2 (f_X12_letter (nI s) (s19.1 247 22) s19) fun v22 s21 =>
    if (nI 55) < v22 then
    (some ((nI 0), s21))
    else ((pfI s21 247 22 ((s21.1 247 22) + (nI 1))).bind fun s23 =>
    f_X12_overCondition_128 (f_X12_overCondition_0 m) (nI s) s23))
noncomputable def E3 (s d : Nat) (m : Nat) (s7 : ST) : Option (Int32 × ST) := bd2 (f_X12_isDigitOf (nI (48 + d)) (nI 3) s7) fun v9 s8 =>
    if v9 = 0 then
    (f_X12_overCondition_128 (f_X12_overCondition_0 m) (nI s) s8)
    else (bd2 (f_X12_letter (nI s) (s8.1 247 22) s8) fun v17 s16 =>
    if v17 = (nI 62) then
    ((pfI s16 247 22 ((s16.1 247 22) + (nI 1))).bind fun s18 => E4 s m s18)
    else (f_X12_overCondition_128 (f_X12_overCondition_0 m) (nI s) s16))
theorem bump {τ' : ST} (w : W22 τ τ') (e : τ'.1 247 22 = nI p) : W22 τ (setI τ' 247 22 (nI (p + 1))) ∧ (setI τ' 247 22 (nI (p + 1))).1 247 22 = nI (p + 1) ∧ pfI τ' 247 22 (τ'.1 247 22 + nI 1) = some (setI τ' 247 22 (nI (p + 1))) := ⟨w.tr W22_set, I_at _ _ _ _, by rw [e, nI_add, pfI_s]⟩
theorem ms1_bang (r : RD A H s) (hp : p < hn H s) (e : lt H s p = nI 33) (h : MS A H MF K (E1 s) p p) : MS A H MF K (E2 s) (p + 1) (p + 1) := by
  have l := RD_60 r
  intro τ mc
  obtain ⟨m, τ', hm, w, e22, eM⟩ := h τ mc
  obtain ⟨m, rfl⟩ : ∃ z, m = z + 1 := ⟨m - 1, by omega⟩
  obtain ⟨b1, b2', b3⟩ := bump w e22
  refine ⟨m, _, by omega, b1, b2', ?_⟩
  rw [eM]
  unfold E1
  rw [f_X12_overCondition_0, e22, m_letter r (MC_w mc w) (by omega), bd2_s, LL_t hp, if_pos e, b3, bind_s]
theorem ms1_name (r : RD A H s) (hp : p ≤ hn H s) (e : LL H s p ≠ nI 33) (h : MS A H MF K (E1 s) p p) : MS A H MF K (E2 s) (p + 1) p := by
  have l := RD_60 r
  intro τ mc
  obtain ⟨m, τ', hm, w, e22, eM⟩ := h τ mc
  obtain ⟨m, rfl⟩ : ∃ z, m = z + 1 := ⟨m - 1, by omega⟩
  refine ⟨m, τ', by omega, w, e22, ?_⟩
  rw [eM]
  unfold E1
  rw [f_X12_overCondition_0, e22, m_letter r (MC_w mc w) (by omega), bd2_s, if_neg e]
theorem ms2_no (a : AOK A) (r : RD A H s) (hp : p ≤ hn H s) (hK0 : ∀ τ', K (nI 0) τ' = some (τ'.1 247 22, τ')) (e : inR (LL H s p - nI 48) (nT A) = false) (h : MS A H MF K (E2 s) c p) : MDf A H MF p := by
  have l := RD_60 r
  intro τ mc
  obtain ⟨m, τ', hm, w, e22, eM⟩ := h τ mc
  refine ⟨τ', w, ?_⟩
  rw [eM]
  unfold E2 f_X12_overCondition_24
  rw [e22, m_letter r (MC_w mc w) (by omega), bd2_s, m_digit a (MC_w mc w), e, bd2_s, if_pos b2f0, bd2_s, hK0, e22]
theorem ms2_yes (a : AOK A) (r : RD A H s) (hp : p < hn H s) (hd : d < nT A) (e : lt H s p = nI (48 + d)) (h : MS A H MF K (E2 s) (p + 1) p) : MS A H MF K (E3 s d) (p + 1) (p + 1) := by
  have l := RD_60 r
  have hT := a.1.1
  intro τ mc
  obtain ⟨m, τ', hm, w, e22, eM⟩ := h τ mc
  obtain ⟨b1, b2', b3⟩ := bump w e22
  refine ⟨m, _, hm, b1, b2', ?_⟩
  rw [eM]
  unfold E2 f_X12_overCondition_24
  have eb : (pfI τ' 247 22 (nI p + nI 1)) = some (setI τ' 247 22 (nI (p + 1))) := by rw [← e22]; exact b3
  rw [e22, m_letter r (MC_w mc w) (by omega), bd2_s, LL_t hp, m_digit a (MC_w mc w), e, nI_d48, guardT hd (by omega), bd2_s, if_neg b2t0, e22, eb, bind_s]
  rfl
theorem ms3_a (a : AOK A) (r : RD A H s) (hd : d < nT A) (hk : kd A d = 3) (hp : p < hn H s) (e : lt H s p = nI 62) (h : MS A H MF K (E3 s d) p p) : MS A H MF K (E4 s) (p + 1) (p + 1) := by
  have l := RD_60 r
  have hT := a.1.1
  intro τ mc
  obtain ⟨m, τ', hm, w, e22, eM⟩ := h τ mc
  obtain ⟨b1, b2', b3⟩ := bump w e22
  have eb : (pfI τ' 247 22 (nI p + nI 1)) = some (setI τ' 247 22 (nI (p + 1))) := by rw [← e22]; exact b3
  refine ⟨m, _, by omega, b1, b2', ?_⟩
  rw [eM]
  unfold E3
  rw [m_digitk a (MC_w mc w) _ (Nat.le_refl 3), show dk A (nI (48 + d)) 3 = true by unfold dk; rw [nI_d48, guardT hd (by omega), nI_cl (by omega), decide_eq_true hk]; rfl, bd2_s, if_neg b2t0, e22, m_letter r (MC_w mc w) (by omega), bd2_s, LL_t hp, if_pos e, e22, eb, bind_s]
theorem ms3_b (a : AOK A) (r : RD A H s) (hd : d < nT A) (hp : p ≤ hn H s) (e : ¬ (kd A d = 3 ∧ LL H s p = nI 62)) (h : MS A H MF K (E3 s d) p p) : MS A H MF K (E5 s) p p := by
  have l := RD_60 r
  have hT := a.1.1
  intro τ mc
  obtain ⟨m, τ', hm, w, e22, eM⟩ := h τ mc
  refine ⟨m, τ', hm, w, e22, ?_⟩
  rw [eM]
  unfold E3
  rw [m_digitk a (MC_w mc w) _ (Nat.le_refl 3), show dk A (nI (48 + d)) 3 = decide (kd A d = 3) by unfold dk; rw [nI_d48, guardT hd (by omega), nI_cl (by omega)]; rfl, bd2_s]
  by_cases z : kd A d = 3
  · rw [decide_eq_true z, if_neg b2t0, e22, m_letter r (MC_w mc w) (by omega), bd2_s, if_neg (fun y => e ⟨z, y⟩)]
  · rw [decide_eq_false z, if_pos b2f0]
theorem ms4_no (r : RD A H s) (hp : p ≤ hn H s) (hK0 : ∀ τ', K (nI 0) τ' = some (τ'.1 247 22, τ')) (e : LL H s p < nI 48 ∨ nI 55 < LL H s p) (h : MS A H MF K (E4 s) c p) : MDf A H MF p := by
  have l := RD_60 r
  intro τ mc
  obtain ⟨m, τ', hm, w, e22, eM⟩ := h τ mc
  refine ⟨τ', w, ?_⟩
  rw [eM]
  unfold E4
  rw [e22, m_letter r (MC_w mc w) (by omega), bd2_s]
  by_cases z : LL H s p < nI 48
  · rw [if_pos z, bd2_s, hK0, e22]
  · rw [if_neg z, e22, m_letter r (MC_w mc w) (by omega), bd2_s, if_pos (e.resolve_left z), bd2_s, hK0, e22]
theorem ms4_yes (r : RD A H s) (hp : p < hn H s) (e1 : ¬ lt H s p < nI 48) (e2 : ¬ nI 55 < lt H s p) (h : MS A H MF K (E4 s) p p) : MS A H MF K (E5 s) (p + 1) (p + 1) := by
  have l := RD_60 r
  intro τ mc
  obtain ⟨m, τ', hm, w, e22, eM⟩ := h τ mc
  obtain ⟨b1, b2', b3⟩ := bump w e22
  have eb : (pfI τ' 247 22 (nI p + nI 1)) = some (setI τ' 247 22 (nI (p + 1))) := by rw [← e22]; exact b3
  refine ⟨m, _, by omega, b1, b2', ?_⟩
  rw [eM]
  unfold E4
  rw [e22, m_letter r (MC_w mc w) (by omega), bd2_s, LL_t hp, if_neg e1, e22, m_letter r (MC_w mc w) (by omega), bd2_s, LL_t hp, if_neg e2, e22, eb, bind_s]
theorem ms5_sep (r : RD A H s) (hp : p < hn H s) (e : lt H s p = nI 38 ∨ lt H s p = nI 124) (h : MS A H MF K (E5 s) p p) : MS A H MF K (E1 s) (p + 1) (p + 1) := by
  have l := RD_60 r
  intro τ mc
  obtain ⟨m, τ', hm, w, e22, eM⟩ := h τ mc
  obtain ⟨b1, b2', b3⟩ := bump w e22
  have eb : (pfI τ' 247 22 (nI p + nI 1)) = some (setI τ' 247 22 (nI (p + 1))) := by rw [← e22]; exact b3
  refine ⟨m, _, by omega, b1, b2', ?_⟩
  rw [eM]
  unfold E5 f_X12_overCondition_128
  rw [e22, m_letter r (MC_w mc w) (by omega), bd2_s, LL_t hp]
  by_cases z : lt H s p = nI 38
  · rw [if_pos z, e22, eb, bind_s]
  · rw [if_neg z, e22, m_letter r (MC_w mc w) (by omega), bd2_s, LL_t hp, if_pos (e.resolve_left z), e22, eb, bind_s]
theorem ms5_end (r : RD A H s) (hp : p ≤ hn H s) (e1 : LL H s p ≠ nI 38) (e2 : LL H s p ≠ nI 124) (h : MS A H MF K (E5 s) c p) : MK A H MF K p := by
  have l := RD_60 r
  intro τ mc
  obtain ⟨m, τ', hm, w, e22, eM⟩ := h τ mc
  refine ⟨τ', w, e22, ?_⟩
  rw [eM]
  unfold E5 f_X12_overCondition_128
  rw [e22, m_letter r (MC_w mc w) (by omega), bd2_s, if_neg e1, e22, m_letter r (MC_w mc w) (by omega), bd2_s, if_neg e2, bd2_s]
end
