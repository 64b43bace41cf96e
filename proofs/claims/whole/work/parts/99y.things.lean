section
/-! ===== a thing is added ===== -/
variable {A : AW} {H : SHV} {x n : Nat} {g : Nat → Nat → Bool} {σ s u : ST} {X : XS} {ft : Int32}
theorem t_addT (a : AOK A) (c : CR 2 A σ) (hx : x ≤ 3) (r : rmT A x = true) (cs : 2 ≤ x → CC σ 190 g) : ∃ s, f_X10_addThing (nI x) 190 σ = some (nI (nT A), s) ∧ Fr (fun y => y = 2 ∨ y = 3 ∨ y = 4 ∨ (9 + 5 * nT A ≤ y ∧ y < 14 + 5 * nT A)) σ s ∧ CR 2 (aT A x g) s := by
  obtain ⟨r1, r2⟩ := rmT_t r
  have F6 : Fr (fun y => y = 3 ∨ y = 4) σ (setI (setI σ 4 (nT A) (nI (cK A x))) 3 (nT A) (nI x)) := (Fr_setI (Or.inr rfl)).tr (Fr_setI (Or.inl rfl))
  have e20 : (setI (setI σ 4 (nT A) (nI (cK A x))) 3 (nT A) (nI x)).1 2 0 = nI (nT A) := (F6.I (by omega) _).trans c.1.1
  have e3 : ∀ i, (setI (setI σ 4 (nT A) (nI (cK A x))) 3 (nT A) (nI x)).1 3 i = if i = nT A then nI x else σ.1 3 i := fun i => by
    by_cases z : i = nT A
    · rw [if_pos z, z, I_at]
    · rw [if_neg z, I_ne (Or.inr z), I_ne (Or.inl (by decide))]
  have e4 : ∀ i, (setI (setI σ 4 (nT A) (nI (cK A x))) 3 (nT A) (nI x)).1 4 i = if i = nT A then nI (cK A x) else σ.1 4 i := fun i => by
    by_cases z : i = nT A
    · rw [if_pos z, z, I_ne (Or.inl (by decide)), I_at]
    · rw [if_neg z, I_ne (Or.inl (by decide)), I_ne (Or.inr z)]
  unfold f_X10_addThing
  rw [t_roomT a c hx, r, bd2_s, if_neg b2t0, t_countOf a c (by omega), bd2_s, c.1.1, wrI_ok r1 (by decide), bind_s, wrI_ok r1 (by decide), bind_s]
  generalize setI (setI σ 4 (nT A) (nI (cK A x))) 3 (nT A) (nI x) = s6 at *
  have fin : ∀ s7, Fr (fun y => 9 + 5 * nT A ≤ y ∧ y < 14 + 5 * nT A) s6 s7 → (2 ≤ x → CC s7 (9 + 5 * nT A) g) → Fr (fun y => y = 2 ∨ y = 3 ∨ y = 4 ∨ (9 + 5 * nT A ≤ y ∧ y < 14 + 5 * nT A)) σ (setI s7 2 0 (nI (nT A + 1))) ∧ CR 2 (aT A x g) (setI s7 2 0 (nI (nT A + 1))) := fun s7 F7 cc => by
    have F2 : Fr (fun y => y = 2) s7 (setI s7 2 0 (nI (nT A + 1))) := Fr_setI rfl
    have FF : Fr (fun y => y = 2 ∨ y = 3 ∨ y = 4 ∨ (9 + 5 * nT A ≤ y ∧ y < 14 + 5 * nT A)) σ (setI s7 2 0 (nI (nT A + 1))) := ((F6.mono (fun y hy => by omega)).tr (F7.mono (fun y hy => by omega))).tr (F2.mono (fun y hy => by omega))
    refine ⟨FF, CR_aT a c r1 (FF.mono (fun y hy => by omega)) (I_at _ _ _ _) (fun k hk => ?_) (fun i => ?_) (fun i => ?_) (fun q => CC_sm (cc q) (fun y h1 h2 => (F2.1 y (by omega)).1))⟩
    · rw [I_ne (Or.inr hk), F7.I (by omega), F6.I (by omega)]
    · rw [F2.I (by omega), F7.I (by omega), e3]
    · rw [F2.I (by omega), F7.I (by omega), e4]
  have hi : 2 ≤ x → ∃ s, f_X10_addThing_43 190 (nI (nT A)) s6 = some (nI (nT A), s) ∧ Fr (fun y => y = 2 ∨ y = 3 ∨ y = 4 ∨ (9 + 5 * nT A ≤ y ∧ y < 14 + 5 * nT A)) σ s ∧ CR 2 (aT A x g) s := fun q => by
    have cs6 : CC s6 190 g := CC_sm (cs q) (fun y h1 h2 => (F6.1 y (by omega)).1)
    obtain ⟨s7, e7, F7, g0, gi⟩ := t_cbecome (σ := s6) (a0 := 9 + 5 * nT A) (a1 := 190) (Or.inl (by omega))
    obtain ⟨f1, f2⟩ := fin s7 (F7.mono (fun y hy => by omega)) (fun _ => CC_to cs6 g0 gi)
    refine ⟨_, ?_, f1, f2⟩
    unfold f_X10_addThing_43
    rw [ixR_ok r1 (by decide), bind_s, show 2 + 7 + 5 * nT A = 9 + 5 * nT A by omega, e7, bind_s, F7.I (by omega), e20, nI_add, pfI_s, bind_s]
  rcases (show x = 0 ∨ x = 1 ∨ x = 2 ∨ x = 3 by omega) with rfl | rfl | rfl | rfl
  · obtain ⟨f1, f2⟩ := fin s6 (Fr.rf _ _) (fun q => absurd q (by decide))
    rw [if_neg (by decide), if_neg (by decide), e20, nI_add, pfI_s, bind_s]
    exact ⟨_, rfl, f1, f2⟩
  · obtain ⟨f1, f2⟩ := fin s6 (Fr.rf _ _) (fun q => absurd q (by decide))
    rw [if_neg (by decide), if_neg (by decide), e20, nI_add, pfI_s, bind_s]
    exact ⟨_, rfl, f1, f2⟩
  · rw [if_pos rfl]; exact hi (by decide)
  · rw [if_neg (by decide), if_pos rfl]; exact hi (by decide)
theorem m_lettr (r : RD A H n) (mc : SHM H σ) {p : Nat} (hp : p < 2 ^ 31) : f_X12_letter (nI n) (nI p) σ = some (LL H n p, σ) := by
  have l := RD_60 r
  obtain ⟨-, hs, hw⟩ := r
  unfold f_X12_letter LL
  rw [rdI_ok hs (by decide), (mc n hs).2.1 hw, bind_s]
  by_cases z : p < hn H n
  · rw [if_pos ((nI_ltI hp (by omega)).mpr z), nI_mul, nI_add, rdJ_ok (show 60 * n + p < 480 by omega) (by decide), (mc n hs).2.2 p (by omega), bind_s, if_pos z]
    rfl
  · rw [if_neg (fun w => z ((nI_ltI hp (by omega)).mp w)), if_neg z]; rfl
/-- the reference copies n letters t -/
def CPY (A : AW) (H : SHV) (y : Int32) (n : Nat) (t : Nat → Int32) : Prop := ∀ (K : Int32 → ST → Option (Int32 × ST)) (x : Int32) (u0 : ST), SHM H u0 → u0.1 247 60 = nI n → u0.1 247 0 = nI (nT A) → ∃ u, f_X12_thing_130 K FU x y (nI 0) u0 = K x u ∧ Fr (fun y => y = 250) u0 u ∧ (∀ j, j < 60 * nT A → u.1 250 j = u0.1 250 j) ∧ ∀ j, j < n → u.1 250 (60 * nT A + j) = t j
theorem cpy_0 {y : Int32} {t : Nat → Int32} : CPY A H y 0 t := fun K x u0 _ e60 _ => by
  obtain ⟨m, hm⟩ : ∃ m, FU = m + 1 := ⟨FU - 1, by rw [FU_eq]⟩
  refine ⟨u0, ?_, Fr.rf _ _, fun _ _ => rfl, fun j hj => absurd hj (Nat.not_lt_zero _)⟩
  rw [hm, f_X12_thing_130, e60, if_neg (by decide)]
theorem cpy_r (r : RD A H n) (h10 : nT A < 10) : CPY A H (nI n) (hn H n) (lt H n) := fun K x u0 sh e60 e0 => by
  have l := RD_60 r
  refine loopX (fun m i (w : ST) => f_X12_thing_130 K m x (nI n) (nI i) w) (hn H n) (fun i w => Fr (fun y => y = 250) u0 w ∧ (∀ j, j < 60 * nT A → w.1 250 j = u0.1 250 j) ∧ ∀ j, j < i → w.1 250 (60 * nT A + j) = lt H n j) (fun r => ∃ u, r = K x u ∧ Fr (fun y => y = 250) u0 u ∧ (∀ j, j < 60 * nT A → u.1 250 j = u0.1 250 j) ∧ ∀ j, j < hn H n → u.1 250 (60 * nT A + j) = lt H n j) ?_ ?_ FU 0 u0 (by rw [FU_eq]; omega) (Nat.zero_le _) ⟨Fr.rf _ _, fun _ _ => rfl, fun j hj => absurd hj (Nat.not_lt_zero _)⟩
  · rintro m i w hi ⟨F, b, d⟩
    have f60 : w.1 247 60 = nI (hn H n) := (F.I (by decide) _).trans e60
    have f0 : w.1 247 0 = nI (nT A) := (F.I (by decide) _).trans e0
    have sw : SHM H w := SHM_eq sh (F.1 _ (by decide)).1 (F.1 _ (by decide)).1 (F.1 _ (by decide)).2.1
    refine Or.inl ⟨setI w 250 (60 * nT A + i) (lt H n i), ?_, F.tr (Fr_setI rfl), fun j hj => by rw [I_ne (Or.inr (by omega))]; exact b j hj, fun j hj => ?_⟩
    · show f_X12_thing_130 K (m + 1) x (nI n) (nI i) w = f_X12_thing_130 K m x (nI n) (nI (i + 1)) (setI w 250 (60 * nT A + i) (lt H n i))
      rw [f_X12_thing_130, f60, if_pos ((nI_ltI (by omega) (by omega)).mpr hi), m_lettr r sw (by omega), bd2_s, f0, nI_mul, nI_add, wrI_ok (show 60 * nT A + i < 600 by omega) (by decide), bind_s, nI_add, LL_t hi]
    · by_cases z : j = i
      · rw [z, I_at]
      · rw [I_ne (Or.inr (by omega))]; exact d j (by omega)
  · rintro m w ⟨F, b, d⟩
    have f60 : w.1 247 60 = nI (hn H n) := (F.I (by decide) _).trans e60
    refine ⟨w, ?_, F, b, d⟩
    show f_X12_thing_130 K (m + 1) x (nI n) (nI (hn H n)) w = K x w
    rw [f_X12_thing_130, f60, if_neg (fun q => Nat.lt_irrefl _ ((nI_ltI (by omega) (by omega)).mp q))]
theorem m_74 {y : Int32} (hx : x ≤ 3) : f_X12_thing_74 (nI x) y σ = f_X12_thing_101 (nI x) y (nI (moT x)) σ := by
  unfold f_X12_thing_74
  rcases (show x = 0 ∨ x = 1 ∨ x = 2 ∨ x = 3 by omega) with rfl | rfl | rfl | rfl
  · rw [if_pos (show nI 0 = 0 by decide)]; rfl
  · rw [if_neg (show ¬ nI 1 = 0 by decide), if_pos rfl]; rfl
  · rw [if_neg (show ¬ nI 2 = 0 by decide), if_neg (show ¬ nI 2 = nI 1 by decide), if_pos rfl]; rfl
  · rw [if_neg (show ¬ nI 3 = 0 by decide), if_neg (show ¬ nI 3 = nI 1 by decide), if_neg (show ¬ nI 3 = nI 2 by decide)]; rfl
noncomputable abbrev K74 : Int32 → ST → Option (Int32 × ST) := fun x1_11 s12 =>
    (wrI s12 248 10 (s12.1 247 0) x1_11).bind fun s13 =>
    (wrI s13 249 10 (s13.1 247 0) (s13.1 247 60)).bind fun s14 =>
    (pfI s14 247 0 ((s14.1 247 0) + (nI 1))).bind fun s15 =>
    some (((s15.1 247 0) - (nI 1)), s15)
theorem m_101 (a : AOK A) (mr : MR A σ) (hx : x ≤ 3) {y : Int32} : f_X12_thing_101 (nI x) y (nI (moT x)) σ = if rmT A x = true then f_X12_thing_130 K74 FU (nI x) y (nI 0) σ else some (-7, rM 7 σ) := by
  have hT := a.1.1
  obtain ⟨k0, k1, k2, k3⟩ := a.2.2.1
  have hm : cK A x ≤ moT x ∧ moT x ≤ 5 := by
    unfold moT
    rcases (show x = 0 ∨ x = 1 ∨ x = 2 ∨ x = 3 by omega) with rfl | rfl | rfl | rfl <;> simp <;> omega
  unfold f_X12_thing_101 rmT
  rw [mr.1.1]
  by_cases z : nT A < 10
  · rw [if_neg (fun q => by have := (nI_eq (by omega) (by omega)).mp q; omega), t_many a mr (by omega), bd2_s, decide_eq_true z, Bool.true_and]
    by_cases w : cK A x < moT x
    · rw [if_neg (fun q => by have := (nI_eq (by omega) (by omega)).mp q; omega), decide_eq_true w, if_pos rfl]
    · rw [if_pos (congrArg nI (show cK A x = moT x by omega)), decide_eq_false w, if_neg (by decide), m_no (j := 7) (by decide) (by decide), bd2_s]
  · rw [if_pos (congrArg nI (show nT A = 10 by omega)), decide_eq_false z, Bool.false_and, if_neg (by decide), m_no (j := 7) (by decide) (by decide), bd2_s]
theorem OUT_thing {c m : ST → Option (Int32 × ST)} (h : XR X σ) (hx : x ≤ 3) {y : Int32} {t : Nat → Int32} (f : SF ft σ s) (ec : c σ = f_X11_thing_50 (nI x) s) (cs : 2 ≤ x → CC s 190 g) (hn60 : n ≤ 60) (tm : 2 ≤ x → ∀ t', (∀ j, j < n → t' j = t j) → TM t' n (nT X.1) (kd X.1) g) (cp : nT X.1 < 10 → CPY X.1 X.2.1 y n t) (em : ∀ τ, XM X τ → ∃ u, MFd ft τ u ∧ u.1 247 60 = nI n ∧ m τ = f_X12_thing_74 (nI x) y u) : OUT c m σ := by
  have a := h.1.1
  have c2 : CR 2 X.1 s := CR_fr a h.2.1.1 f.1 (fun y hy => by omega)
  cases rm : rmT X.1 x with
  | false =>
    refine OUT_rf (v := -7) (j := 7) h (by decide) (by decide) f ?_ (fun τ m1 => ?_)
    · rw [ec]
      unfold f_X11_thing_50
      rw [t_roomT a c2 hx, rm, bd2_s, if_pos b2f0, c_refuse (j := 7) (by decide) (by decide), bd2_s]
    · obtain ⟨u, mf, e60, e⟩ := em τ m1
      refine ⟨u, mf, ?_⟩
      rw [e, m_74 hx, m_101 a (XM_mf m1 mf).1 hx, rm, if_neg (by decide)]
  | true =>
    obtain ⟨r1, r2⟩ := rmT_t rm
    have FZ : Fr (fun y => y = 0) s (setI (setI s 0 11 1) 0 12 1) := (Fr_setI (W := fun y => y = 0) rfl).tr (Fr_setI rfl)
    have e11 : (setI (setI s 0 11 1) 0 12 1).1 0 11 = 1 := by rw [I_ne (Or.inr (by decide)), I_at]
    have e12 : (setI (setI s 0 11 1) 0 12 1).1 0 12 = 1 := I_at _ _ _ _
    have e10 : (setI (setI s 0 11 1) 0 12 1).1 0 10 = s.1 0 10 := by rw [I_ne (Or.inr (by decide)), I_ne (Or.inr (by decide))]
    have e13 : (setI (setI s 0 11 1) 0 12 1).1 0 13 = s.1 0 13 := by rw [I_ne (Or.inr (by decide)), I_ne (Or.inr (by decide))]
    have ec2 : c σ = bd2 (f_X10_addThing (nI x) 190 (setI (setI s 0 11 1) 0 12 1)) fun v10 s9 => some (v10, s9) := by
      rw [ec]
      unfold f_X11_thing_50
      rw [t_roomT a c2 hx, rm, bd2_s, if_neg b2t0, pfZ_1, bind_s, pfZ_1, bind_s]
    generalize setI (setI s 0 11 1) 0 12 1 = f1 at *
    have c3 : CR 2 X.1 f1 := CR_fr a c2 FZ (fun y hy => by omega)
    obtain ⟨s2, ea, F2, ca⟩ := t_addT (g := g) a c3 hx rm (fun q => CC_sm (cs q) (fun y h1 h2 => (FZ.1 y (by omega)).1))
    have F1 : Fr (fun y => y = 0 ∨ y = 2 ∨ y = 3 ∨ y = 4 ∨ (9 + 5 * nT X.1 ≤ y ∧ y < 14 + 5 * nT X.1)) s s2 := (FZ.mono (fun y hy => by omega)).tr (F2.mono (fun y hy => by omega))
    have FF : Fr (fun y => y = 0 ∨ y = 2 ∨ y = 3 ∨ y = 4 ∨ (9 + 5 * nT X.1 ≤ y ∧ y < 14 + 5 * nT X.1) ∨ (188 ≤ y ∧ y ≤ 194)) σ s2 := (f.1.mono (fun y hy => by omega)).tr (F1.mono (fun y hy => by omega))
    refine OUT_w (A' := aT X.1 x g) (ft := ft) (s := s2) (w := nI (nT X.1)) h (AOK_aT a hx rm) (HOK_P h.1.2.1 (by rw [nP_aT]; exact Nat.le_refl _)) ?_ (Sm_w FF (fun y hy => by omega)) (by rw [FF.2]; omega) ?_ ?_ ca ⟨fun q => ?_, fun q => ?_, fun q => ?_⟩ (fun vb => VB_eq (VB_sf vb f) ⟨[], by rw [F1.2, List.append_nil]⟩ (fun i _ => Or.inl (F1.T (by omega) i)) (F1.1 100 (by omega)).2.2 (fun i hi => ⟨F1.I (by omega) _, F1.I (by omega) _, F1.I (by omega) _, F1.I (by omega) _⟩) (F1.I (by omega) _) (F1.I (by omega) _)) (fun m1 => ?_)
    · rw [ec2, ea, bd2_s]
    · rw [F2.I (by omega), e10]; exact f.2.1 10 (by decide)
    · rw [F2.I (by omega), e13]; exact f.2.2.1
    · rw [F2.I (by omega), e12] at q; exact absurd q (by decide)
    · rw [F2.I (by omega), e11] at q; exact absurd q (by decide)
    · rw [F2.I (by omega), e12] at q; exact absurd q (by decide)
    · obtain ⟨u0, mf, e60, em'⟩ := em _ m1
      have xm := XM_mf m1 mf
      have mr : MR X.1 u0 := xm.1
      have e0 := mr.1.1
      obtain ⟨u1, ce, G1, b1, d1⟩ := cp r1 K74 (nI x) u0 xm.2.1 e60 e0
      have g0 : u1.1 247 0 = nI (nT X.1) := (G1.I (by decide) _).trans e0
      have g60 : u1.1 247 60 = nI n := (G1.I (by decide) _).trans e60
      have U : Fr (fun y => y = 248 ∨ y = 249 ∨ y = 247) u1 (setI (setI (setI u1 248 (nT X.1) (nI x)) 249 (nT X.1) (nI n)) 247 0 (nI (nT X.1 + 1))) := ((Fr_setI (by omega)).tr (Fr_setI (by omega))).tr (Fr_setI (by omega))
      have u7 : ∀ k, k ≠ 0 → (setI (setI (setI u1 248 (nT X.1) (nI x)) 249 (nT X.1) (nI n)) 247 0 (nI (nT X.1 + 1))).1 247 k = u0.1 247 k := fun k hk => by rw [I_ne (Or.inr hk), I_ne (Or.inl (by decide)), I_ne (Or.inl (by decide)), G1.I (by decide)]
      have FU' : Fr (fun y => 247 ≤ y ∧ y ≤ 250) u0 (setI (setI (setI u1 248 (nT X.1) (nI x)) 249 (nT X.1) (nI n)) 247 0 (nI (nT X.1 + 1))) := (G1.mono (fun y hy => by omega)).tr (U.mono (fun y hy => by omega))
      refine ⟨setI (setI (setI u1 248 (nT X.1) (nI x)) 249 (nT X.1) (nI n)) 247 0 (nI (nT X.1 + 1)), ?_, (mf.1.mono (fun y hy => by omega)).tr (FU'.mono (fun y hy => by omega)), fun y hy => ⟨(FU'.1 y (by omega)).1.trans (mf.1.1 y (by omega)).1, (FU'.1 y (by omega)).2.1.trans (mf.1.1 y (by omega)).2.1⟩, (u7 52 (by decide)).trans (mf.2.1 52 (by decide) (by decide) (by decide)), (u7 53 (by decide)).trans (mf.2.1 53 (by decide) (by decide) (by decide)), (u7 21 (by decide)).trans mf.2.2, MR_aT mr hn60 FU' (I_at _ _ _ _) (u7 4 (by decide)) (u7 9 (by decide)) (fun i => ?_) (fun i => ?_) (fun j hj => ?_) (fun q => tm q _ (fun j hj => ?_))⟩
      · rw [em', m_74 hx, m_101 a mr hx, rm, if_pos rfl, ce]
        unfold K74
        rw [g0, wrI_ok r1 (by decide), bind_s, I_ne (Or.inl (by decide)), I_ne (Or.inl (by decide)), g0, g60, wrI_ok r1 (by decide), bind_s, I_ne (Or.inl (by decide)), I_ne (Or.inl (by decide)), g0, nI_add, pfI_s, bind_s, I_at, nI_sub (by omega), Nat.add_sub_cancel]
      · rw [I_ne (Or.inl (by decide)), I_ne (Or.inl (by decide))]
        by_cases z : i = nT X.1
        · rw [if_pos z, z, I_at]
        · rw [if_neg z, I_ne (Or.inr z), G1.I (by decide)]
      · rw [I_ne (Or.inl (by decide))]
        by_cases z : i = nT X.1
        · rw [if_pos z, z, I_at]
        · rw [if_neg z, I_ne (Or.inr z), I_ne (Or.inl (by decide)), G1.I (by decide)]
      · rw [U.I (by decide)]; exact b1 j hj
      · rw [U.I (by decide)]; exact d1 j hj
end
