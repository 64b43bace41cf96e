section
/-! ===== happening ===== -/
variable {X : XS} {A : AW} {H : SHV} {σ τ s u : ST} {ft : Int32} {n p b : Nat}
noncomputable abbrev K78 : Int32 → Int32 → Int32 → ST → Option (Int32 × ST) := fun x1_12 x2_13 x3_14 s15 =>
    (rdI s15 264 8 x1_12).bind fun v16 =>
    (wrI s15 251 6 (s15.1 247 4) v16).bind fun s17 =>
    (wrI s17 253 6 (s17.1 247 4) x2_13).bind fun s18 =>
    if x3_14 = 0 then
    (f_X12_happening_159 (s18.1 247 4) (nI 0) s18)
    else (f_X12_happening_159 (s18.1 247 4) (nI 1) s18)
theorem cpy_h (r : RD A H n) (h6 : nH A < 6) {K : Int32 → Int32 → Int32 → ST → Option (Int32 × ST)} (x2 x3 : Int32) (u0 : ST) (sh : SHM H u0) (e4 : u0.1 247 4 = nI (nH A)) : ∃ u, f_X12_happening_78 K FU (nI n) x2 x3 (nI 0) u0 = K (nI n) x2 x3 u ∧ Fr (fun y => y = 252) u0 u ∧ (∀ j, j < 60 * nH A → u.1 252 j = u0.1 252 j) ∧ ∀ j, j < hn H n → u.1 252 (60 * nH A + j) = lt H n j := by
  have l := RD_60 r
  refine loopX (fun m i (w : ST) => f_X12_happening_78 K m (nI n) x2 x3 (nI i) w) (hn H n) (fun i w => Fr (fun y => y = 252) u0 w ∧ (∀ j, j < 60 * nH A → w.1 252 j = u0.1 252 j) ∧ ∀ j, j < i → w.1 252 (60 * nH A + j) = lt H n j) (fun r => ∃ u, r = K (nI n) x2 x3 u ∧ Fr (fun y => y = 252) u0 u ∧ (∀ j, j < 60 * nH A → u.1 252 j = u0.1 252 j) ∧ ∀ j, j < hn H n → u.1 252 (60 * nH A + j) = lt H n j) ?_ ?_ FU 0 u0 (by rw [FU_eq]; omega) (Nat.zero_le _) ⟨Fr.rf _ _, fun _ _ => rfl, fun j hj => absurd hj (Nat.not_lt_zero _)⟩
  · rintro m i w hi ⟨F, b, d⟩
    have f4 : w.1 247 4 = nI (nH A) := (F.I (by decide) _).trans e4
    have sw : SHM H w := SHM_eq sh (F.1 _ (by decide)).1 (F.1 _ (by decide)).1 (F.1 _ (by decide)).2.1
    refine Or.inl ⟨setI w 252 (60 * nH A + i) (lt H n i), ?_, F.tr (Fr_setI rfl), fun j hj => by rw [I_ne (Or.inr (by omega))]; exact b j hj, fun j hj => ?_⟩
    · show f_X12_happening_78 K (m + 1) (nI n) x2 x3 (nI i) w = f_X12_happening_78 K m (nI n) x2 x3 (nI (i + 1)) (setI w 252 (60 * nH A + i) (lt H n i))
      rw [f_X12_happening_78, rdI_ok r.2.1 (by decide), (sw n r.2.1).2.1 r.2.2, bind_s, if_pos ((nI_ltI (by omega) (by omega)).mpr hi), m_lettr r sw (by omega), bd2_s, f4, nI_mul, nI_add, wrI_ok (show 60 * nH A + i < 360 by omega) (by decide), bind_s, nI_add, LL_t hi]
    · by_cases z : j = i
      · rw [z, I_at]
      · rw [I_ne (Or.inr (by omega))]; exact d j (by omega)
  · rintro m w ⟨F, b, d⟩
    have sw : SHM H w := SHM_eq sh (F.1 _ (by decide)).1 (F.1 _ (by decide)).1 (F.1 _ (by decide)).2.1
    refine ⟨w, ?_, F, b, d⟩
    show f_X12_happening_78 K (m + 1) (nI n) x2 x3 (nI (hn H n)) w = K (nI n) x2 x3 w
    rw [f_X12_happening_78, rdI_ok r.2.1 (by decide), (sw n r.2.1).2.1 r.2.2, bind_s, if_neg (fun q => Nat.lt_irrefl _ ((nI_ltI (by omega) (by omega)).mp q))]
theorem MFd_rf (m : XM X τ) : MFd (τ.1 247 21) τ τ := ⟨Fr.rf _ _, fun _ _ _ _ => rfl, rfl⟩
/-- the reference up to the fault -/
theorem m_happ_pre (m : XM X τ) (r : RD X.1 X.2.1 n) (hp : p < 100) {x3 v : Int32} (md : MDv X.1 X.2.1 (f_X12_lawFault (nI n)) v) : ∃ τ2, MFd v τ τ2 ∧ f_X12_happening (nI n) (nI p) x3 τ = if v < 0 then (if nI (nH X.1) = nI 6 then some (-7, rM 7 τ2) else f_X12_happening_78 K78 FU (nI n) (nI p) x3 (nI 0) τ2) else some (-6, rM 6 τ2) := by
  obtain ⟨τ', w, e⟩ := md _ (MC_XM m)
  have mf : MFd v τ (setI τ' 247 21 v) := MFd_w (MFd_rf m) w
  refine ⟨setI τ' 247 21 v, mf, ?_⟩
  have rt0 : rt X.2.1 n = nI 0 := if_pos r.2.2
  have e4 := (XM_mf m mf).1.1.2.1
  have e4' : (setI τ' 247 21 v).1 247 4 = nI (nH X.1) := e4
  unfold f_X12_happening
  rw [m_noRow r.1 m.2.1 r.2.1, bd2_s, rt0, if_neg (by decide), num_g, guardT hp (by decide), if_pos rfl, e, bd2_s, pfI_s, bind_s, I_at, e4', m_no (j := 7) (by decide) (by decide), bd2_s, m_no (j := 6) (by decide) (by decide), bd2_s]
theorem VB_h (vb : VB σ) (hn : n < 6) (F : Fr (fun y => y = 2 ∨ (59 + 6 * n ≤ y ∧ y < 65 + 6 * n)) σ s) (h3 : s.1 (59 + 6 * n) 3 = 0 ∨ s.1 (59 + 6 * n) 3 = 1) (h5 : s.1 (59 + 6 * n) 5 = 0 ∨ s.1 (59 + 6 * n) 5 = 1) : VB s := by
  obtain ⟨v1, v2, v3, v4⟩ := vb
  refine ⟨fun k p hk hp => ?_, fun h hh => ?_, by rw [F.I (by omega)]; exact v3, by rw [F.I (by omega)]; exact v4⟩
  · rw [F.T (by omega), F.T (by omega)] at hp
    obtain ⟨c, e⟩ := v1 k p hk hp
    exact ⟨c, chkP_sub e ⟨[], by rw [F.2, List.append_nil]⟩⟩
  · rw [F.I (x := 152 + 6 * h) (by omega), F.I (x := 152 + 6 * h) (by omega)]
    by_cases z : h = n
    · rw [z]; exact ⟨⟨h3, h5⟩, by rw [← z]; exact (v2 h hh).2⟩
    · rw [F.I (x := 59 + 6 * h) (by omega), F.I (x := 59 + 6 * h) (by omega)]; exact v2 h hh
theorem GE_eq {k : Nat} (h : GE A H k σ) (e : s.1 189 = σ.1 189) : GE A H k s := by
  unfold GE
  rw [e]
  exact h
theorem q_happening (h : XR X σ) (x y : Int32) (hb : b ≤ 1) : OUT (f_X11_happening x y (nI b)) (f_X12_happening x y (nI b)) σ := by
  have a := h.1.1
  have o := h.1.2.1
  have vb : VB σ := h.2.1.2.2.2.2.2.2.2
  have c13 : σ.1 0 13 = X.2.2.2.1 := h.2.1.2.2.2.2.1
  have hH := a.1.2.1
  have b01 : nI b = 0 ∨ nI b = 1 := by rcases (show b = 0 ∨ b = 1 by omega) with rfl | rfl <;> decide
  have ref : ∀ v j, 1 ≤ j → j < 8 → -v = nI j → v < 0 → ¬ v = 0 → f_X11_rowTrouble x σ = some (v, σ) → (∀ τ, SHM X.2.1 τ → f_X12_noRow x τ = some (v, τ)) → OUT (f_X11_happening x y (nI b)) (f_X12_happening x y (nI b)) σ := fun v j h1 h8 hv hn hz e1 e2 => by
    refine OUT_ref h h1 h8 (v := v) ?_ (fun τ m => ?_)
    · unfold f_X11_happening f_X11_happening_32
      rw [e1, bd2_s, if_neg hz, if_neg hz, c_refuse hv h8, bd2_s]
    · unfold f_X12_happening
      rw [e2 τ m.2.1, bd2_s, if_pos hn, m_no hv h8, bd2_s]
  cases g2 : inR x 8 with
  | false => exact ref (-1) 1 (by decide) (by decide) (by decide) (by decide) (by decide) (c_rowTrouble_no g2) (fun τ m => m_noRow_no g2)
  | true =>
    obtain ⟨n, hs, rfl⟩ := inR_of g2 (by decide)
    rcases rt_or X.2.1 n with ⟨rt0, hq1⟩ | ⟨j, h1, h8, hv, hn, hz⟩
    · have r : RD X.1 X.2.1 n := ⟨o, hs, hq1⟩
      have l := RD_60 r
      cases g3 : inR y 100 with
      | false =>
        refine OUT_ref h (v := -6) (j := 6) (by decide) (by decide) ?_ (fun τ m => ?_)
        · unfold f_X11_happening f_X11_happening_30 f_X11_happening_32
          rw [c_rowTrouble o h.2.1.2.2.1 hs, bd2_s, rt0, if_pos (show nI 0 = 0 by decide), c_isNumber, g3, bd2_s, if_pos b2f0, if_neg (by decide), c_refuse (j := 6) (by decide) (by decide), bd2_s]
        · unfold f_X12_happening
          rw [m_noRow o m.2.1 hs, bd2_s, rt0, if_neg (by decide), num_g, g3, if_neg (by decide), m_no (j := 6) (by decide) (by decide), bd2_s]
      | true =>
        obtain ⟨p, hp, rfl⟩ := inR_of g3 (by decide)
        obtain ⟨v, s0, e, f, md, g⟩ := t_trouble hs (t_readL a h.2.1.1 r h.2.1.2.2.1)
        have ec : f_X11_happening (nI n) (nI p) (nI b) σ = f_X11_happening_32 (nI p) (nI b) (if v = -1 then 0 else -6) s0 := by
          unfold f_X11_happening f_X11_happening_30
          rw [c_rowTrouble o h.2.1.2.2.1 hs, bd2_s, rt0, if_pos (show nI 0 = 0 by decide), c_isNumber, g3, bd2_s, if_neg b2t0, e, bd2_s]
        have c2 : CR 2 X.1 s0 := CR_fr a h.2.1.1 f.1 (fun y hy => by omega)
        rcases g with ⟨rfl, u, ⟨j, gc, g58, ge, hpos⟩, eu⟩ | ⟨vn, v0⟩
        · have gc2 : GC X.1 X.2.1 n j s0 := GC_eq gc (fun y h1 h2 => eu y (by omega))
          obtain ⟨lb, le, lz, e1, e2, e3, l1, l2, l3, te⟩ := GE_eq ge (eu 189 (by decide))
          rw [if_pos rfl] at ec
          by_cases h6 : nH X.1 < 6
          · have ec2 : f_X11_happening (nI n) (nI p) (nI b) σ = bd2 (f_X10_addHappening 189 (nI p) (nI b) (setI (setI s0 0 11 1) 0 12 1)) fun v6 s5 => some (v6, s5) := by
              rw [ec]
              unfold f_X11_happening_32
              rw [if_pos rfl, c2.1.2.1, if_pos ((nI_ltI (by omega) (by omega)).mpr h6), pfZ_1, bind_s, pfZ_1, bind_s]
            have FZ : Fr (fun y => y = 0) s0 (setI (setI s0 0 11 1) 0 12 1) := (Fr_setI (W := fun y => y = 0) rfl).tr (Fr_setI rfl)
            have e11 : (setI (setI s0 0 11 1) 0 12 1).1 0 11 = 1 := by rw [I_ne (Or.inr (by decide)), I_at]
            have e12 : (setI (setI s0 0 11 1) 0 12 1).1 0 12 = 1 := I_at _ _ _ _
            have e10 : (setI (setI s0 0 11 1) 0 12 1).1 0 10 = s0.1 0 10 := by rw [I_ne (Or.inr (by decide)), I_ne (Or.inr (by decide))]
            have e13 : (setI (setI s0 0 11 1) 0 12 1).1 0 13 = s0.1 0 13 := by rw [I_ne (Or.inr (by decide)), I_ne (Or.inr (by decide))]
            generalize setI (setI s0 0 11 1) 0 12 1 = f1 at *
            have c3 : CR 2 X.1 f1 := CR_fr a c2 FZ (fun y hy => by omega)
            have q189 : ∀ k, f1.1 189 k = s0.1 189 k := fun k => FZ.I (by decide) _
            obtain ⟨s2, ea, F2, ca, s3, s5⟩ := t_addH (g := CMr (s0.1 191) (s0.1 192) (s0.1 193) (s0.1 194) j) (p := p) (lb := lb) (le := le) (lz := lz) (b := b) a c3 h6 hb l3 (CC_sm (CC_GC gc2) (fun y h1 h2 => (FZ.1 y (by omega)).1)) ((q189 1).trans e1) ((q189 2).trans e2) ((q189 3).trans e3) (by rw [q189 5, f.2.2.2.2]; exact vb.2.2.2)
            have l01 : nI lz = 0 ∨ nI lz = 1 := by rcases (show lz = 0 ∨ lz = 1 by omega) with rfl | rfl <;> decide
            have F1 : Fr (fun y => y = 0 ∨ y = 2 ∨ (59 + 6 * nH X.1 ≤ y ∧ y < 65 + 6 * nH X.1)) s0 s2 := (FZ.mono (fun y hy => by omega)).tr (F2.mono (fun y hy => by omega))
            have FF : Fr (fun y => y = 0 ∨ y = 2 ∨ (59 + 6 * nH X.1 ≤ y ∧ y < 65 + 6 * nH X.1) ∨ (188 ≤ y ∧ y ≤ 194)) σ s2 := (f.1.mono (fun y hy => by omega)).tr (F1.mono (fun y hy => by omega))
            refine OUT_w (A' := aH X.1 lb le lz p b (CMr (s0.1 191) (s0.1 192) (s0.1 193) (s0.1 194) j)) (ft := -1) (s := s2) (w := nI (nH X.1)) h (AOK_aH a h6 (by omega) hb l1 l2 l3) (HOK_P o (by rw [nP_aH]; exact Nat.le_refl _)) ?_ (Sm_w FF (fun y hy => by omega)) (by rw [FF.2]; omega) ?_ ?_ ca ⟨fun q => ?_, fun q => ?_, fun q => ?_⟩ (fun vb => VB_h (VB_fr (VB_sf vb f) FZ (fun y hy => by omega)) h6 F2 (by rw [s3]; exact l01) (by rw [s5]; exact b01)) (fun m1 => ?_)
            · rw [ec2, ea, bd2_s]
            · rw [F2.I (by omega), e10]; exact f.2.1 10 (by decide)
            · rw [F2.I (by omega), e13]; exact f.2.2.1
            · rw [F2.I (by omega), e12] at q; exact absurd q (by decide)
            · rw [F2.I (by omega), e11] at q; exact absurd q (by decide)
            · rw [F2.I (by omega), e12] at q; exact absurd q (by decide)
            · obtain ⟨u0, mf, em'⟩ := m_happ_pre (x3 := nI b) m1 r hp md
              have xm := XM_mf m1 mf
              have mr : MR X.1 u0 := xm.1
              have e4 := mr.1.2.1
              obtain ⟨u1, ce, G1, b1, d1⟩ := cpy_h (K := K78) r h6 (nI p) (nI b) u0 xm.2.1 e4
              have g4 : u1.1 247 4 = nI (nH X.1) := (G1.I (by decide) _).trans e4
              have sw : SHM X.2.1 u1 := SHM_eq xm.2.1 (G1.1 _ (by decide)).1 (G1.1 _ (by decide)).1 (G1.1 _ (by decide)).2.1
              have U : Fr (fun y => y = 251 ∨ y = 253 ∨ y = 254 ∨ y = 247) u1 (setI (setI (setI (setI u1 251 (nH X.1) (nI (hn X.2.1 n))) 253 (nH X.1) (nI p)) 254 (nH X.1) (nI b)) 247 4 (nI (nH X.1 + 1))) := (((Fr_setI (by omega)).tr (Fr_setI (by omega))).tr (Fr_setI (by omega))).tr (Fr_setI (by omega))
              have u7 : ∀ k, k ≠ 4 → (setI (setI (setI (setI u1 251 (nH X.1) (nI (hn X.2.1 n))) 253 (nH X.1) (nI p)) 254 (nH X.1) (nI b)) 247 4 (nI (nH X.1 + 1))).1 247 k = u0.1 247 k := fun k hk => by rw [I_ne (Or.inr hk), I_ne (Or.inl (by decide)), I_ne (Or.inl (by decide)), I_ne (Or.inl (by decide)), G1.I (by decide)]
              have FU' : Fr (fun y => y = 247 ∨ (251 ≤ y ∧ y ≤ 254)) u0 (setI (setI (setI (setI u1 251 (nH X.1) (nI (hn X.2.1 n))) 253 (nH X.1) (nI p)) 254 (nH X.1) (nI b)) 247 4 (nI (nH X.1 + 1))) := (G1.mono (fun y hy => by omega)).tr (U.mono (fun y hy => by omega))
              have dd : ∀ i, i < hn X.2.1 n → (setI (setI (setI (setI u1 251 (nH X.1) (nI (hn X.2.1 n))) 253 (nH X.1) (nI p)) 254 (nH X.1) (nI b)) 247 4 (nI (nH X.1 + 1))).1 252 (60 * nH X.1 + i) = lt X.2.1 n i := fun i hi => by rw [U.I (by decide)]; exact d1 i hi
              refine ⟨setI (setI (setI (setI u1 251 (nH X.1) (nI (hn X.2.1 n))) 253 (nH X.1) (nI p)) 254 (nH X.1) (nI b)) 247 4 (nI (nH X.1 + 1)), ?_, (mf.1.mono (fun y hy => by omega)).tr (FU'.mono (fun y hy => by omega)), fun y hy => ⟨(FU'.1 y (by omega)).1.trans (mf.1.1 y (by omega)).1, (FU'.1 y (by omega)).2.1.trans (mf.1.1 y (by omega)).2.1⟩, (u7 52 (by decide)).trans (mf.2.1 52 (by decide) (by decide) (by decide)), (u7 53 (by decide)).trans (mf.2.1 53 (by decide) (by decide) (by decide)), (u7 21 (by decide)).trans mf.2.2, MR_aH mr a h6 l FU' (I_at _ _ _ _) (u7 0 (by decide)) (u7 9 (by decide)) (fun i => ?_) (fun i => ?_) (fun i => ?_) (fun j hj => ?_) (TM_GC gc2 l dd) (fun τ act kept v q1 q2 q3 q4 q5 q6 => te τ act kept v ⟨q1, q2, q3, q4, fun i hi => (q5 i (by omega)).trans (dd i hi), q6⟩) (fun z so run _ _ => ?_)⟩
              · rw [em', if_pos (by decide), if_neg (fun q => by have := (nI_eq (by omega) (by omega)).mp q; omega), ce]
                unfold K78 f_X12_happening_159
                rw [rdI_ok hs (by decide), (sw n hs).2.1 hq1, bind_s, g4, wrI_ok h6 (by decide), bind_s, I_ne (Or.inl (by decide)), g4, wrI_ok h6 (by decide), bind_s, I_ne (Or.inl (by decide)), I_ne (Or.inl (by decide)), g4]
                rcases (show b = 0 ∨ b = 1 by omega) with rfl | rfl
                · rw [if_pos (show nI 0 = 0 by decide), wrI_ok h6 (by decide), bind_s, I_ne (Or.inl (by decide)), I_ne (Or.inl (by decide)), I_ne (Or.inl (by decide)), g4, nI_add, pfI_s, bind_s, I_at, nI_sub (by omega), Nat.add_sub_cancel]
                · rw [if_neg (show ¬ nI 1 = 0 by decide), wrI_ok h6 (by decide), bind_s, I_ne (Or.inl (by decide)), I_ne (Or.inl (by decide)), I_ne (Or.inl (by decide)), g4, nI_add, pfI_s, bind_s, I_at, nI_sub (by omega), Nat.add_sub_cancel]
              · rw [I_ne (Or.inl (by decide)), I_ne (Or.inl (by decide)), I_ne (Or.inl (by decide))]
                by_cases z : i = nH X.1
                · rw [if_pos z, z, I_at]
                · rw [if_neg z, I_ne (Or.inr z), G1.I (by decide)]
              · rw [I_ne (Or.inl (by decide)), I_ne (Or.inl (by decide))]
                by_cases z : i = nH X.1
                · rw [if_pos z, z, I_at]
                · rw [if_neg z, I_ne (Or.inr z), I_ne (Or.inl (by decide)), G1.I (by decide)]
              · rw [I_ne (Or.inl (by decide))]
                by_cases z : i = nH X.1
                · rw [if_pos z, z, I_at]
                · rw [if_neg z, I_ne (Or.inr z), I_ne (Or.inl (by decide)), I_ne (Or.inl (by decide)), G1.I (by decide)]
              · rw [U.I (by decide)]; exact b1 j hj
              · have z0 : lt X.2.1 n 0 = nI 58 := (dd 0 hpos).symm.trans z
                rw [g58 z0]
                rfl
          · refine OUT_rf (v := -7) (j := 7) h (by decide) (by decide) f ?_ (fun τ m => ?_)
            · rw [ec]
              unfold f_X11_happening_32
              rw [if_pos rfl, c2.1.2.1, if_neg (fun q => h6 ((nI_ltI (by omega) (by omega)).mp q)), c_refuse (j := 7) (by decide) (by decide), bd2_s]
            · obtain ⟨τ2, mf, e2⟩ := m_happ_pre (x3 := nI b) m r hp md
              exact ⟨τ2, mf, by rw [e2, if_pos (by decide), if_pos (congrArg nI (show nH X.1 = 6 by omega))]⟩
        · refine OUT_rf (v := -6) (j := 6) h (by decide) (by decide) f ?_ (fun τ m => ?_)
          · rw [ec, if_neg vn]
            unfold f_X11_happening_32
            rw [if_neg (by decide), c_refuse (j := 6) (by decide) (by decide), bd2_s]
          · obtain ⟨τ2, mf, e2⟩ := m_happ_pre (x3 := nI b) m r hp md
            exact ⟨τ2, mf, by rw [e2, if_neg v0]⟩
    · exact ref _ j h1 h8 hv hn hz (c_rowTrouble o h.2.1.2.2.1 hs) (fun τ m => m_noRow o m hs)
end
