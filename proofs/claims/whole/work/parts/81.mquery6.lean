section
/-! ===== the reference's questions: in how many hours, the whole ===== -/
variable {A : AW} {σ : ST} {S h b p q : Nat} {x : Nat × Nat}
def F6 (y : Nat) : Prop := (278 ≤ y ∧ y ≤ 281) ∨ y = 284 ∨ y = 285
def F7 (y : Nat) : Prop := 278 ≤ y ∧ y ≤ 285
theorem lt1024 {i : Nat} (h : i < 1024) : nI i < nI 1024 := (nI_ltI (by omega) (by decide)).mpr h
theorem t_often90 {x1 x2 x3 x4 x5 : Int32} {k : Int32 → Int32 → Int32 → Int32 → Int32 → ST → Option (Int32 × ST)} : ∃ u, f_X12_often_90 k FU x1 x2 x3 x4 x5 (nI 0) σ = k x1 x2 x3 x4 x5 u ∧ Fr F5 σ u ∧ ∀ t, t < 1024 → u.1 284 t = nI 100000000 ∧ u.1 285 t = -1 := by
  refine Exists.elim (loopE (fun n i u => f_X12_often_90 k n x1 x2 x3 x4 x5 (nI i) u) 1024 (fun i u => Fr F5 σ u ∧ ∀ t, t < i → u.1 284 t = nI 100000000 ∧ u.1 285 t = -1) (fun u => k x1 x2 x3 x4 x5 u) ?_ ?_ FU 0 σ (by rw [FU_eq]; omega) (by omega) ⟨Fr.rf _ _, fun t ht => by omega⟩) ?_
  · rintro n i u hi ⟨hF, hm⟩ Q hQ
    show ∃ y, f_X12_often_90 k (n + 1) x1 x2 x3 x4 x5 (nI i) u = f_X12_often_90 k n x1 x2 x3 x4 x5 (nI (i + 1)) y ∧ _
    rw [f_X12_often_90, if_pos (lt1024 hi), wrI_ok hi (by decide)]
    simp only [bind_s]
    rw [wrI_ok hi (by decide)]
    simp only [bind_s]
    rw [nI_add]
    refine ⟨_, rfl, hQ _ ⟨(hF.tr (Fr_setI (Or.inl rfl))).tr (Fr_setI (Or.inr rfl)), fun t ht => ?_⟩⟩
    by_cases c : t = i
    · subst c
      rw [I_ne (Or.inl (by decide)), I_at, I_at]; exact ⟨rfl, rfl⟩
    · rw [I_ne (Or.inl (by decide)), I_ne (Or.inr c), I_ne (Or.inr c), I_ne (Or.inl (by decide))]
      exact hm t (by omega)
  · rintro n u -
    show f_X12_often_90 k (n + 1) _ _ _ _ _ (nI 1024) u = _
    rw [f_X12_often_90, if_neg (fun w => Nat.lt_irrefl _ ((nI_ltI (by omega) (by omega)).mp w))]
  · rintro u ⟨e, h1, h2⟩
    exact ⟨u, e, h1, h2⟩
theorem t_often125 (a : AOK A) (v : SV A S x σ) (hL : LE A S x < 100000000) (hh : h < 12) (hp : p < 12) (hq : q < 12) {x1 x2 : Int32} (hb : bArg b x1 x2) (mm : ∀ s, s < 1024 → MM (Rq A S x b p q h s) (σ.1 282 s) (σ.1 283 s)) (m0 : ∀ t, t < 1024 → σ.1 284 t = nI 100000000 ∧ σ.1 285 t = -1) {k : Int32 → Int32 → Int32 → Int32 → Int32 → ST → Option (Int32 × ST)} : ∃ u, f_X12_often_125 k FU x1 x2 (nI p) (nI q) (nI h) (nI 0) σ = k x1 x2 (nI p) (nI q) (nI h) u ∧ Fq F6 σ u ∧ ∀ t, t < 1024 → MM (Rq A S x b p q (h + 1) t) (u.1 284 t) (u.1 285 t) := by
  refine Exists.elim (loopE (fun n s u => f_X12_often_125 k n x1 x2 (nI p) (nI q) (nI h) (nI s) u) 1024 (fun s u => Fq F6 σ u ∧ ∀ t, t < 1024 → MM (PR A S x b p q h s [] t) (u.1 284 t) (u.1 285 t)) (fun u => k x1 x2 (nI p) (nI q) (nI h) u) ?_ ?_ FU 0 σ (by rw [FU_eq]; omega) (by omega) ⟨Fq.rf _ _, fun t ht => Or.inl ⟨(m0 t ht).1, (m0 t ht).2, fun n => PR_0⟩⟩) ?_
  · rintro n s u hs ⟨hF, hm⟩ Q hQ
    have n6 : ¬ F6 283 ∧ ¬ F6 282 := by unfold F6; omega
    have e283 : u.1 283 s = σ.1 283 s := hF.I (by decide) n6.1 s
    have e282 : u.1 282 s = σ.1 282 s := hF.I (by decide) n6.2 s
    have v1 := SV_fq v hF (fun y hy => by unfold F6 at hy; omega)
    have ms := mm s hs
    show ∃ y, f_X12_often_125 k (n + 1) x1 x2 (nI p) (nI q) (nI h) (nI s) u = f_X12_often_125 k n x1 x2 (nI p) (nI q) (nI h) (nI (s + 1)) y ∧ _
    rw [f_X12_often_125, if_pos (lt1024 hs), rdI_ok hs (by decide), e283]
    simp only [bind_s]
    rcases id ms with ⟨-, w2, w3⟩ | ⟨lo, hi, -, w2, -, w4, w5, -, -⟩
    · rw [if_pos (show σ.1 283 s < 0 by rw [w2]; decide), nI_add]
      exact ⟨u, rfl, hQ _ ⟨hF, fun t ht => MM_same (hm t ht) fun n => PR_skip w3⟩⟩
    · rw [if_neg (show ¬ σ.1 283 s < 0 by rw [w2]; exact mq5 ⟨hi, by omega⟩)]
      have hlt := Rq_lt a (by omega) w5
      obtain ⟨vs, hfl⟩ := FW_v a hlt
      obtain ⟨w, e1, F1, d1⟩ := t_edgesOf a v1.1 hh vs hfl hs
      rw [e1]
      simp only [bind_s]
      have v2 := SV_fe v1 F1
      have g : ∀ y, 282 ≤ y → y ≤ 285 → w.1 y = u.1 y := fun y h1 h2 => (F1.1.1 y (by omega)).1
      obtain ⟨w', e2, F2, m2⟩ := t_often157 a v2 hL hh hs hp hq hb ⟨lo, w5⟩ vs hfl d1 (by rw [g 282 (by omega) (by omega), g 283 (by omega) (by omega), e282, e283]; exact ms) (fun t ht => by rw [g 284 (by omega) (by omega), g 285 (by omega) (by omega)]; exact hm t ht) (k := fun x1_35 x2_36 x3_37 x4_38 x5_39 x6_40 s41 => (f_X12_often_125 k n) x1_35 x2_36 x3_37 x4_38 x5_39 (x6_40 + nI 1) s41)
      rw [e2, nI_add]
      refine ⟨w', rfl, hQ _ ⟨(hF.tr (Fq_e F1 (fun y h1 h2 => Or.inl ⟨h1, h2⟩))).tr ⟨F2.mono (fun y hy => Or.inr (Or.inr hy)), fun k _ => F2.I (by unfold F5; omega) k⟩, m2⟩⟩
  · rintro n u -
    show f_X12_often_125 k (n + 1) _ _ _ _ _ (nI 1024) u = _
    rw [f_X12_often_125, if_neg (fun w => Nat.lt_irrefl _ ((nI_ltI (by omega) (by omega)).mp w))]
  · rintro u ⟨e, h1, h2⟩
    exact ⟨u, e, h1, fun t ht => MM_same (h2 t ht) fun n => PR_all a⟩
theorem t_often346 {x1 x2 x3 x4 x5 : Int32} {k : Int32 → Int32 → Int32 → Int32 → Int32 → ST → Option (Int32 × ST)} : ∃ u, f_X12_often_346 k FU x1 x2 x3 x4 x5 (nI 0) σ = k x1 x2 x3 x4 x5 u ∧ Fr (fun y => y = 282 ∨ y = 283) σ u ∧ ∀ t, t < 1024 → u.1 282 t = σ.1 284 t ∧ u.1 283 t = σ.1 285 t := by
  refine Exists.elim (loopE (fun n i u => f_X12_often_346 k n x1 x2 x3 x4 x5 (nI i) u) 1024 (fun i u => Fr (fun y => y = 282 ∨ y = 283) σ u ∧ ∀ t, t < i → u.1 282 t = σ.1 284 t ∧ u.1 283 t = σ.1 285 t) (fun u => k x1 x2 x3 x4 x5 u) ?_ ?_ FU 0 σ (by rw [FU_eq]; omega) (by omega) ⟨Fr.rf _ _, fun t ht => by omega⟩) ?_
  · rintro n i u hi ⟨hF, hm⟩ Q hQ
    show ∃ y, f_X12_often_346 k (n + 1) x1 x2 x3 x4 x5 (nI i) u = f_X12_often_346 k n x1 x2 x3 x4 x5 (nI (i + 1)) y ∧ _
    rw [f_X12_often_346, if_pos (lt1024 hi), rdI_ok hi (by decide)]
    simp only [bind_s]
    rw [wrI_ok hi (by decide)]
    simp only [bind_s]
    rw [rdI_ok hi (by decide), I_ne (Or.inl (by decide))]
    simp only [bind_s]
    rw [wrI_ok hi (by decide)]
    simp only [bind_s]
    rw [nI_add, hF.I (by omega) i, hF.I (by omega) i]
    refine ⟨_, rfl, hQ _ ⟨(hF.tr (Fr_setI (Or.inl rfl))).tr (Fr_setI (Or.inr rfl)), fun t ht => ?_⟩⟩
    by_cases c : t = i
    · subst c
      rw [I_ne (Or.inl (by decide)), I_at, I_at]; exact ⟨rfl, rfl⟩
    · rw [I_ne (Or.inl (by decide)), I_ne (Or.inr c), I_ne (Or.inr c), I_ne (Or.inl (by decide))]
      exact hm t (by omega)
  · rintro n u -
    show f_X12_often_346 k (n + 1) _ _ _ _ _ (nI 1024) u = _
    rw [f_X12_often_346, if_neg (fun w => Nat.lt_irrefl _ ((nI_ltI (by omega) (by omega)).mp w))]
  · rintro u ⟨e, h1, h2⟩
    exact ⟨u, e, h1, h2⟩
theorem t_often80 (a : AOK A) (v : SV A S x σ) (hL : LE A S x < 100000000) (hp : p < 12) (hq : q < 12) {x1 x2 : Int32} (hb : bArg b x1 x2) (mm : ∀ s, s < 1024 → MM (Rq A S x b p q 0 s) (σ.1 282 s) (σ.1 283 s)) {k : ST → Option (Int32 × ST)} : ∃ u, f_X12_often_80 k FU x1 x2 (nI p) (nI q) (nI 0) σ = k u ∧ Fq F7 σ u ∧ ∀ s, s < 1024 → MM (Rq A S x b p q 12 s) (u.1 282 s) (u.1 283 s) := by
  refine Exists.elim (loopE (fun n h u => f_X12_often_80 k n x1 x2 (nI p) (nI q) (nI h) u) 12 (fun h u => Fq F7 σ u ∧ ∀ s, s < 1024 → MM (Rq A S x b p q h s) (u.1 282 s) (u.1 283 s)) (fun u => k u) ?_ ?_ FU 0 σ (by rw [FU_eq]; omega) (by omega) ⟨Fq.rf _ _, mm⟩) ?_
  · rintro n h u hh ⟨hF, hm⟩ Q hQ
    show ∃ y, f_X12_often_80 k (n + 1) x1 x2 (nI p) (nI q) (nI h) u = f_X12_often_80 k n x1 x2 (nI p) (nI q) (nI (h + 1)) y ∧ _
    rw [f_X12_often_80, if_pos ((nI_ltI (by omega) (by omega)).mpr hh)]
    obtain ⟨u1, e1, F1, m1⟩ := t_often90 (σ := u) (x1 := x1) (x2 := x2) (x3 := nI p) (x4 := nI q) (x5 := nI h) (k := fun x1_12 x2_13 x3_14 x4_15 x5_16 s17 => f_X12_often_125 (fun x1_42 x2_43 x3_44 x4_45 x5_46 s47 => f_X12_often_346 (fun x1_52 x2_53 x3_54 x4_55 x5_56 s57 => (f_X12_often_80 k n) x1_52 x2_53 x3_54 x4_55 (x5_56 + nI 1) s57) FU x1_42 x2_43 x3_44 x4_45 x5_46 (nI 0) s47) FU x1_12 x2_13 x3_14 x4_15 x5_16 (nI 0) s17)
    rw [e1]
    have G1 : Fq F7 u u1 := ⟨F1.mono (fun y hy => by unfold F5 at hy; unfold F7; omega), fun k _ => F1.I (by unfold F5; omega) k⟩
    have w1 := SV_fq v (hF.tr G1) (fun y hy => hy.1)
    obtain ⟨u2, e2, F2, m2⟩ := t_often125 a w1 hL hh hp hq hb (fun s hs => by rw [F1.I (by unfold F5; omega), F1.I (by unfold F5; omega)]; exact hm s hs) m1 (k := fun x1_42 x2_43 x3_44 x4_45 x5_46 s47 => f_X12_often_346 (fun x1_52 x2_53 x3_54 x4_55 x5_56 s57 => (f_X12_often_80 k n) x1_52 x2_53 x3_54 x4_55 (x5_56 + nI 1) s57) FU x1_42 x2_43 x3_44 x4_45 x5_46 (nI 0) s47)
    rw [e2]
    obtain ⟨u3, e3, F3, m3⟩ := t_often346 (σ := u2) (x1 := x1) (x2 := x2) (x3 := nI p) (x4 := nI q) (x5 := nI h) (k := fun x1_52 x2_53 x3_54 x4_55 x5_56 s57 => (f_X12_often_80 k n) x1_52 x2_53 x3_54 x4_55 (x5_56 + nI 1) s57)
    rw [e3, nI_add]
    have G2 : Fq F7 u1 u2 := F2.mono (fun y hy => by unfold F6 at hy; unfold F7; omega)
    have G3 : Fq F7 u2 u3 := ⟨F3.mono (fun y hy => by unfold F7; omega), fun k _ => F3.I (by omega) k⟩
    exact ⟨u3, rfl, hQ _ ⟨((hF.tr G1).tr G2).tr G3, fun s hs => by rw [(m3 s hs).1, (m3 s hs).2]; exact m2 s hs⟩⟩
  · rintro n u -
    show f_X12_often_80 k (n + 1) _ _ _ _ (nI 12) u = _
    rw [f_X12_often_80, if_neg (fun w => Nat.lt_irrefl _ ((nI_ltI (by omega) (by omega)).mp w))]
  · rintro u ⟨e, h1, h2⟩
    exact ⟨u, e, h1, h2⟩
end
