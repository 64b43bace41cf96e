section
/-! ===== restore ===== -/
variable {A B : AW} {X : XS} {σ : ST} {H : SHV}
/-- the shelves as a world of n pieces leaves them, those below i done -/
def rH (H : SHV) (n i : Nat) : SHV := (fun s => if s < i ∧ 1 ≤ hq H s ∧ hq H s < 101 ∧ n < hq H s then 0 else hq H s, H.2)
theorem rH_hn (n i s : Nat) : hn (rH H n i) s = hn H s := rfl
theorem rH_hv (n i s j : Nat) : hv (rH H n i) s j = hv H s j := rfl
theorem rH_hq (n i s : Nat) : hq (rH H n i) s = if s < i ∧ 1 ≤ hq H s ∧ hq H s < 101 ∧ n < hq H s then 0 else hq H s := rfl
theorem rH_ok (o : HOK A H) (n i : Nat) : HOK A (rH H n i) := by
  intro s hs
  obtain ⟨o1, o2, o3⟩ := o s hs
  rw [rH_hn, rH_hq]
  split
  · exact ⟨o1, by omega, fun _ => ⟨(o3 (by omega)).1, by omega⟩⟩
  · exact ⟨o1, o2, o3⟩
theorem rH_okB (o : HOK A H) : HOK B (rH H (nP B) 8) := by
  intro s hs
  obtain ⟨o1, o2, o3⟩ := o s hs
  rw [rH_hn, rH_hq]
  split
  · exact ⟨o1, by omega, fun _ => ⟨(o3 (by omega)).1, by omega⟩⟩
  · refine ⟨o1, o2, fun h => ⟨(o3 h).1, by omega⟩⟩
theorem rH_s (n i s : Nat) (h : s ≠ i) : hq (rH H n (i + 1)) s = hq (rH H n i) s := by
  rw [rH_hq, rH_hq]
  by_cases z : s < i
  · have : s < i + 1 := by omega
    simp [z, this]
  · have : ¬ s < i + 1 := by omega
    simp [z, this]
theorem rH_i (n i : Nat) : hq (rH H n i) i = hq H i := by rw [rH_hq, if_neg (by omega)]
theorem t_crest37 (o : HOK A H) (c : SHC H σ) (e22 : σ.1 2 2 = nI (nP B)) (hB : nP B ≤ 16) : ∃ s, f_X11_restore_37 FU (nI 0) σ = some (nI (nP B), s) ∧ Fr (fun y => 231 ≤ y ∧ y ≤ 246) σ s ∧ SHC (rH H (nP B) 8) s := by
  refine Exists.elim (loopE (fun n i s => f_X11_restore_37 n (nI i) s) 8 (fun i s => Fr (fun y => 231 ≤ y ∧ y ≤ 246) σ s ∧ SHC (rH H (nP B) i) s) (fun s => some (s.1 2 2, s)) ?_ ?_ FU 0 σ (by rw [FU_eq]; omega) (Nat.zero_le _) ⟨Fr.rf _ _, fun s hs => ?_⟩) ?_
  · rintro n i s hi ⟨F, cs⟩ Q hQ
    obtain ⟨o1, o2, o3⟩ := o i hi
    have same : hq (rH H (nP B) (i + 1)) i = hq H i → SHC (rH H (nP B) (i + 1)) s := fun e => by
      intro j hj
      rw [rH_hn]
      obtain ⟨q1, q2, q3⟩ := cs j hj
      refine ⟨?_, q2, q3⟩
      by_cases z : j = i
      · subst z; rw [e]; rw [rH_i] at q1; exact q1
      · rw [rH_s _ _ _ z]; exact q1
    show ∃ y, f_X11_restore_37 (n + 1) (nI i) s = f_X11_restore_37 n (nI (i + 1)) y ∧ _
    have hp := c_holdsPiece (rH_ok o (nP B) i) cs hi
    rw [rH_i] at hp
    have h0 := (cs i hi).1
    rw [rH_i] at h0
    rw [f_X11_restore_37, if_pos ((nI_ltI (by omega) (by omega)).mpr hi), ixR_ok hi (by decide)]
    simp only [bind_s]
    rw [hp, bd2_s, nI_add, h0, F.I (by omega), e22]
    by_cases z : 1 ≤ hq H i ∧ hq H i < 101
    · rw [decide_eq_true z, if_neg b2t0]
      obtain ⟨k, hk⟩ : ∃ k, hq H i = k + 1 := ⟨hq H i - 1, by omega⟩
      rw [hk, hI_z]
      by_cases w : k < nP B
      · rw [if_pos ((nI_ltI (by omega) (by omega)).mpr w)]
        exact ⟨s, rfl, hQ _ ⟨F, same (by rw [rH_hq, if_neg (by omega)])⟩⟩
      · rw [if_neg (fun q => w ((nI_ltI (by omega) (by omega)).mp q))]
        unfold f_X7_takePiece
        simp only [pfI_s, bind_s]
        have FF : Fr (fun y => y = 231 + 2 * i) s (setI (setI s (231 + 2 * i) 0 (-1)) (231 + 2 * i) 1 (nI 0)) := (Fr_setI (W := fun y => y = 231 + 2 * i) rfl).tr (Fr_setI rfl)
        refine ⟨_, rfl, hQ _ ⟨F.tr (FF.mono (fun y hy => by omega)), fun j hj => ?_⟩⟩
        obtain ⟨q1, q2, q3⟩ := cs j hj
        by_cases zz : j = i
        · subst zz
          rw [rH_hn, rH_hq, if_pos (by omega), I_ne (Or.inr (by decide)), I_at, I_at]
          refine ⟨rfl, by rw [(o3 z.2).1], fun l hl => ?_⟩
          rw [J_setI, J_setI]
          exact q3 l hl
        · rw [rH_hn, rH_s _ _ _ zz, FF.I (by omega), FF.I (by omega)]
          refine ⟨q1, q2, fun l hl => ?_⟩
          rw [J_setI, J_setI]
          exact q3 l hl
    · rw [decide_eq_false z, if_pos b2f0]
      exact ⟨s, rfl, hQ _ ⟨F, same (by rw [rH_hq, if_neg (by omega)])⟩⟩
  · rintro n s -
    show f_X11_restore_37 (n + 1) (nI 8) s = _
    rw [f_X11_restore_37, if_neg (by decide)]
  · rw [rH_hn, rH_hq, if_neg (by omega)]
    exact c s hs
  · rintro s ⟨e, F, cs⟩
    exact ⟨s, by rw [e, F.I (by omega), e22], F, cs⟩
theorem t_mrest299 (o : HOK A H) (c : SHM H σ) (e9 : σ.1 247 9 = nI (nP B)) (hB : nP B ≤ 16) : ∃ s, f_X12_restore_299 FU (nI 0) σ = some (nI (nP B), s) ∧ Fr (fun y => y = 263) σ s ∧ SHM (rH H (nP B) 8) s := by
  refine Exists.elim (loopE (fun n i s => f_X12_restore_299 n (nI i) s) 8 (fun i s => Fr (fun y => y = 263) σ s ∧ SHM (rH H (nP B) i) s) (fun s => some (s.1 247 9, s)) ?_ ?_ FU 0 σ (by rw [FU_eq]; omega) (Nat.zero_le _) ⟨Fr.rf _ _, fun s hs => ?_⟩) ?_
  · rintro n i s hi ⟨F, cs⟩ Q hQ
    obtain ⟨o1, o2, o3⟩ := o i hi
    have same : hq (rH H (nP B) (i + 1)) i = hq H i → SHM (rH H (nP B) (i + 1)) s := fun e => by
      intro j hj
      obtain ⟨q1, q2, q3⟩ := cs j hj
      by_cases z : j = i
      · subst z
        rw [rH_i] at q1 q2
        rw [e]
        exact ⟨q1, q2, q3⟩
      · rw [rH_s _ _ _ z]; exact ⟨q1, q2, q3⟩
    show ∃ y, f_X12_restore_299 (n + 1) (nI i) s = f_X12_restore_299 n (nI (i + 1)) y ∧ _
    have hp := m_holdsPiece (rH_ok o (nP B) i) cs hi
    rw [rH_i] at hp
    have h0 := (cs i hi).1
    rw [rH_i] at h0
    rw [f_X12_restore_299, if_pos ((nI_ltI (by omega) (by omega)).mpr hi), hp, bd2_s, rdI_ok hi (by decide), h0, nI_add, F.I (by omega), e9]
    simp only [bind_s]
    by_cases z : 1 ≤ hq H i ∧ hq H i < 101
    · rw [decide_eq_true z, if_neg b2t0]
      obtain ⟨k, hk⟩ : ∃ k, hq H i = k + 1 := ⟨hq H i - 1, by omega⟩
      rw [hk, hI_z]
      by_cases w : k < nP B
      · rw [if_pos ((nI_ltI (by omega) (by omega)).mpr w)]
        exact ⟨s, rfl, hQ _ ⟨F, same (by rw [rH_hq, if_neg (by omega)])⟩⟩
      · rw [if_neg (fun q => w ((nI_ltI (by omega) (by omega)).mp q)), wrI_ok hi (by decide), bind_s]
        refine ⟨_, rfl, hQ _ ⟨F.tr (Fr_setI rfl), fun j hj => ?_⟩⟩
        obtain ⟨q1, q2, q3⟩ := cs j hj
        by_cases zz : j = i
        · subst zz
          rw [rH_hq, if_pos (by omega), I_at]
          exact ⟨rfl, fun y => by omega, q3⟩
        · rw [rH_s _ _ _ zz, I_ne (Or.inr zz), I_ne (Or.inl (by decide))]
          exact ⟨q1, q2, q3⟩
    · rw [decide_eq_false z, if_pos b2f0]
      exact ⟨s, rfl, hQ _ ⟨F, same (by rw [rH_hq, if_neg (by omega)])⟩⟩
  · rintro n s -
    show f_X12_restore_299 (n + 1) (nI 8) s = _
    rw [f_X12_restore_299, if_neg (by decide)]
  · rw [rH_hq, if_neg (by omega)]
    exact c s hs
  · rintro s ⟨e, F, cs⟩
    exact ⟨s, by rw [e, F.I (by omega), e9], F, cs⟩
theorem t_mrestore (b : AOK B) (mi : MIr σ B) (o : HOK A H) (sm : SHM H σ) (z53 : σ.1 247 53 = 1) : ∃ u, f_X12_restore σ = some (nI (nP B), u) ∧ Fr (fun z => z = 247 ∨ (248 ≤ z ∧ z ≤ 263)) σ u ∧ (∀ k, k ≠ 0 → k ≠ 4 → k ≠ 9 → u.1 247 k = σ.1 247 k) ∧ MR B u ∧ SHM (rH H (nP B) 8) u := by
  obtain ⟨⟨m0, m4, m9⟩, mr⟩ := mi
  have hP := b.1.2.2
  unfold f_X12_restore
  rw [if_neg (show ¬ σ.1 247 53 = 0 by rw [z53]; decide), rdI_ok (show 0 < 3 by decide) (by decide), bind_s, m0, pfI_s, bind_s, rdI_ok (show 1 < 3 by decide) (by decide), bind_s, I_ne (Or.inl (by decide)), m4, pfI_s, bind_s, rdI_ok (show 2 < 3 by decide) (by decide), bind_s, I_ne (Or.inl (by decide)), I_ne (Or.inl (by decide)), m9, pfI_s, bind_s]
  have F0 : Fr (fun z => z = 247) σ (setI (setI (setI σ 247 0 (nI (nT B))) 247 4 (nI (nH B))) 247 9 (nI (nP B))) := ((Fr_setI (W := fun z => z = 247) rfl).tr (Fr_setI rfl)).tr (Fr_setI rfl)
  have z7 : ∀ k, k ≠ 0 → k ≠ 4 → k ≠ 9 → (setI (setI (setI σ 247 0 (nI (nT B))) 247 4 (nI (nH B))) 247 9 (nI (nP B))).1 247 k = σ.1 247 k := fun k h1 h2 h3 => by rw [I_ne (Or.inr h3), I_ne (Or.inr h2), I_ne (Or.inr h1)]
  have y0 : (setI (setI (setI σ 247 0 (nI (nT B))) 247 4 (nI (nH B))) 247 9 (nI (nP B))).1 247 0 = nI (nT B) := by rw [I_ne (Or.inr (by decide)), I_ne (Or.inr (by decide)), I_at]
  have y1 : (setI (setI (setI σ 247 0 (nI (nT B))) 247 4 (nI (nH B))) 247 9 (nI (nP B))).1 247 4 = nI (nH B) := by rw [I_ne (Or.inr (by decide)), I_at]
  have y2 : (setI (setI (setI σ 247 0 (nI (nT B))) 247 4 (nI (nH B))) 247 9 (nI (nP B))).1 247 9 = nI (nP B) := I_at _ _ _ _
  generalize setI (setI (setI σ 247 0 (nI (nT B))) 247 4 (nI (nH B))) 247 9 (nI (nP B)) = u0 at *
  obtain ⟨u1, e1, F1, v1, w1⟩ := t_pour (σ := u0) (a1 := 290) (n1 := 620) (a3 := 248) (n3 := 10) (x := 0) (y := 0) (n := 10) (by decide) (by decide) (by decide) (by decide) (by decide) (by decide)
  obtain ⟨u2, e2, F2, v2, w2⟩ := t_pour (σ := u1) (a1 := 290) (n1 := 620) (a3 := 249) (n3 := 10) (x := 10) (y := 0) (n := 10) (by decide) (by decide) (by decide) (by decide) (by decide) (by decide)
  obtain ⟨u3, e3, F3, v3, w3⟩ := t_pour (σ := u2) (a1 := 290) (n1 := 620) (a3 := 250) (n3 := 600) (x := 20) (y := 0) (n := 600) (by decide) (by decide) (by decide) (by decide) (by decide) (by decide)
  obtain ⟨u4, e4, F4, v4, w4⟩ := t_pour (σ := u3) (a1 := 291) (n1 := 378) (a3 := 251) (n3 := 6) (x := 0) (y := 0) (n := 6) (by decide) (by decide) (by decide) (by decide) (by decide) (by decide)
  obtain ⟨u5, e5, F5, v5, w5⟩ := t_pour (σ := u4) (a1 := 291) (n1 := 378) (a3 := 253) (n3 := 6) (x := 6) (y := 0) (n := 6) (by decide) (by decide) (by decide) (by decide) (by decide) (by decide)
  obtain ⟨u6, e6, F6, v6, w6⟩ := t_pour (σ := u5) (a1 := 291) (n1 := 378) (a3 := 254) (n3 := 6) (x := 12) (y := 0) (n := 6) (by decide) (by decide) (by decide) (by decide) (by decide) (by decide)
  obtain ⟨u7, e7, F7, v7, w7⟩ := t_pour (σ := u6) (a1 := 291) (n1 := 378) (a3 := 252) (n3 := 360) (x := 18) (y := 0) (n := 360) (by decide) (by decide) (by decide) (by decide) (by decide) (by decide)
  obtain ⟨u8, e8, F8, v8, w8⟩ := t_pour (σ := u7) (a1 := 292) (n1 := 112) (a3 := 255) (n3 := 16) (x := 0) (y := 0) (n := 16) (by decide) (by decide) (by decide) (by decide) (by decide) (by decide)
  obtain ⟨u9, e9, F9, v9, w9⟩ := t_pour (σ := u8) (a1 := 292) (n1 := 112) (a3 := 256) (n3 := 16) (x := 16) (y := 0) (n := 16) (by decide) (by decide) (by decide) (by decide) (by decide) (by decide)
  obtain ⟨u10, e10, F10, v10, w10⟩ := t_pour (σ := u9) (a1 := 292) (n1 := 112) (a3 := 257) (n3 := 16) (x := 32) (y := 0) (n := 16) (by decide) (by decide) (by decide) (by decide) (by decide) (by decide)
  obtain ⟨u11, e11, F11, v11, w11⟩ := t_pour (σ := u10) (a1 := 292) (n1 := 112) (a3 := 258) (n3 := 16) (x := 48) (y := 0) (n := 16) (by decide) (by decide) (by decide) (by decide) (by decide) (by decide)
  obtain ⟨u12, e12, F12, v12, w12⟩ := t_pour (σ := u11) (a1 := 292) (n1 := 112) (a3 := 259) (n3 := 16) (x := 64) (y := 0) (n := 16) (by decide) (by decide) (by decide) (by decide) (by decide) (by decide)
  obtain ⟨u13, e13, F13, v13, w13⟩ := t_pour (σ := u12) (a1 := 292) (n1 := 112) (a3 := 260) (n3 := 16) (x := 80) (y := 0) (n := 16) (by decide) (by decide) (by decide) (by decide) (by decide) (by decide)
  obtain ⟨u14, e14, F14, v14, w14⟩ := t_pour (σ := u13) (a1 := 292) (n1 := 112) (a3 := 261) (n3 := 16) (x := 96) (y := 0) (n := 16) (by decide) (by decide) (by decide) (by decide) (by decide) (by decide)
  obtain ⟨u15, e15, F15, v15, w15⟩ := t_pour (σ := u14) (a1 := 293) (n1 := 6) (a3 := 262) (n3 := 6) (x := 0) (y := 0) (n := 6) (by decide) (by decide) (by decide) (by decide) (by decide) (by decide)
  rw [e1, bind_s, e2, bind_s, e3, bind_s, e4, bind_s, e5, bind_s, e6, bind_s, e7, bind_s, e8, bind_s, e9, bind_s, e10, bind_s, e11, bind_s, e12, bind_s, e13, bind_s, e14, bind_s, e15, bind_s]
  have GG : Fr (fun z => 248 ≤ z ∧ z ≤ 262) u0 u15 := (((((((((((((((F1.mono (fun z hz => by omega)).tr (F2.mono (fun z hz => by omega))).tr (F3.mono (fun z hz => by omega))).tr (F4.mono (fun z hz => by omega))).tr (F5.mono (fun z hz => by omega))).tr (F6.mono (fun z hz => by omega))).tr (F7.mono (fun z hz => by omega))).tr (F8.mono (fun z hz => by omega))).tr (F9.mono (fun z hz => by omega))).tr (F10.mono (fun z hz => by omega))).tr (F11.mono (fun z hz => by omega))).tr (F12.mono (fun z hz => by omega))).tr (F13.mono (fun z hz => by omega))).tr (F14.mono (fun z hz => by omega))).tr (F15.mono (fun z hz => by omega)))
  have smu : SHM H u15 := SHM_eq sm ((GG.1 _ (by omega)).1.trans (F0.1 _ (by omega)).1) ((GG.1 _ (by omega)).1.trans (F0.1 _ (by omega)).1) ((GG.1 _ (by omega)).2.1.trans (F0.1 _ (by omega)).2.1)
  obtain ⟨uf, ef, Ff, sf⟩ := t_mrest299 (B := B) o smu ((GG.I (by omega) 9).trans y2) hP
  have g : ∀ y, 247 ≤ y → y ≤ 262 → uf.1 y = u15.1 y := fun y h1 h2 => (Ff.1 y (by omega)).1
  refine ⟨uf, ef, ((F0.mono (fun z hz => by omega)).tr (GG.mono (fun z hz => by omega))).tr (Ff.mono (fun z hz => by omega)), fun k h1 h2 h3 => by rw [g 247 (by omega) (by omega), GG.I (by omega), z7 k h1 h2 h3], MR_eq (σ := u15) ⟨⟨(GG.I (by omega) 0).trans y0, (GG.I (by omega) 4).trans y1, (GG.I (by omega) 9).trans y2⟩, MRr_k b mr ?_ ?_ ?_ ?_ ?_ ?_ ?_ ?_ ?_ ?_ ?_ ?_ ?_ ?_ ?_⟩ (by rw [g 247 (by omega) (by omega)]) (by rw [g 247 (by omega) (by omega)]) (by rw [g 247 (by omega) (by omega)]) (fun y h1 h2 => g y (by omega) (by omega)), sf⟩
  · intro j hj
    have t := v1 j hj
    rw [Nat.zero_add] at t
    show u15.1 248 j = σ.1 290 j
    rw [F15.I (by decide), F14.I (by decide), F13.I (by decide), F12.I (by decide), F11.I (by decide), F10.I (by decide), F9.I (by decide), F8.I (by decide), F7.I (by decide), F6.I (by decide), F5.I (by decide), F4.I (by decide), F3.I (by decide), F2.I (by decide)]
    exact t.trans (by rw [F0.I (by decide)])
  · intro j hj
    have t := v2 j hj
    rw [Nat.zero_add] at t
    show u15.1 249 j = σ.1 290 (10 + j)
    rw [F15.I (by decide), F14.I (by decide), F13.I (by decide), F12.I (by decide), F11.I (by decide), F10.I (by decide), F9.I (by decide), F8.I (by decide), F7.I (by decide), F6.I (by decide), F5.I (by decide), F4.I (by decide), F3.I (by decide)]
    exact t.trans (by rw [F1.I (by decide), F0.I (by decide)])
  · intro j hj
    have t := v3 j hj
    rw [Nat.zero_add] at t
    show u15.1 250 j = σ.1 290 (20 + j)
    rw [F15.I (by decide), F14.I (by decide), F13.I (by decide), F12.I (by decide), F11.I (by decide), F10.I (by decide), F9.I (by decide), F8.I (by decide), F7.I (by decide), F6.I (by decide), F5.I (by decide), F4.I (by decide)]
    exact t.trans (by rw [F2.I (by decide), F1.I (by decide), F0.I (by decide)])
  · intro j hj
    have t := v4 j hj
    rw [Nat.zero_add] at t
    show u15.1 251 j = σ.1 291 j
    rw [F15.I (by decide), F14.I (by decide), F13.I (by decide), F12.I (by decide), F11.I (by decide), F10.I (by decide), F9.I (by decide), F8.I (by decide), F7.I (by decide), F6.I (by decide), F5.I (by decide)]
    exact t.trans (by rw [F3.I (by decide), F2.I (by decide), F1.I (by decide), F0.I (by decide)])
  · intro j hj
    have t := v7 j hj
    rw [Nat.zero_add] at t
    show u15.1 252 j = σ.1 291 (18 + j)
    rw [F15.I (by decide), F14.I (by decide), F13.I (by decide), F12.I (by decide), F11.I (by decide), F10.I (by decide), F9.I (by decide), F8.I (by decide)]
    exact t.trans (by rw [F6.I (by decide), F5.I (by decide), F4.I (by decide), F3.I (by decide), F2.I (by decide), F1.I (by decide), F0.I (by decide)])
  · intro j hj
    have t := v5 j hj
    rw [Nat.zero_add] at t
    show u15.1 253 j = σ.1 291 (6 + j)
    rw [F15.I (by decide), F14.I (by decide), F13.I (by decide), F12.I (by decide), F11.I (by decide), F10.I (by decide), F9.I (by decide), F8.I (by decide), F7.I (by decide), F6.I (by decide)]
    exact t.trans (by rw [F4.I (by decide), F3.I (by decide), F2.I (by decide), F1.I (by decide), F0.I (by decide)])
  · intro j hj
    have t := v6 j hj
    rw [Nat.zero_add] at t
    show u15.1 254 j = σ.1 291 (12 + j)
    rw [F15.I (by decide), F14.I (by decide), F13.I (by decide), F12.I (by decide), F11.I (by decide), F10.I (by decide), F9.I (by decide), F8.I (by decide), F7.I (by decide)]
    exact t.trans (by rw [F5.I (by decide), F4.I (by decide), F3.I (by decide), F2.I (by decide), F1.I (by decide), F0.I (by decide)])
  · intro j hj
    have t := v8 j hj
    rw [Nat.zero_add] at t
    show u15.1 255 j = σ.1 292 j
    rw [F15.I (by decide), F14.I (by decide), F13.I (by decide), F12.I (by decide), F11.I (by decide), F10.I (by decide), F9.I (by decide)]
    exact t.trans (by rw [F7.I (by decide), F6.I (by decide), F5.I (by decide), F4.I (by decide), F3.I (by decide), F2.I (by decide), F1.I (by decide), F0.I (by decide)])
  · intro j hj
    have t := v9 j hj
    rw [Nat.zero_add] at t
    show u15.1 256 j = σ.1 292 (16 + j)
    rw [F15.I (by decide), F14.I (by decide), F13.I (by decide), F12.I (by decide), F11.I (by decide), F10.I (by decide)]
    exact t.trans (by rw [F8.I (by decide), F7.I (by decide), F6.I (by decide), F5.I (by decide), F4.I (by decide), F3.I (by decide), F2.I (by decide), F1.I (by decide), F0.I (by decide)])
  · intro j hj
    have t := v10 j hj
    rw [Nat.zero_add] at t
    show u15.1 257 j = σ.1 292 (32 + j)
    rw [F15.I (by decide), F14.I (by decide), F13.I (by decide), F12.I (by decide), F11.I (by decide)]
    exact t.trans (by rw [F9.I (by decide), F8.I (by decide), F7.I (by decide), F6.I (by decide), F5.I (by decide), F4.I (by decide), F3.I (by decide), F2.I (by decide), F1.I (by decide), F0.I (by decide)])
  · intro j hj
    have t := v11 j hj
    rw [Nat.zero_add] at t
    show u15.1 258 j = σ.1 292 (48 + j)
    rw [F15.I (by decide), F14.I (by decide), F13.I (by decide), F12.I (by decide)]
    exact t.trans (by rw [F10.I (by decide), F9.I (by decide), F8.I (by decide), F7.I (by decide), F6.I (by decide), F5.I (by decide), F4.I (by decide), F3.I (by decide), F2.I (by decide), F1.I (by decide), F0.I (by decide)])
  · intro j hj
    have t := v12 j hj
    rw [Nat.zero_add] at t
    show u15.1 259 j = σ.1 292 (64 + j)
    rw [F15.I (by decide), F14.I (by decide), F13.I (by decide)]
    exact t.trans (by rw [F11.I (by decide), F10.I (by decide), F9.I (by decide), F8.I (by decide), F7.I (by decide), F6.I (by decide), F5.I (by decide), F4.I (by decide), F3.I (by decide), F2.I (by decide), F1.I (by decide), F0.I (by decide)])
  · intro j hj
    have t := v13 j hj
    rw [Nat.zero_add] at t
    show u15.1 260 j = σ.1 292 (80 + j)
    rw [F15.I (by decide), F14.I (by decide)]
    exact t.trans (by rw [F12.I (by decide), F11.I (by decide), F10.I (by decide), F9.I (by decide), F8.I (by decide), F7.I (by decide), F6.I (by decide), F5.I (by decide), F4.I (by decide), F3.I (by decide), F2.I (by decide), F1.I (by decide), F0.I (by decide)])
  · intro j hj
    have t := v14 j hj
    rw [Nat.zero_add] at t
    show u15.1 261 j = σ.1 292 (96 + j)
    rw [F15.I (by decide)]
    exact t.trans (by rw [F13.I (by decide), F12.I (by decide), F11.I (by decide), F10.I (by decide), F9.I (by decide), F8.I (by decide), F7.I (by decide), F6.I (by decide), F5.I (by decide), F4.I (by decide), F3.I (by decide), F2.I (by decide), F1.I (by decide), F0.I (by decide)])
  · intro j hj
    have t := v15 j hj
    rw [Nat.zero_add] at t
    show u15.1 262 j = σ.1 293 j
    exact t.trans (by rw [F14.I (by decide), F13.I (by decide), F12.I (by decide), F11.I (by decide), F10.I (by decide), F9.I (by decide), F8.I (by decide), F7.I (by decide), F6.I (by decide), F5.I (by decide), F4.I (by decide), F3.I (by decide), F2.I (by decide), F1.I (by decide), F0.I (by decide)])
def xB (X : XS) (B : AW) : XS := (B, rH X.2.1 (nP B) 8, X.2.2)
theorem q_restore (h : XR X σ) : OUT f_X11_restore f_X12_restore σ := by
  have a := h.1.1
  cases him : X.2.2.2.2.2 with
  | none =>
    have c10 : σ.1 0 10 = 0 := by have := h.2.1.2.2.2.2.2.2.1; rw [him] at this; exact this
    refine OUT_ref h (v := -6) (j := 6) (by decide) (by decide) ?_ (fun u mu => ?_)
    · unfold f_X11_restore
      rw [if_pos c10, c_refuse (j := 6) (by decide) (by decide), bd2_s]
    · have m53 : u.1 247 53 = 0 := by have := mu.2.2.2.2.2; rw [him] at this; exact this
      unfold f_X12_restore
      rw [if_pos m53, m_no (j := 6) (by decide) (by decide), bd2_s]
  | some B =>
    have b := h.1.2.2.2 B him
    obtain ⟨c1, c2, c3, c4, c5, ⟨c6, c7⟩, c8, vb⟩ := h.2.1
    rw [him] at c8
    obtain ⟨c10, c95⟩ := c8
    obtain ⟨s, e, F, c2', vbs⟩ := t_become (a0 := 2) (a1 := 95) (Or.inr ⟨rfl, rfl⟩) vb b c95
    have F0 : Fr (fun y => y = 0) s (setI (setI s 0 11 1) 0 12 1) := (Fr_setI (W := fun y => y = 0) rfl).tr (Fr_setI rfl)
    have GG : Fr (fun y => y = 0 ∨ (2 ≤ y ∧ y < 95)) σ (setI (setI s 0 11 1) 0 12 1) := (F.mono (fun y hy => Or.inr hy)).tr (F0.mono (fun y hy => Or.inl hy))
    have g0 : ∀ k, k ≠ 11 → k ≠ 12 → (setI (setI s 0 11 1) 0 12 1).1 0 k = σ.1 0 k := fun k h1 h2 => by rw [I_ne (Or.inr h2), I_ne (Or.inr h1), F.I (by omega)]
    have g11 : (setI (setI s 0 11 1) 0 12 1).1 0 11 = 1 := by rw [I_ne (Or.inr (by decide)), I_at]
    have g12 : (setI (setI s 0 11 1) 0 12 1).1 0 12 = 1 := I_at _ _ _ _
    have cB := CR_fr b c2' F0 (fun x hx => by omega)
    have vB := VB_fr vbs F0 (fun y hy => by omega)
    have ex : f_X11_restore σ = f_X11_restore_37 FU (nI 0) (setI (setI s 0 11 1) 0 12 1) := by
      unfold f_X11_restore
      rw [if_neg (show ¬ σ.1 0 10 = 0 by rw [c10]; decide), e, bind_s, pfZ_1, bind_s, pfZ_1, bind_s]
    generalize setI (setI s 0 11 1) 0 12 1 = s1 at *
    have sc1 : SHC X.2.1 s1 := SHC_eq c3 (fun x h1 h2 => ⟨(GG.1 x (by omega)).1, (GG.1 x (by omega)).2.1⟩)
    obtain ⟨s2, e2, F2, sc2⟩ := t_crest37 (B := B) h.1.2.1 sc1 cB.1.2.2.1 b.1.2.2
    have G2 : Fr (fun y => y = 0 ∨ (2 ≤ y ∧ y < 95) ∨ (231 ≤ y ∧ y ≤ 246)) σ s2 := (GG.mono (fun y hy => by omega)).tr (F2.mono (fun y hy => by omega))
    refine OUT_mk (X' := xB X B) (s := s2) (v := nI (nP B)) h ⟨b, rH_okB h.1.2.1, h.1.2.2⟩ (ex.trans e2) ⟨CR_fr b cB F2 (fun x hx => by omega), ⟨fun q => ?_, fun q => ?_, fun q => ?_⟩, sc2, fun j h1 h2 => by rw [G2.I (by omega)]; exact c4 j h1 h2, ?_, ⟨by rw [G2.I (by omega)]; exact c6, fun i hi => by rw [G2.I (by omega)]; exact c7 i hi⟩, ?_, VB_fr vB F2 (fun y hy => by omega)⟩ (FrC_w G2 (fun y hy => by omega)) (fun mm => ?_)
    · rw [F2.I (by omega), g12] at q; exact absurd q (by decide)
    · rw [F2.I (by omega), g11] at q; exact absurd q (by decide)
    · rw [F2.I (by omega), g12] at q; exact absurd q (by decide)
    · rw [F2.I (by omega), g0 13 (by decide) (by decide)]; exact c5
    · show IC0 s2 X.2.2.2.2.2
      rw [him]
      exact ⟨by rw [F2.I (by omega), g0 10 (by decide) (by decide)]; exact c10, CR_fr b c95 G2 (fun x hx => by omega)⟩
    · obtain ⟨m1, m2, m3, m4, ⟨m5, m6⟩, m7⟩ := mm
      rw [him] at m7
      obtain ⟨z53, mi⟩ := m7
      obtain ⟨u, e3, F3, k3, mB, sm3⟩ := t_mrestore b mi h.1.2.1 m2 z53
      refine ⟨u, e3, ⟨mB, sm3, fun i h1 h2 => by rw [F3.I (by omega)]; exact m3 i h1 h2, (k3 21 (by decide) (by decide) (by decide)).trans m4, ⟨(k3 52 (by decide) (by decide) (by decide)).trans m5, fun i hi => by rw [F3.I (by omega)]; exact m6 i hi⟩, ?_⟩, F3.mono (fun y hy => by omega)⟩
      show IM u X.2.2.2.2.2
      rw [him]
      exact ⟨(k3 53 (by decide) (by decide) (by decide)).trans z53, MIr_eq mi (fun x h1 h2 => (F3.1 x (by omega)).1)⟩
end
