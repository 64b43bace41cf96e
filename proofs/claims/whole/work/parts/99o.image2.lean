section
/-! ===== image, restore ===== -/
variable {A B : AW} {X : XS} {σ : ST} {H : SHV}
theorem t_pour {a1 n1 a3 n3 x y n : Nat} (h13 : a1 ≠ a3) (hx : x + n ≤ n1) (hy : y + n ≤ n3) (h1 : n1 < 2 ^ 31) (h3 : n3 < 2 ^ 31) (hn : n ≤ 600) : ∃ s, f_X12_pour a1 n1 (nI x) a3 n3 (nI y) (nI n) σ = some s ∧ Fr (fun z => z = a3) σ s ∧ (∀ j, j < n → s.1 a3 (y + j) = σ.1 a1 (x + j)) ∧ ∀ j, (j < y ∨ y + n ≤ j) → s.1 a3 j = σ.1 a3 j := by
  unfold f_X12_pour
  refine Exists.elim (loopE (fun m i s => f_X12_pour_3 a1 n1 a3 n3 m (nI x) (nI y) (nI n) (nI i) s) n (fun i s => Fr (fun z => z = a3) σ s ∧ (∀ j, j < i → s.1 a3 (y + j) = σ.1 a1 (x + j)) ∧ ∀ j, (j < y ∨ y + n ≤ j) → s.1 a3 j = σ.1 a3 j) (fun s => some s) ?_ ?_ FU 0 σ (by rw [FU_eq]; omega) (Nat.zero_le _) ⟨Fr.rf _ _, fun j hj => by omega, fun _ _ => rfl⟩) ?_
  · rintro m i s hi ⟨F, e1, e2⟩ Q hQ
    show ∃ z, f_X12_pour_3 a1 n1 a3 n3 (m + 1) (nI x) (nI y) (nI n) (nI i) s = f_X12_pour_3 a1 n1 a3 n3 m (nI x) (nI y) (nI n) (nI (i + 1)) z ∧ _
    rw [f_X12_pour_3, if_pos ((nI_ltI (by omega) (by omega)).mpr hi), nI_add, nI_add, nI_add, rdI_ok (show x + i < n1 by omega) h1, bind_s, wrI_ok (show y + i < n3 by omega) h3, bind_s]
    refine ⟨_, rfl, hQ _ ⟨F.tr (Fr_setI rfl), fun j hj => ?_, fun j hj => ?_⟩⟩
    · by_cases z : j = i
      · subst z; rw [I_at, F.I h13]
      · rw [I_ne (Or.inr (by omega))]; exact e1 j (by omega)
    · rw [I_ne (Or.inr (by omega))]; exact e2 j hj
  · rintro m s -
    show f_X12_pour_3 a1 n1 a3 n3 (m + 1) _ _ _ (nI n) s = _
    rw [f_X12_pour_3, if_neg (fun w => Nat.lt_irrefl _ ((nI_ltI (by omega) (by omega)).mp w))]
  · rintro s ⟨e, h⟩
    exact ⟨s, e, h⟩
theorem TM_congr {t t' : Nat → Int32} {len n0 : Nat} {kf : Nat → Nat} {g : Nat → Nat → Bool} (h : TM t len n0 kf g) (e : ∀ j, j < 60 → t' j = t j) : TM t' len n0 kf g := fun a1 n1 fr σ so run q1 q2 q3 q4 q5 q6 q7 => h a1 n1 fr σ so run q1 q2 q3 q4 q5 (fun j hj => (q6 j hj).trans (e j hj)) q7
theorem TE_congr {t t' : Nat → Int32} {len n0 : Nat} {kf : Nat → Nat} {b e z : Nat} (h : TE t len n0 kf b e z) (q : ∀ j, j < 60 → t' j = t j) : TE t' len n0 kf b e z := fun σ act kept v q1 q2 q3 q4 q5 q6 => h σ act kept v q1 q2 q3 q4 (fun j hj => (q5 j hj).trans (q j hj)) q6
theorem MRr_k {kt lt txt hl ht hp hst p0 p1 p2 p3 p4 p5 p6 w kt' lt' txt' hl' ht' hp' hst' p0' p1' p2' p3' p4' p5' p6' w' : Nat → Int32} (b : AOK B) (m : MRr kt lt txt hl ht hp hst p0 p1 p2 p3 p4 p5 p6 w B) (e1 : ∀ i, i < 10 → kt' i = kt i) (e2 : ∀ i, i < 10 → lt' i = lt i) (e3 : ∀ i, i < 600 → txt' i = txt i) (e4 : ∀ i, i < 6 → hl' i = hl i) (e5 : ∀ i, i < 360 → ht' i = ht i) (e6 : ∀ i, i < 6 → hp' i = hp i) (e7 : ∀ i, i < 6 → hst' i = hst i) (f0 : ∀ i, i < 16 → p0' i = p0 i) (f1 : ∀ i, i < 16 → p1' i = p1 i) (f2 : ∀ i, i < 16 → p2' i = p2 i) (f3 : ∀ i, i < 16 → p3' i = p3 i) (f4 : ∀ i, i < 16 → p4' i = p4 i) (f5 : ∀ i, i < 16 → p5' i = p5 i) (f6 : ∀ i, i < 16 → p6' i = p6 i) (fw : ∀ i, i < 6 → w' i = w i) : MRr kt' lt' txt' hl' ht' hp' hst' p0' p1' p2' p3' p4' p5' p6' w' B := by
  obtain ⟨hT, hH, hP⟩ := b.1
  obtain ⟨n1, n2, n3, n4⟩ := m
  refine ⟨fun i hi => ?_, fun h hh => ?_, fun k hk => ?_, fun m hm => by rw [fw m hm]; exact n4 m hm⟩
  · obtain ⟨q1, q2⟩ := n1 i hi
    refine ⟨by rw [e1 i (by omega)]; exact q1, fun hk => ?_⟩
    obtain ⟨len, l1, l2, l3⟩ := q2 hk
    exact ⟨len, l1, by rw [e2 i (by omega)]; exact l2, TM_congr l3 (fun j hj => e3 _ (by omega))⟩
  · obtain ⟨len, l1, l2, l3, l4, l5, l6, l7⟩ := n2 h hh
    exact ⟨len, l1, by rw [e4 h (by omega)]; exact l2, TM_congr l3 (fun j hj => e5 _ (by omega)), TE_congr l4 (fun j hj => e5 _ (by omega)), by rw [e5 (60 * h) (by omega)]; exact l5, by rw [e6 h (by omega)]; exact l6, by rw [e7 h (by omega)]; exact l7⟩
  · obtain ⟨q0, q1, q2, q3, q4, q5, q6⟩ := n3 k hk
    rw [f0 k (by omega), f1 k (by omega), f2 k (by omega), f3 k (by omega), f4 k (by omega), f5 k (by omega), f6 k (by omega)]
    exact ⟨q0, q1, q2, q3, q4, q5, q6⟩
def xI (X : XS) : XS := (X.1, X.2.1, X.2.2.1, X.2.2.2.1, X.2.2.2.2.1, some X.1)
theorem t_mimage (b : AOK A) (m : MR A σ) : ∃ u, f_X12_image σ = some (nI (nP A), u) ∧ Fr (fun z => z = 247 ∨ (289 ≤ z ∧ z ≤ 293)) σ u ∧ (∀ k, k ≠ 53 → u.1 247 k = σ.1 247 k) ∧ u.1 247 53 = 1 ∧ MIr u A := by
  obtain ⟨⟨m0, m4, m9⟩, mr⟩ := m
  unfold f_X12_image
  rw [pfZ_1, bind_s, I_ne (Or.inr (by decide)), m0, wrI_ok (show 0 < 3 by decide) (by decide), bind_s, I_ne (Or.inl (by decide)), I_ne (Or.inr (by decide)), m4, wrI_ok (show 1 < 3 by decide) (by decide), bind_s, I_ne (Or.inl (by decide)), I_ne (Or.inl (by decide)), I_ne (Or.inr (by decide)), m9, wrI_ok (show 2 < 3 by decide) (by decide), bind_s]
  have F0 : Fr (fun z => z = 247 ∨ z = 289) σ (setI (setI (setI (setI σ 247 53 1) 289 0 (nI (nT A))) 289 1 (nI (nH A))) 289 2 (nI (nP A))) := (((Fr_setI (W := fun z => z = 247 ∨ z = 289) (Or.inl rfl)).tr (Fr_setI (Or.inr rfl))).tr (Fr_setI (Or.inr rfl))).tr (Fr_setI (Or.inr rfl))
  have z7 : ∀ k, k ≠ 53 → (setI (setI (setI (setI σ 247 53 1) 289 0 (nI (nT A))) 289 1 (nI (nH A))) 289 2 (nI (nP A))).1 247 k = σ.1 247 k := fun k hk => by rw [I_ne (Or.inl (by decide)), I_ne (Or.inl (by decide)), I_ne (Or.inl (by decide)), I_ne (Or.inr hk)]
  have z53 : (setI (setI (setI (setI σ 247 53 1) 289 0 (nI (nT A))) 289 1 (nI (nH A))) 289 2 (nI (nP A))).1 247 53 = 1 := by rw [I_ne (Or.inl (by decide)), I_ne (Or.inl (by decide)), I_ne (Or.inl (by decide)), I_at]
  have y0 : (setI (setI (setI (setI σ 247 53 1) 289 0 (nI (nT A))) 289 1 (nI (nH A))) 289 2 (nI (nP A))).1 289 0 = nI (nT A) := by rw [I_ne (Or.inr (by decide)), I_ne (Or.inr (by decide)), I_at]
  have y1 : (setI (setI (setI (setI σ 247 53 1) 289 0 (nI (nT A))) 289 1 (nI (nH A))) 289 2 (nI (nP A))).1 289 1 = nI (nH A) := by rw [I_ne (Or.inr (by decide)), I_at]
  have y2 : (setI (setI (setI (setI σ 247 53 1) 289 0 (nI (nT A))) 289 1 (nI (nH A))) 289 2 (nI (nP A))).1 289 2 = nI (nP A) := I_at _ _ _ _
  generalize setI (setI (setI (setI σ 247 53 1) 289 0 (nI (nT A))) 289 1 (nI (nH A))) 289 2 (nI (nP A)) = u0 at *
  obtain ⟨u1, e1, F1, v1, w1⟩ := t_pour (σ := u0) (a1 := 248) (n1 := 10) (a3 := 290) (n3 := 620) (x := 0) (y := 0) (n := 10) (by decide) (by decide) (by decide) (by decide) (by decide) (by decide)
  obtain ⟨u2, e2, F2, v2, w2⟩ := t_pour (σ := u1) (a1 := 249) (n1 := 10) (a3 := 290) (n3 := 620) (x := 0) (y := 10) (n := 10) (by decide) (by decide) (by decide) (by decide) (by decide) (by decide)
  obtain ⟨u3, e3, F3, v3, w3⟩ := t_pour (σ := u2) (a1 := 250) (n1 := 600) (a3 := 290) (n3 := 620) (x := 0) (y := 20) (n := 600) (by decide) (by decide) (by decide) (by decide) (by decide) (by decide)
  obtain ⟨u4, e4, F4, v4, w4⟩ := t_pour (σ := u3) (a1 := 251) (n1 := 6) (a3 := 291) (n3 := 378) (x := 0) (y := 0) (n := 6) (by decide) (by decide) (by decide) (by decide) (by decide) (by decide)
  obtain ⟨u5, e5, F5, v5, w5⟩ := t_pour (σ := u4) (a1 := 253) (n1 := 6) (a3 := 291) (n3 := 378) (x := 0) (y := 6) (n := 6) (by decide) (by decide) (by decide) (by decide) (by decide) (by decide)
  obtain ⟨u6, e6, F6, v6, w6⟩ := t_pour (σ := u5) (a1 := 254) (n1 := 6) (a3 := 291) (n3 := 378) (x := 0) (y := 12) (n := 6) (by decide) (by decide) (by decide) (by decide) (by decide) (by decide)
  obtain ⟨u7, e7, F7, v7, w7⟩ := t_pour (σ := u6) (a1 := 252) (n1 := 360) (a3 := 291) (n3 := 378) (x := 0) (y := 18) (n := 360) (by decide) (by decide) (by decide) (by decide) (by decide) (by decide)
  obtain ⟨u8, e8, F8, v8, w8⟩ := t_pour (σ := u7) (a1 := 255) (n1 := 16) (a3 := 292) (n3 := 112) (x := 0) (y := 0) (n := 16) (by decide) (by decide) (by decide) (by decide) (by decide) (by decide)
  obtain ⟨u9, e9, F9, v9, w9⟩ := t_pour (σ := u8) (a1 := 256) (n1 := 16) (a3 := 292) (n3 := 112) (x := 0) (y := 16) (n := 16) (by decide) (by decide) (by decide) (by decide) (by decide) (by decide)
  obtain ⟨u10, e10, F10, v10, w10⟩ := t_pour (σ := u9) (a1 := 257) (n1 := 16) (a3 := 292) (n3 := 112) (x := 0) (y := 32) (n := 16) (by decide) (by decide) (by decide) (by decide) (by decide) (by decide)
  obtain ⟨u11, e11, F11, v11, w11⟩ := t_pour (σ := u10) (a1 := 258) (n1 := 16) (a3 := 292) (n3 := 112) (x := 0) (y := 48) (n := 16) (by decide) (by decide) (by decide) (by decide) (by decide) (by decide)
  obtain ⟨u12, e12, F12, v12, w12⟩ := t_pour (σ := u11) (a1 := 259) (n1 := 16) (a3 := 292) (n3 := 112) (x := 0) (y := 64) (n := 16) (by decide) (by decide) (by decide) (by decide) (by decide) (by decide)
  obtain ⟨u13, e13, F13, v13, w13⟩ := t_pour (σ := u12) (a1 := 260) (n1 := 16) (a3 := 292) (n3 := 112) (x := 0) (y := 80) (n := 16) (by decide) (by decide) (by decide) (by decide) (by decide) (by decide)
  obtain ⟨u14, e14, F14, v14, w14⟩ := t_pour (σ := u13) (a1 := 261) (n1 := 16) (a3 := 292) (n3 := 112) (x := 0) (y := 96) (n := 16) (by decide) (by decide) (by decide) (by decide) (by decide) (by decide)
  obtain ⟨u15, e15, F15, v15, w15⟩ := t_pour (σ := u14) (a1 := 262) (n1 := 6) (a3 := 293) (n3 := 6) (x := 0) (y := 0) (n := 6) (by decide) (by decide) (by decide) (by decide) (by decide) (by decide)
  rw [e1, bind_s, e2, bind_s, e3, bind_s, e4, bind_s, e5, bind_s, e6, bind_s, e7, bind_s, e8, bind_s, e9, bind_s, e10, bind_s, e11, bind_s, e12, bind_s, e13, bind_s, e14, bind_s, e15, bind_s]
  have GG : Fr (fun z => 290 ≤ z ∧ z ≤ 293) u0 u15 := (((((((((((((((F1.mono (fun z hz => by omega)).tr (F2.mono (fun z hz => by omega))).tr (F3.mono (fun z hz => by omega))).tr (F4.mono (fun z hz => by omega))).tr (F5.mono (fun z hz => by omega))).tr (F6.mono (fun z hz => by omega))).tr (F7.mono (fun z hz => by omega))).tr (F8.mono (fun z hz => by omega))).tr (F9.mono (fun z hz => by omega))).tr (F10.mono (fun z hz => by omega))).tr (F11.mono (fun z hz => by omega))).tr (F12.mono (fun z hz => by omega))).tr (F13.mono (fun z hz => by omega))).tr (F14.mono (fun z hz => by omega))).tr (F15.mono (fun z hz => by omega)))
  rw [GG.I (by omega), z7 9 (by decide), m9]
  refine ⟨u15, rfl, (F0.mono (fun z hz => by omega)).tr (GG.mono (fun z hz => by omega)), fun k hk => (GG.I (by omega) k).trans (z7 k hk), (GG.I (by omega) 53).trans z53, ⟨(GG.I (by omega) 0).trans y0, (GG.I (by omega) 1).trans y1, (GG.I (by omega) 2).trans y2⟩, MRr_k b mr ?_ ?_ ?_ ?_ ?_ ?_ ?_ ?_ ?_ ?_ ?_ ?_ ?_ ?_ ?_⟩
  · intro j hj
    have t := v1 j hj
    rw [Nat.zero_add] at t
    show u15.1 290 j = σ.1 248 j
    rw [F15.I (by decide), F14.I (by decide), F13.I (by decide), F12.I (by decide), F11.I (by decide), F10.I (by decide), F9.I (by decide), F8.I (by decide), F7.I (by decide), F6.I (by decide), F5.I (by decide), F4.I (by decide), w3 _ (by omega), w2 _ (by omega)]
    exact t.trans (by rw [F0.I (by decide)])
  · intro j hj
    have t := v2 j hj
    rw [Nat.zero_add] at t
    show u15.1 290 (10 + j) = σ.1 249 j
    rw [F15.I (by decide), F14.I (by decide), F13.I (by decide), F12.I (by decide), F11.I (by decide), F10.I (by decide), F9.I (by decide), F8.I (by decide), F7.I (by decide), F6.I (by decide), F5.I (by decide), F4.I (by decide), w3 _ (by omega)]
    exact t.trans (by rw [F1.I (by decide), F0.I (by decide)])
  · intro j hj
    have t := v3 j hj
    rw [Nat.zero_add] at t
    show u15.1 290 (20 + j) = σ.1 250 j
    rw [F15.I (by decide), F14.I (by decide), F13.I (by decide), F12.I (by decide), F11.I (by decide), F10.I (by decide), F9.I (by decide), F8.I (by decide), F7.I (by decide), F6.I (by decide), F5.I (by decide), F4.I (by decide)]
    exact t.trans (by rw [F2.I (by decide), F1.I (by decide), F0.I (by decide)])
  · intro j hj
    have t := v4 j hj
    rw [Nat.zero_add] at t
    show u15.1 291 j = σ.1 251 j
    rw [F15.I (by decide), F14.I (by decide), F13.I (by decide), F12.I (by decide), F11.I (by decide), F10.I (by decide), F9.I (by decide), F8.I (by decide), w7 _ (by omega), w6 _ (by omega), w5 _ (by omega)]
    exact t.trans (by rw [F3.I (by decide), F2.I (by decide), F1.I (by decide), F0.I (by decide)])
  · intro j hj
    have t := v7 j hj
    rw [Nat.zero_add] at t
    show u15.1 291 (18 + j) = σ.1 252 j
    rw [F15.I (by decide), F14.I (by decide), F13.I (by decide), F12.I (by decide), F11.I (by decide), F10.I (by decide), F9.I (by decide), F8.I (by decide)]
    exact t.trans (by rw [F6.I (by decide), F5.I (by decide), F4.I (by decide), F3.I (by decide), F2.I (by decide), F1.I (by decide), F0.I (by decide)])
  · intro j hj
    have t := v5 j hj
    rw [Nat.zero_add] at t
    show u15.1 291 (6 + j) = σ.1 253 j
    rw [F15.I (by decide), F14.I (by decide), F13.I (by decide), F12.I (by decide), F11.I (by decide), F10.I (by decide), F9.I (by decide), F8.I (by decide), w7 _ (by omega), w6 _ (by omega)]
    exact t.trans (by rw [F4.I (by decide), F3.I (by decide), F2.I (by decide), F1.I (by decide), F0.I (by decide)])
  · intro j hj
    have t := v6 j hj
    rw [Nat.zero_add] at t
    show u15.1 291 (12 + j) = σ.1 254 j
    rw [F15.I (by decide), F14.I (by decide), F13.I (by decide), F12.I (by decide), F11.I (by decide), F10.I (by decide), F9.I (by decide), F8.I (by decide), w7 _ (by omega)]
    exact t.trans (by rw [F5.I (by decide), F4.I (by decide), F3.I (by decide), F2.I (by decide), F1.I (by decide), F0.I (by decide)])
  · intro j hj
    have t := v8 j hj
    rw [Nat.zero_add] at t
    show u15.1 292 j = σ.1 255 j
    rw [F15.I (by decide), w14 _ (by omega), w13 _ (by omega), w12 _ (by omega), w11 _ (by omega), w10 _ (by omega), w9 _ (by omega)]
    exact t.trans (by rw [F7.I (by decide), F6.I (by decide), F5.I (by decide), F4.I (by decide), F3.I (by decide), F2.I (by decide), F1.I (by decide), F0.I (by decide)])
  · intro j hj
    have t := v9 j hj
    rw [Nat.zero_add] at t
    show u15.1 292 (16 + j) = σ.1 256 j
    rw [F15.I (by decide), w14 _ (by omega), w13 _ (by omega), w12 _ (by omega), w11 _ (by omega), w10 _ (by omega)]
    exact t.trans (by rw [F8.I (by decide), F7.I (by decide), F6.I (by decide), F5.I (by decide), F4.I (by decide), F3.I (by decide), F2.I (by decide), F1.I (by decide), F0.I (by decide)])
  · intro j hj
    have t := v10 j hj
    rw [Nat.zero_add] at t
    show u15.1 292 (32 + j) = σ.1 257 j
    rw [F15.I (by decide), w14 _ (by omega), w13 _ (by omega), w12 _ (by omega), w11 _ (by omega)]
    exact t.trans (by rw [F9.I (by decide), F8.I (by decide), F7.I (by decide), F6.I (by decide), F5.I (by decide), F4.I (by decide), F3.I (by decide), F2.I (by decide), F1.I (by decide), F0.I (by decide)])
  · intro j hj
    have t := v11 j hj
    rw [Nat.zero_add] at t
    show u15.1 292 (48 + j) = σ.1 258 j
    rw [F15.I (by decide), w14 _ (by omega), w13 _ (by omega), w12 _ (by omega)]
    exact t.trans (by rw [F10.I (by decide), F9.I (by decide), F8.I (by decide), F7.I (by decide), F6.I (by decide), F5.I (by decide), F4.I (by decide), F3.I (by decide), F2.I (by decide), F1.I (by decide), F0.I (by decide)])
  · intro j hj
    have t := v12 j hj
    rw [Nat.zero_add] at t
    show u15.1 292 (64 + j) = σ.1 259 j
    rw [F15.I (by decide), w14 _ (by omega), w13 _ (by omega)]
    exact t.trans (by rw [F11.I (by decide), F10.I (by decide), F9.I (by decide), F8.I (by decide), F7.I (by decide), F6.I (by decide), F5.I (by decide), F4.I (by decide), F3.I (by decide), F2.I (by decide), F1.I (by decide), F0.I (by decide)])
  · intro j hj
    have t := v13 j hj
    rw [Nat.zero_add] at t
    show u15.1 292 (80 + j) = σ.1 260 j
    rw [F15.I (by decide), w14 _ (by omega)]
    exact t.trans (by rw [F12.I (by decide), F11.I (by decide), F10.I (by decide), F9.I (by decide), F8.I (by decide), F7.I (by decide), F6.I (by decide), F5.I (by decide), F4.I (by decide), F3.I (by decide), F2.I (by decide), F1.I (by decide), F0.I (by decide)])
  · intro j hj
    have t := v14 j hj
    rw [Nat.zero_add] at t
    show u15.1 292 (96 + j) = σ.1 261 j
    rw [F15.I (by decide)]
    exact t.trans (by rw [F13.I (by decide), F12.I (by decide), F11.I (by decide), F10.I (by decide), F9.I (by decide), F8.I (by decide), F7.I (by decide), F6.I (by decide), F5.I (by decide), F4.I (by decide), F3.I (by decide), F2.I (by decide), F1.I (by decide), F0.I (by decide)])
  · intro j hj
    have t := v15 j hj
    rw [Nat.zero_add] at t
    show u15.1 293 j = σ.1 262 j
    exact t.trans (by rw [F14.I (by decide), F13.I (by decide), F12.I (by decide), F11.I (by decide), F10.I (by decide), F9.I (by decide), F8.I (by decide), F7.I (by decide), F6.I (by decide), F5.I (by decide), F4.I (by decide), F3.I (by decide), F2.I (by decide), F1.I (by decide), F0.I (by decide)])
theorem q_image (h : XR X σ) : OUT f_X11_image f_X12_image σ := by
  have a := h.1.1
  obtain ⟨c1, c2, c3, c4, c5, ⟨c6, c7⟩, c8, vb⟩ := h.2.1
  obtain ⟨s, e, F, c95, vbs⟩ := t_become (a0 := 95) (a1 := 2) (Or.inl ⟨rfl, rfl⟩) vb a c1
  have F0 : Fr (fun y => y = 0) s (setI s 0 10 1) := Fr_setI rfl
  have GG : Fr (fun y => y = 0 ∨ (95 ≤ y ∧ y < 188)) σ (setI s 0 10 1) := (F.mono (fun y hy => Or.inr hy)).tr (F0.mono (fun y hy => Or.inl hy))
  have g0 : ∀ k, k ≠ 10 → (setI s 0 10 1).1 0 k = σ.1 0 k := fun k hk => by rw [I_ne (Or.inr hk), F.I (by omega)]
  have c95' := CR_fr a c95 F0 (fun x hx => by omega)
  have e2 : (setI s 0 10 1).1 95 2 = nI (nP X.1) := c95'.1.2.2.1
  refine OUT_mk (X' := xI X) (s := setI s 0 10 1) (v := nI (nP X.1)) h ⟨a, h.1.2.1, h.1.2.2.1, fun B hB => ?_⟩ ?_ ⟨CR_fr a c1 GG (fun x hx => by omega), ⟨?_, ?_, ?_⟩, SHC_eq c3 (fun x h1 h2 => ⟨(GG.1 x (by omega)).1, (GG.1 x (by omega)).2.1⟩), fun j h1 h2 => by rw [GG.I (by omega)]; exact c4 j h1 h2, (g0 13 (by decide)).trans c5, ⟨by rw [GG.I (by omega)]; exact c6, fun i hi => by rw [GG.I (by omega)]; exact c7 i hi⟩, ⟨I_at _ _ _ _, c95'⟩, VB_fr vbs F0 (fun y hy => by omega)⟩ (FrC_w GG (fun y hy => by omega)) (fun mm => ?_)
  · cases hB; exact a
  · unfold f_X11_image
    rw [e, bind_s, pfZ_1, bind_s, e2]
  · rw [g0 12 (by decide), g0 11 (by decide)]; exact c2.1
  · rw [g0 11 (by decide)]; exact fun q => TB_fr (c2.2.1 q) GG (fun y hy => by omega)
  · rw [g0 12 (by decide)]; exact fun q => NW_fw (c2.2.2 q) GG (fun y hy => by omega)
  · obtain ⟨m1, m2, m3, m4, ⟨m5, m6⟩, m7⟩ := mm
    obtain ⟨u, e3, F3, k3, z53, mi⟩ := t_mimage a m1
    refine ⟨u, e3, ⟨MR_eq m1 (k3 0 (by decide)) (k3 4 (by decide)) (k3 9 (by decide)) (fun y h1 h2 => (F3.1 y (by omega)).1), SHM_eq m2 (F3.1 _ (by omega)).1 (F3.1 _ (by omega)).1 (F3.1 _ (by omega)).2.1, fun i h1 h2 => by rw [F3.I (by omega)]; exact m3 i h1 h2, (k3 21 (by decide)).trans m4, ⟨(k3 52 (by decide)).trans m5, fun i hi => by rw [F3.I (by omega)]; exact m6 i hi⟩, z53, mi⟩, F3.mono (fun y hy => by omega)⟩
end
