section
/-! ===== one law more ===== -/
def aH (A : AW) (lb le lz p b : Nat) (g : Nat → Nat → Bool) : AW := (fun a i => if a = 0 ∧ i = 1 then nH A + 1 else if a = 2 ∧ i = nH A then p else if a = 3 ∧ i = nH A then b else if a = 12 ∧ i = nH A then lb else if a = 13 ∧ i = nH A then le else if a = 14 ∧ i = nH A then lz else A.1 a i, A.2.1, fun h => if h = nH A then g else A.2.2 h)
variable {A : AW} {lb le lz p b : Nat} {g : Nat → Nat → Bool}
theorem nT_aH : nT (aH A lb le lz p b g) = nT A := by simp [nT, aH]
theorem nH_aH : nH (aH A lb le lz p b g) = nH A + 1 := by simp [nH, aH]
theorem nP_aH : nP (aH A lb le lz p b g) = nP A := by simp [nP, aH]
theorem kd_aH : kd (aH A lb le lz p b g) = kd A := by funext i; simp [kd, aH]
theorem pk_aH : pk (aH A lb le lz p b g) = pk A := by funext i; simp [pk, aH]
theorem po_aH : po (aH A lb le lz p b g) = po A := by funext i; simp [po, aH]
theorem pp_aH : pp (aH A lb le lz p b g) = pp A := by funext i; simp [pp, aH]
theorem pq_aH : pq (aH A lb le lz p b g) = pq A := by funext i; simp [pq, aH]
theorem pv_aH : pv (aH A lb le lz p b g) = pv A := by funext i; simp [pv, aH]
theorem pm_aH : pm (aH A lb le lz p b g) = pm A := by funext i; simp [pm, aH]
theorem pb_aH : pb (aH A lb le lz p b g) = pb A := by funext i; simp [pb, aH]
theorem wt_aH : wt (aH A lb le lz p b g) = wt A := by funext i; simp [wt, aH]
theorem pr_aH (i : Nat) : pr (aH A lb le lz p b g) i = if i = nH A then p else pr A i := by simp [pr, aH]
theorem sr_aH (i : Nat) : sr (aH A lb le lz p b g) i = if i = nH A then b else sr A i := by simp [sr, aH]
theorem lwb_aH (i : Nat) : lwb (aH A lb le lz p b g) i = if i = nH A then lb else lwb A i := by simp [lwb, aH]
theorem lwe_aH (i : Nat) : lwe (aH A lb le lz p b g) i = if i = nH A then le else lwe A i := by simp [lwe, aH]
theorem lws_aH (i : Nat) : lws (aH A lb le lz p b g) i = if i = nH A then lz else lws A i := by simp [lws, aH]
theorem tc_aH : tc (aH A lb le lz p b g) = tc A := rfl
theorem hc_aH (i : Nat) : hc (aH A lb le lz p b g) i = if i = nH A then g else hc A i := by
  funext so run
  unfold hc aH
  simp only
  try (split <;> rfl)
theorem cK_aH : cK (aH A lb le lz p b g) = cK A := by funext i; simp only [cK, nT_aH, nP_aH, kd_aH, pk_aH, po_aH, pp_aH, pq_aH, pv_aH, pm_aH, pb_aH, wt_aH, tc_aH]
theorem pl_aH : pl (aH A lb le lz p b g) = pl A := by funext i; simp only [pl, nT_aH, nP_aH, kd_aH, pk_aH, po_aH, pp_aH, pq_aH, pv_aH, pm_aH, pb_aH, wt_aH, tc_aH]
theorem AOK_aH (a : AOK A) (h6 : nH A < 6) (hp : p ≤ 99) (hb : b ≤ 1) (h1 : lb < 2 ^ cK A 1) (h2 : le < 2 ^ cK A 1) (h3 : lz ≤ 1) : AOK (aH A lb le lz p b g) := by
  unfold AOK at *
  simp only [nT_aH, nP_aH, kd_aH, pk_aH, po_aH, pp_aH, pq_aH, pv_aH, pm_aH, pb_aH, wt_aH, tc_aH, cK_aH, pl_aH, nH_aH]
  obtain ⟨⟨a1, a1', a1''⟩, a2, a3, a4, a5, a6, a7⟩ := a
  refine ⟨⟨a1, by omega, a1''⟩, a2, a3, fun h hh => ?_, fun k hk => ?_, a6, a7⟩
  · rw [pr_aH, sr_aH, lwb_aH, lwe_aH, lws_aH]
    by_cases z : h = nH A
    · rw [if_pos z, if_pos z, if_pos z, if_pos z, if_pos z]; exact ⟨hp, hb, h1, h2, h3⟩
    · rw [if_neg z, if_neg z, if_neg z, if_neg z, if_neg z]; exact a4 h (by omega)
  · obtain ⟨b1, b2, b3, b4, b5, b6, b7, b8, b9, b10⟩ := a5 k hk
    exact ⟨b1, b2, b3, b4, b5, b6, b7, fun q => Nat.lt_succ_of_lt (b8 q), b9, b10⟩
variable {σ s u : ST}
theorem CR_aH (a : AOK A) (c : CR 2 A σ) (h6 : nH A < 6) (F : Fr (fun y => y = 2 ∨ (59 + 6 * nH A ≤ y ∧ y < 65 + 6 * nH A)) σ s) (e1 : s.1 2 1 = nI (nH A + 1)) (e2 : ∀ k, k ≠ 1 → s.1 2 k = σ.1 2 k) (cc : CC s (60 + 6 * nH A) g) (k1 : s.1 (59 + 6 * nH A) 1 = nI lb) (k2 : s.1 (59 + 6 * nH A) 2 = nI le) (k3 : s.1 (59 + 6 * nH A) 3 = nI lz) (k4 : s.1 (59 + 6 * nH A) 4 = nI p) (k5 : s.1 (59 + 6 * nH A) 5 = nI b) : CR 2 (aH A lb le lz p b g) s := by
  have hT := a.1.1
  unfold CR at *
  simp only [nT_aH, nP_aH, kd_aH, pk_aH, po_aH, pp_aH, pq_aH, pv_aH, pm_aH, pb_aH, wt_aH, tc_aH, cK_aH, pl_aH, nH_aH]
  obtain ⟨c1, c2, c3, c4, c5, c6⟩ := c
  refine ⟨?_, fun i hi => ?_, fun i hi hk => ?_, fun h hh => ?_, fun k hk => ?_, fun m hm => ?_⟩
  · rw [e2 0 (by decide), e2 2 (by decide), e2 3 (by decide)]; exact ⟨c1.1, e1, c1.2.2⟩
  · rw [F.I (by omega), F.I (by omega)]; exact c2 i hi
  · exact CC_sm (c3 i hi hk) (fun y h1 h2 => (F.1 y (by omega)).1)
  · rw [pr_aH, sr_aH, lwb_aH, lwe_aH, lws_aH, hc_aH]
    by_cases z : h = nH A
    · rw [if_pos z, if_pos z, if_pos z, if_pos z, if_pos z, if_pos z, z, show 2 + 57 + 6 * nH A = 59 + 6 * nH A by omega, show 59 + 6 * nH A + 1 = 60 + 6 * nH A by omega]
      exact ⟨cc, k1, k2, k3, k4, k5⟩
    · rw [if_neg z, if_neg z, if_neg z, if_neg z, if_neg z, if_neg z]
      obtain ⟨d0, d⟩ := c4 h (by omega)
      refine ⟨CC_sm d0 (fun y h1 h2 => (F.1 y (by omega)).1), ?_⟩
      rw [F.I (by omega), F.I (by omega), F.I (by omega), F.I (by omega), F.I (by omega)]
      exact d
  · obtain ⟨q, h1, h2⟩ := c5 k hk
    refine ⟨q, by rw [F.T (by omega)]; exact h1, ?_⟩
    unfold PO at *
    simp only [nT_aH, nP_aH, kd_aH, pk_aH, po_aH, pp_aH, pq_aH, pv_aH, pm_aH, pb_aH, wt_aH, tc_aH, cK_aH, pl_aH]
    have := h2.1.1
    rw [F.2, F.I (by omega), F.I (by omega), F.I (by omega), F.I (by omega), F.I (by omega), F.I (by omega), F.I (by omega)]
    exact h2
  · rw [F.I (by omega)]; exact c6 m hm
theorem MR_aH (mr : MR A s) (a : AOK A) (h6 : nH A < 6) {n : Nat} (hn60 : n ≤ 60) (F : Fr (fun y => y = 247 ∨ (251 ≤ y ∧ y ≤ 254)) s u) (e4 : u.1 247 4 = nI (nH A + 1)) (e0 : u.1 247 0 = s.1 247 0) (e9 : u.1 247 9 = s.1 247 9) (k1 : ∀ i, u.1 251 i = if i = nH A then nI n else s.1 251 i) (k3 : ∀ i, u.1 253 i = if i = nH A then nI p else s.1 253 i) (k4 : ∀ i, u.1 254 i = if i = nH A then nI b else s.1 254 i) (k2 : ∀ j, j < 60 * nH A → u.1 252 j = s.1 252 j) (tm : TM (fun j => u.1 252 (60 * nH A + j)) n (nT A) (kd A) g) (te : TE (fun j => u.1 252 (60 * nH A + j)) n (nT A) (kd A) lb le lz) (h58 : u.1 252 (60 * nH A) = nI 58 → ∀ so run, so < 1024 → run < 8 → g so run = true) : MR (aH A lb le lz p b g) u := by
  unfold MR MRr at *
  simp only [nT_aH, nP_aH, kd_aH, pk_aH, po_aH, pp_aH, pq_aH, pv_aH, pm_aH, pb_aH, wt_aH, tc_aH, cK_aH, pl_aH, nH_aH]
  obtain ⟨⟨m1, m2, m3⟩, n1, n2, n3, n4⟩ := mr
  refine ⟨⟨e0.trans m1, e4, e9.trans m3⟩, fun i hi => ?_, fun h hh => ?_, fun i hi => ?_, ?_⟩
  · rw [(F.1 248 (by omega)).1, (F.1 249 (by omega)).1, (F.1 250 (by omega)).1]; exact n1 i hi
  · rw [pr_aH, sr_aH, lwb_aH, lwe_aH, lws_aH, hc_aH, k1, k3, k4]
    by_cases z : h = nH A
    · subst z
      rw [if_pos rfl, if_pos rfl, if_pos rfl, if_pos rfl, if_pos rfl, if_pos rfl, if_pos rfl, if_pos rfl, if_pos rfl]
      exact ⟨n, hn60, rfl, tm, te, h58, rfl, rfl⟩
    · rw [if_neg z, if_neg z, if_neg z, if_neg z, if_neg z, if_neg z, if_neg z, if_neg z, if_neg z]
      obtain ⟨len, l1, l2, l3, l4, l5, l6⟩ := n2 h (by omega)
      refine ⟨len, l1, l2, TM_congr l3 (fun j hj => k2 _ (by omega)), TE_congr l4 (fun j hj => k2 _ (by omega)), ?_, l6⟩
      rw [k2 _ (by omega)]
      exact l5
  · rw [(F.1 255 (by omega)).1, (F.1 256 (by omega)).1, (F.1 257 (by omega)).1, (F.1 258 (by omega)).1, (F.1 259 (by omega)).1, (F.1 260 (by omega)).1, (F.1 261 (by omega)).1]
    exact n3 i hi
  · rw [(F.1 262 (by omega)).1]; exact n4
/-- the class adds a law -/
theorem t_addH (a : AOK A) (c : CR 2 A σ) (h6 : nH A < 6) (hb : b ≤ 1) (hz : lz ≤ 1) (cs : CC σ 190 g) (e1 : σ.1 189 1 = nI lb) (e2 : σ.1 189 2 = nI le) (e3 : σ.1 189 3 = nI lz) (z5 : σ.1 189 5 = 0 ∨ σ.1 189 5 = 1) : ∃ s, f_X10_addHappening 189 (nI p) (nI b) σ = some (nI (nH A), s) ∧ Fr (fun y => y = 2 ∨ (59 + 6 * nH A ≤ y ∧ y < 65 + 6 * nH A)) σ s ∧ CR 2 (aH A lb le lz p b g) s ∧ s.1 (59 + 6 * nH A) 3 = nI lz ∧ s.1 (59 + 6 * nH A) 5 = nI b := by
  have b01 : nI b = 0 ∨ nI b = 1 := by rcases (show b = 0 ∨ b = 1 by omega) with rfl | rfl <;> decide
  have l01 : nI lz = 0 ∨ nI lz = 1 := by rcases (show lz = 0 ∨ lz = 1 by omega) with rfl | rfl <;> decide
  obtain ⟨s2, q1, F, q2, q3, q4⟩ := t_lbecome (σ := σ) (a0 := 59 + 6 * nH A) (a1 := 189) (Or.inl (by omega)) (by rw [e3]; exact l01) z5
  have FB : Fr (fun y => y = 2 ∨ (59 + 6 * nH A ≤ y ∧ y < 65 + 6 * nH A)) σ (setI (setI (setI s2 (59 + 6 * nH A) 4 (nI p)) (59 + 6 * nH A) 5 (nI b)) 2 1 (nI (nH A + 1))) := (((F.mono (fun y hy => by omega)).tr (Fr_setI (by omega))).tr (Fr_setI (by omega))).tr (Fr_setI (by omega))
  have fld : ∀ k, k ≠ 4 → k ≠ 5 → (setI (setI (setI s2 (59 + 6 * nH A) 4 (nI p)) (59 + 6 * nH A) 5 (nI b)) 2 1 (nI (nH A + 1))).1 (59 + 6 * nH A) k = s2.1 (59 + 6 * nH A) k := fun k h1 h2 => by rw [I_ne (Or.inl (by omega)), I_ne (Or.inr h2), I_ne (Or.inr h1)]
  have f3 : (setI (setI (setI s2 (59 + 6 * nH A) 4 (nI p)) (59 + 6 * nH A) 5 (nI b)) 2 1 (nI (nH A + 1))).1 (59 + 6 * nH A) 3 = nI lz := by rw [fld 3 (by decide) (by decide), q2 3 (by decide) (by decide), e3]
  have f5 : (setI (setI (setI s2 (59 + 6 * nH A) 4 (nI p)) (59 + 6 * nH A) 5 (nI b)) 2 1 (nI (nH A + 1))).1 (59 + 6 * nH A) 5 = nI b := by rw [I_ne (Or.inl (by omega)), I_at]
  have ccs : CC s2 (60 + 6 * nH A) g := by
    refine CC_to cs ?_ (fun i j h1 h2 h3 => ?_)
    · rw [show 60 + 6 * nH A = 59 + 6 * nH A + 1 by omega]; exact q3
    · rw [show 60 + 6 * nH A + i = 59 + 6 * nH A + 1 + i by omega]; exact q4 i j h1 h2 h3
  have c21 : s2.1 2 1 = nI (nH A) := (F.I (by omega) _).trans c.1.2.1
  refine ⟨_, ?_, FB, CR_aH a c h6 FB (I_at _ _ _ _) (fun k hk => ?_) (CC_sm ccs (fun y h1 h2 => ?_)) ?_ ?_ f3 ?_ f5, f3, f5⟩
  · unfold f_X10_addHappening
    rw [c.1.2.1, if_pos ((nI_ltI (by omega) (by omega)).mpr h6), ixR_ok h6 (by decide), bind_s, show 2 + 57 + 6 * nH A = 59 + 6 * nH A by omega, q1, bind_s, bind_s, pfI_s, bind_s, bind_s, pfZ_s _ _ _ b01, bind_s, I_ne (Or.inl (by omega)), I_ne (Or.inl (by omega)), c21, nI_add, pfI_s, bind_s]
  · rw [I_ne (Or.inr hk), I_ne (Or.inl (by omega)), I_ne (Or.inl (by omega)), F.I (by omega)]
  · funext i
    rw [I_ne (Or.inl (by omega)), I_ne (Or.inl (by omega)), I_ne (Or.inl (by omega))]
  · rw [fld 1 (by decide) (by decide), q2 1 (by decide) (by decide), e1]
  · rw [fld 2 (by decide) (by decide), q2 2 (by decide) (by decide), e2]
  · rw [I_ne (Or.inl (by omega)), I_ne (Or.inr (by decide)), I_at]
end
