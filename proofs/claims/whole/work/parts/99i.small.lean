section
/-! ===== weigh, by, pieceOf, trace, status ===== -/
variable {A : AW} {j v : Nat} {X : XS} {σ : ST}
theorem CR_u11 {s : ST} (c : CR 2 A σ) (F : Fr (fun y => y = 8) σ s) (e4 : s.1 8 j = nI v) (e : ∀ k, k ≠ j → s.1 8 k = σ.1 8 k) (a : AOK A) : CR 2 (uA A 11 j v) s := by
  have hT := a.1.1
  have hH := a.1.2.1
  unfold CR at *
  simp only [nT_u11, nH_u11, nP_u11, kd_u11, pr_u11, sr_u11, pk_u11, po_u11, pp_u11, pq_u11, pv_u11, pm_u11, pb_u11, lwb_u11, lwe_u11, lws_u11, tc_u11, hc_u11, cK_u11, pl_u11, wt_u11]
  obtain ⟨c1, c2, c3, c4, c5, c6⟩ := c
  refine ⟨?_, fun i hi => ?_, fun i hi hk => ?_, fun h hh => ?_, fun k hk => ?_, fun m hm => ?_⟩
  · rw [F.I (by omega), F.I (by omega), F.I (by omega), F.I (by omega)]; exact c1
  · rw [F.I (by omega), F.I (by omega)]; exact c2 i hi
  · exact CC_sm (c3 i hi hk) (fun x h1 h2 => (F.1 x (by omega)).1)
  · obtain ⟨d0, d⟩ := c4 h hh
    refine ⟨CC_sm d0 (fun x h1 h2 => (F.1 x (by omega)).1), ?_⟩
    rw [F.I (by omega), F.I (by omega), F.I (by omega), F.I (by omega), F.I (by omega)]
    exact d
  · obtain ⟨p, h1, h2⟩ := c5 k hk
    refine ⟨p, by rw [F.T (by omega)]; exact h1, ?_⟩
    unfold PO at *
    simp only [nT_u11, nH_u11, nP_u11, kd_u11, pr_u11, sr_u11, pk_u11, po_u11, pp_u11, pq_u11, pv_u11, pm_u11, pb_u11, lwb_u11, lwe_u11, lws_u11, tc_u11, hc_u11, cK_u11, pl_u11]
    have := h2.1.1
    rw [F.2, F.I (by omega), F.I (by omega), F.I (by omega), F.I (by omega), F.I (by omega), F.I (by omega), F.I (by omega)]
    exact h2
  · show s.1 8 m = _
    by_cases w : m = j
    · subst w; rw [if_pos rfl]; exact e4
    · rw [if_neg w, e m w]; exact c6 m hm
theorem q_weigh (h : XR X σ) (x y : Int32) : OUT (f_X11_weigh x y) (f_X12_weigh x y) σ := by
  have a := h.1.1
  have c := h.2.1.1
  cases g1 : inR x 6 with
  | false => exact OUT_ref h (j := 1) (by decide) (by decide) (by unfold f_X11_weigh; rw [c_isMouth, g1, bd2_s, if_pos b2f0, c_refuse (j := 1) (by decide) (by decide), bd2_s]) (fun s m => by unfold f_X12_weigh; rw [t_isMouth, g1, bd2_s, if_pos b2f0, m_no (j := 1) (by decide) (by decide), bd2_s])
  | true =>
    obtain ⟨k, hk, rfl⟩ := inR_of g1 (by omega)
    cases g2 : inR y 100 with
    | false => exact OUT_ref h (v := -6) (j := 6) (by decide) (by decide) (by unfold f_X11_weigh; rw [c_isMouth, g1, bd2_s, if_neg b2t0, c_isNumber, g2, bd2_s, if_pos b2f0, c_refuse (j := 6) (by decide) (by decide), bd2_s]) (fun s m => by unfold f_X12_weigh; rw [t_isMouth, g1, bd2_s, if_neg b2t0, m_no (j := 6) (by decide) (by decide), bd2_s, num_g, g2, if_neg (by decide)])
    | true =>
      obtain ⟨w, hw, rfl⟩ := inR_of g2 (by decide)
      have F : Fr (fun y => y = 8) σ (setI σ 8 k (nI w)) := Fr_setI rfl
      have c6 := c.2.2.2.2.2 k hk
      have ci := CI_fw h.2.1.2.1 F (fun y hy => by omega)
      refine OUT_w (A' := uA X.1 11 k w) (ft := X.2.2.2.1) (s := setI σ 8 k (nI w)) (w := nI (wt X.1 k)) h (AOK_u11 a (by omega)) (HOK_P h.1.2.1 (by rw [nP_u11]; exact Nat.le_refl _)) ?_ (Sm_w F (fun y hy => by omega)) (by rw [F.2]; omega) (F.I (by omega) _) ((F.I (by omega) _).trans h.2.1.2.2.2.2.1) (CR_u11 c F (I_at _ _ _ _) (fun i hi => I_ne (Or.inr hi)) a) ⟨ci.1, fun q => ?_, fun q => ?_⟩ (fun vb => VB_eq vb ⟨[], by rw [F.2, List.append_nil]⟩ (fun i _ => Or.inl (F.T (by omega) i)) (F.1 100 (by omega)).2.2 (fun i hi => ⟨F.I (by omega) _, F.I (by omega) _, F.I (by omega) _, F.I (by omega) _⟩) (F.I (by omega) _) (F.I (by omega) _)) (fun m1 => ?_)
      · unfold f_X11_weigh
        rw [c_isMouth, g1, bd2_s, if_neg b2t0, c_isNumber, g2, bd2_s, if_neg b2t0, rdI_ok hk (by decide)]
        simp only [bind_s]
        rw [wrI_ok hk (by decide)]
        simp only [bind_s]
        rw [show σ.1 8 k = nI (wt X.1 k) from c6]
      · exact (TB_nz _ _).mp (by rw [nzT_u11]; exact (TB_nz _ _).mpr (ci.2.1 q))
      · exact (NW_nz _ _).mp (by rw [nzW_u11]; exact (NW_nz _ _).mpr (ci.2.2 q))
      · generalize setI σ 8 k (nI w) = s at *
        have F2 : Fr (fun y => y = 262) s (setI s 262 k (nI w)) := Fr_setI rfl
        have l := m1.1.2.2.2.2 k hk
        refine ⟨setI s 262 k (nI w), ?_, F2.mono (fun y hy => by omega), fun x hx => ⟨(F2.1 x (by omega)).1, (F2.1 x (by omega)).2.1⟩, F2.I (by omega) _, F2.I (by omega) _, (F2.I (by omega) _).trans m1.2.2.2.1, ?_⟩
        · unfold f_X12_weigh
          rw [t_isMouth, g1, bd2_s, if_neg b2t0, num_g, g2, if_pos rfl, rdI_ok hk (by decide), l]
          simp only [bind_s]
          rw [wrI_ok hk (by decide)]
          simp only [bind_s]
        · have m := m1.1
          unfold MR MRr at *
          simp only [nT_u11, nH_u11, nP_u11, kd_u11, pr_u11, sr_u11, pk_u11, po_u11, pp_u11, pq_u11, pv_u11, pm_u11, pb_u11, lwb_u11, lwe_u11, lws_u11, tc_u11, hc_u11, cK_u11, pl_u11, wt_u11]
          obtain ⟨m0, n1, n2, n3, n4⟩ := m
          have e : ∀ y, y ≠ 262 → (setI s 262 k (nI w)).1 y = s.1 y := fun y hy => (F2.1 y hy).1
          rw [e 247 (by omega), e 248 (by omega), e 249 (by omega), e 250 (by omega), e 251 (by omega), e 252 (by omega), e 253 (by omega), e 254 (by omega), e 255 (by omega), e 256 (by omega), e 257 (by omega), e 258 (by omega), e 259 (by omega), e 260 (by omega), e 261 (by omega)]
          refine ⟨m0, n1, n2, n3, fun i hi => ?_⟩
          by_cases z : i = k
          · subst z; rw [I_at, if_pos rfl]
          · rw [I_ne (Or.inr z), if_neg z]; exact n4 i hi
/-! by -/
theorem nI_xorm (a b : Nat) : nI a ^^^ nI b = nI (a ^^^ b) := nI_xor _ _
theorem msk_tog (A : AW) {k v : Nat} (hk : k < nP A) (hv : v ≤ 1) (hne : pb A k ≠ v) (hb : pb A k ≤ 1) : msk (fun i => decide (pb A i = 1)) (nP A) ^^^ 2 ^ k = msk (fun i => decide ((if i = k then v else pb A i) = 1)) (nP A) := by
  apply Nat.eq_of_testBit_eq
  intro i
  rw [Nat.testBit_xor, msk_tb, msk_tb, Nat.testBit_two_pow]
  by_cases e : i = k
  · subst e
    rw [decide_eq_true hk, if_pos rfl]
    rcases (show pb A i = 0 ∧ v = 1 ∨ pb A i = 1 ∧ v = 0 by omega) with ⟨z1, z2⟩ | ⟨z1, z2⟩ <;> rw [z1, z2] <;> simp
  · rw [if_neg e, decide_eq_false (show ¬ k = i by omega), Bool.xor_false]
theorem CR_u10 {s : ST} (c : CR 2 A σ) (F : Fr (fun y => y = 2 ∨ y = 0) σ s) (e3 : s.1 2 3 = nI (msk (fun i => decide ((if i = j then v else pb A i) = 1)) (nP A))) (e : ∀ k, k ≠ 3 → s.1 2 k = σ.1 2 k) (a : AOK A) : CR 2 (uA A 10 j v) s := by
  have hT := a.1.1
  have hH := a.1.2.1
  unfold CR at *
  simp only [nT_u10, nH_u10, nP_u10, kd_u10, pr_u10, sr_u10, pk_u10, po_u10, pp_u10, pq_u10, pv_u10, pm_u10, wt_u10, lwb_u10, lwe_u10, lws_u10, tc_u10, hc_u10, cK_u10, pl_u10, pb_u10]
  obtain ⟨c1, c2, c3, c4, c5, c6⟩ := c
  refine ⟨?_, fun i hi => ?_, fun i hi hk => ?_, fun h hh => ?_, fun k hk => ?_, fun m hm => ?_⟩
  · exact ⟨(e 0 (by omega)).trans c1.1, (e 1 (by omega)).trans c1.2.1, (e 2 (by omega)).trans c1.2.2.1, e3⟩
  · rw [F.I (by omega), F.I (by omega)]; exact c2 i hi
  · exact CC_sm (c3 i hi hk) (fun x h1 h2 => (F.1 x (by omega)).1)
  · obtain ⟨d0, d⟩ := c4 h hh
    refine ⟨CC_sm d0 (fun x h1 h2 => (F.1 x (by omega)).1), ?_⟩
    rw [F.I (by omega), F.I (by omega), F.I (by omega), F.I (by omega), F.I (by omega)]
    exact d
  · obtain ⟨p, h1, h2⟩ := c5 k hk
    refine ⟨p, by rw [F.T (by omega)]; exact h1, ?_⟩
    unfold PO at *
    simp only [nT_u10, nH_u10, nP_u10, kd_u10, pr_u10, sr_u10, pk_u10, po_u10, pp_u10, pq_u10, pv_u10, pm_u10, wt_u10, lwb_u10, lwe_u10, lws_u10, tc_u10, hc_u10, cK_u10, pl_u10]
    have := h2.1.1
    rw [F.2, F.I (by omega), F.I (by omega), F.I (by omega), F.I (by omega), F.I (by omega), F.I (by omega), F.I (by omega)]
    exact h2
  · rw [F.I (by omega)]; exact c6 m hm
theorem q_by (h : XR X σ) (x : Int32) {z : Nat} (hz : z ≤ 1) : OUT (f_X11_by x (nI z)) (f_X12_by x (nI z)) σ := by
  have a := h.1.1
  have c := h.2.1.1
  have hP := a.1.2.2
  have m23 : ∀ u, f_X12_by x (nI z) u = bd2 (f_X12_isPiece x u) (fun v2 s1 => if v2 = 0 then bd2 (f_X12_no (-1) s1) (fun v6 s5 => some (v6, s5)) else f_X12_by_23 x (nI z) s1) := by
    intro u
    unfold f_X12_by
    rcases (show z = 0 ∨ z = 1 by omega) with rfl | rfl
    · simp only [nI0_z, ↓reduceIte]
    · simp only [nI1_z, ↓reduceIte]
  cases g1 : inR x (nP X.1) with
  | false => exact OUT_ref h (v := -1) (j := 1) (by decide) (by decide) (by unfold f_X11_by; rw [t_pieceAt_no c g1, bd2_s, nl_n, c_refuse (j := 1) (by decide) (by decide), bd2_s]) (fun s m => by rw [m23, t_isPiece m.1, g1, bd2_s, if_pos b2f0, m_no (j := 1) (by decide) (by decide), bd2_s])
  | true =>
    obtain ⟨k, hk, rfl⟩ := inR_of g1 (by omega)
    obtain ⟨q, e, p, -⟩ := t_pieceAt a c hk
    have hb := (a.2.2.2.2.1 k hk).2.2.2.2.2.1
    have me : ∀ u, XM X u → f_X12_by (nI k) (nI z) u = if nI (pb X.1 k) = nI z then some (nI 0, u) else some (nI 1, setI u 261 k (nI z)) := by
      intro u mu
      rw [m23, t_isPiece mu.1, g1, bd2_s, if_neg b2t0]
      unfold f_X12_by_23
      rw [rdI_ok (show k < 16 by omega) (by decide), (mu.1.2.2.2.1 k hk).2.2.2.2.2.2, wrI_ok (show k < 16 by omega) (by decide)]
      simp only [bind_s]
    by_cases w : pb X.1 k = z
    · refine OUT_same h (v := nI 0) ?_ (by rw [me σ h.2.2, if_pos (congrArg nI w)])
      unfold f_X11_by
      rw [e, bd2_s, nl_s, t_isPutBy a c hk, bd2_s, if_pos (congrArg nI w)]
    · have w2 : ¬ nI (pb X.1 k) = nI z := fun v => w ((nI_eq (by omega) (by omega)).mp v)
      have e3 : (σ.1 2 3 ^^^ (nI 1 <<< (nI k &&& 31))) = nI (msk (fun i => decide ((if i = k then z else pb X.1 i) = 1)) (nP X.1)) := by
        rw [c.1.2.2.2, nI_shlm (by omega), Nat.one_mul, nI_xorm, msk_tog X.1 hk hz w hb]
      have F : Fr (fun y => y = 2 ∨ y = 0) σ (setI (setI σ 2 3 (σ.1 2 3 ^^^ (nI 1 <<< (nI k &&& 31)))) 0 12 1) := (Fr_setI (Or.inl rfl)).tr (Fr_setI (Or.inr rfl))
      have e11 : (setI (setI σ 2 3 (σ.1 2 3 ^^^ (nI 1 <<< (nI k &&& 31)))) 0 12 1).1 0 11 = σ.1 0 11 := by rw [I_ne (Or.inr (by decide)), I_ne (Or.inl (by omega))]
      refine OUT_w (A' := uA X.1 10 k z) (ft := X.2.2.2.1) (s := setI (setI σ 2 3 (σ.1 2 3 ^^^ (nI 1 <<< (nI k &&& 31)))) 0 12 1) (w := nI 1) h (AOK_u10 a hz) (HOK_P h.1.2.1 (by rw [nP_u10]; exact Nat.le_refl _)) ?_ (Sm_w F (fun y hy => by omega)) (by rw [F.2]; omega) ?_ ?_ (CR_u10 c F ?_ (fun i hi => ?_) a) ⟨fun q => ?_, fun q => ?_, fun q => ?_⟩ (fun vb => VB_eq vb ⟨[], by rw [F.2, List.append_nil]⟩ (fun i _ => Or.inl (F.T (by omega) i)) (F.1 100 (by omega)).2.2 (fun i hi => ⟨F.I (by omega) _, F.I (by omega) _, F.I (by omega) _, F.I (by omega) _⟩) (F.I (by omega) _) (F.I (by omega) _)) (fun m1 => ?_)
      · unfold f_X11_by
        rw [e, bd2_s, nl_s, t_isPutBy a c hk, bd2_s, if_neg w2]
        simp only [bind_s, pfI_s, pfZ_1]
      · rw [I_ne (Or.inr (by decide)), I_ne (Or.inl (by omega))]
      · rw [I_ne (Or.inr (by decide)), I_ne (Or.inl (by omega))]; exact h.2.1.2.2.2.2.1
      · rw [I_ne (Or.inl (by omega)), I_at]; exact e3
      · rw [I_ne (Or.inl (by omega)), I_ne (Or.inr hi)]
      · rw [I_at] at q; exact absurd q (by decide)
      · rw [e11] at q
        exact (TB_nz _ _).mp (by rw [nzT_u10]; exact (TB_nz _ _).mpr (TB_fr (h.2.1.2.1.2.1 q) F (fun y hy => by omega)))
      · rw [I_at] at q; exact absurd q (by decide)
      · generalize setI (setI σ 2 3 (σ.1 2 3 ^^^ (nI 1 <<< (nI k &&& 31)))) 0 12 1 = s at *
        have F2 : Fr (fun y => y = 261) s (setI s 261 k (nI z)) := Fr_setI rfl
        refine ⟨setI s 261 k (nI z), by rw [me s m1, if_neg w2], F2.mono (fun y hy => by omega), fun x hx => ⟨(F2.1 x (by omega)).1, (F2.1 x (by omega)).2.1⟩, F2.I (by omega) _, F2.I (by omega) _, (F2.I (by omega) _).trans m1.2.2.2.1, ?_⟩
        have m := m1.1
        unfold MR MRr at *
        simp only [nT_u10, nH_u10, nP_u10, kd_u10, pr_u10, sr_u10, pk_u10, po_u10, pp_u10, pq_u10, pv_u10, pm_u10, wt_u10, lwb_u10, lwe_u10, lws_u10, tc_u10, hc_u10, cK_u10, pl_u10, pb_u10]
        obtain ⟨m0, n1, n2, n3, n4⟩ := m
        have e : ∀ y, y ≠ 261 → (setI s 261 k (nI z)).1 y = s.1 y := fun y hy => (F2.1 y hy).1
        rw [e 247 (by omega), e 248 (by omega), e 249 (by omega), e 250 (by omega), e 251 (by omega), e 252 (by omega), e 253 (by omega), e 254 (by omega), e 255 (by omega), e 256 (by omega), e 257 (by omega), e 258 (by omega), e 259 (by omega), e 260 (by omega), e 262 (by omega)]
        refine ⟨m0, n1, n2, fun i hi => ?_, n4⟩
        obtain ⟨r1, r2, r3, r4, r5, r6, r7⟩ := n3 i hi
        refine ⟨r1, r2, r3, r4, r5, r6, ?_⟩
        by_cases z1 : i = k
        · subst z1; rw [I_at, if_pos rfl]
        · rw [I_ne (Or.inr z1), if_neg z1]; exact r7
/-! pieceOf -/
theorem pz (z : Nat) (hz : z ≤ 1) : (if nI z = 0 then some (nI 0, σ) else some (nI 1, σ)) = some (nI z, σ) := by
  rcases (show z = 0 ∨ z = 1 by omega) with rfl | rfl
  · rw [if_pos (by decide)]
  · rw [if_neg (by decide)]
theorem q_pieceOf (h : XR X σ) (x y : Int32) : OUT (f_X11_pieceOf x y) (f_X12_pieceOf x y) σ := by
  have a := h.1.1
  have c := h.2.1.1
  have hP := a.1.2.2
  cases g1 : inR x (nP X.1) with
  | false => exact OUT_ref h (v := -5) (j := 5) (by decide) (by decide) (by unfold f_X11_pieceOf; rw [t_pieceAt_no c g1, bd2_s, nl_n, c_refuse (j := 5) (by decide) (by decide), bd2_s]) (fun s m => by unfold f_X12_pieceOf; rw [t_isPiece m.1, g1, bd2_s, if_pos b2f0, m_no (j := 5) (by decide) (by decide), bd2_s])
  | true =>
    obtain ⟨k, hk, rfl⟩ := inR_of g1 (by omega)
    obtain ⟨q, e, p, -⟩ := t_pieceAt a c hk
    have hb := (a.2.2.2.2.1 k hk).2.2.2.2.2.1
    have cpre : f_X11_pieceOf (nI k) y σ = (if y = nI 0 then some (nI (pk X.1 k), σ) else if y = nI 1 then some (nI (po X.1 k), σ) else if y = nI 2 then some (nI (pp X.1 k), σ) else if y = nI 3 then some (nI (pq X.1 k), σ) else if y = nI 4 then some (nI (pv X.1 k), σ) else if y = nI 5 then some (nI (pm X.1 k), σ) else if y = nI 6 then some (nI (pb X.1 k), σ) else some (-5, rC 5 σ)) := by
      unfold f_X11_pieceOf
      rw [e, bd2_s, nl_s, t_isPutBy a c hk, bd2_s, pz _ hb, c_refuse (v := -5) (j := 5) (by decide) (by decide), bd2_s]
      simp only [PO_rd p, bind_s]
      rw [p.2.2.1, p.2.2.2.1, p.2.2.2.2.1, p.2.2.2.2.2.1, p.2.2.2.2.2.2.1, p.2.2.2.2.2.2.2]
    have mpre : ∀ u, XM X u → f_X12_pieceOf (nI k) y u = (if y < 0 then some (-5, rM 5 u) else if nI 6 < y then some (-5, rM 5 u) else if y = 0 then some (nI (pk X.1 k), u) else if y = nI 1 then some (nI (po X.1 k), u) else if y = nI 2 then some (nI (pp X.1 k), u) else if y = nI 3 then some (nI (pq X.1 k), u) else if y = nI 4 then some (nI (pv X.1 k), u) else if y = nI 5 then some (nI (pm X.1 k), u) else some (nI (pb X.1 k), u)) := by
      intro u mu
      obtain ⟨r1, r2, r3, r4, r5, r6, r7⟩ := mu.1.2.2.2.1 k hk
      unfold f_X12_pieceOf
      rw [t_isPiece mu.1, g1, bd2_s, if_neg b2t0]
      simp only [m_no (σ := u) (v := -5) (j := 5) (by decide) (by decide), bd2_s, rdI_ok (show k < 16 by omega) (show 16 < 2 ^ 31 by decide), bind_s, r1, r2, r3, r4, r5, r6, r7]
    by_cases y0 : y < 0
    · have ny : ∀ n, n < 100 → ¬ y = nI n := fun n hn w => nI_pos (show n < 2 ^ 31 by omega) (w ▸ y0)
      exact OUT_ref h (v := -5) (j := 5) (by decide) (by decide) (by rw [cpre, if_neg (ny 0 (by decide)), if_neg (ny 1 (by decide)), if_neg (ny 2 (by decide)), if_neg (ny 3 (by decide)), if_neg (ny 4 (by decide)), if_neg (ny 5 (by decide)), if_neg (ny 6 (by decide))]) (fun u mu => by rw [mpre u mu, if_pos y0])
    · obtain ⟨n, hn', rfl⟩ := nI_of y0
      by_cases w : 6 < n
      · have ny : ∀ i, i ≤ 6 → ¬ nI n = nI i := fun i hi z => by have := (nI_eq (by omega) (by omega)).mp z; omega
        exact OUT_ref h (v := -5) (j := 5) (by decide) (by decide) (by rw [cpre, if_neg (ny 0 (by decide)), if_neg (ny 1 (by decide)), if_neg (ny 2 (by decide)), if_neg (ny 3 (by decide)), if_neg (ny 4 (by decide)), if_neg (ny 5 (by decide)), if_neg (ny 6 (by decide))]) (fun u mu => by rw [mpre u mu, if_neg y0, if_pos ((nI_ltI (by omega) (by omega)).mpr w)])
      · have d : ∀ i : Fin 7, ∀ l : Fin 7, decide (nI i.1 = nI l.1) = decide (i = l) := by decide
        rcases (show n = 0 ∨ n = 1 ∨ n = 2 ∨ n = 3 ∨ n = 4 ∨ n = 5 ∨ n = 6 by omega) with rfl | rfl | rfl | rfl | rfl | rfl | rfl
        · exact OUT_same h cpre (mpre σ h.2.2)
        · exact OUT_same h cpre (mpre σ h.2.2)
        · exact OUT_same h cpre (mpre σ h.2.2)
        · exact OUT_same h cpre (mpre σ h.2.2)
        · exact OUT_same h cpre (mpre σ h.2.2)
        · exact OUT_same h cpre (mpre σ h.2.2)
        · exact OUT_same h cpre (mpre σ h.2.2)
/-! trace, status -/
theorem q_trace (h : XR X σ) (x : Int32) : OUT (f_X11_trace x) (f_X12_trace x) σ := by
  have l := h.1.2.2.1
  obtain ⟨c1, c2⟩ := h.2.1.2.2.2.2.2.1
  obtain ⟨m1, m2⟩ := h.2.2.2.2.2.2.1
  have cpre : f_X11_trace x σ = (if x < 0 then some (-1, σ) else if x < nI 20 then (if x < nI X.2.2.2.2.1.1 then ((rdI σ 230 21 ((nI 1) + x)).bind fun v2 => some (v2, σ)) else some (-1, σ)) else some (-1, σ)) := by
    unfold f_X11_trace
    rw [rdI_ok (show 0 < 21 by decide) (by decide), c1]
    simp only [bind_s]
  have mpre : f_X12_trace x σ = (if x < 0 then some (-1, σ) else if x < nI X.2.2.2.2.1.1 then (if x < nI 20 then ((rdI σ 288 20 x).bind fun v1 => some (v1, σ)) else some (-1, σ)) else some (-1, σ)) := by
    unfold f_X12_trace
    rw [m1]
  by_cases x0 : x < 0
  · rw [if_pos x0] at cpre mpre
    exact OUT_same h cpre mpre
  · obtain ⟨n, hn', rfl⟩ := nI_of x0
    rw [if_neg x0] at cpre mpre
    by_cases w : n < X.2.2.2.2.1.1
    · have w20 : nI n < nI 20 := (nI_ltI (b := 20) (by omega) (by omega)).mpr (by omega)
      have wt : nI n < nI X.2.2.2.2.1.1 := (nI_ltI (by omega) (by omega)).mpr w
      rw [if_pos w20, if_pos wt, nI_add, rdI_ok (show 1 + n < 21 by omega) (by decide), bind_s, c2 n w] at cpre
      rw [if_pos wt, if_pos w20, rdI_ok (show n < 20 by omega) (by decide), bind_s, m2 n w] at mpre
      exact OUT_same h cpre mpre
    · have wt : ¬ nI n < nI X.2.2.2.2.1.1 := fun z => w ((nI_ltI (by omega) (by omega)).mp z)
      rw [if_neg wt] at mpre
      refine OUT_same h (v := -1) ?_ mpre
      rw [cpre]
      by_cases w2 : nI n < nI 20
      · rw [if_pos w2, if_neg wt]
      · rw [if_neg w2]
theorem t_mstatus60 (a : AOK X.1) (m : MR X.1 σ) : f_X12_status_60 FU (nI 0) (nI 0) σ = some (nI (sm (nP X.1) (pb X.1)), σ) := by
  have hP := a.1.2.2
  refine loopC (fun n i => f_X12_status_60 n (nI (sm i (pb X.1))) (nI i) σ) (nP X.1) _ ?_ ?_ FU 0 (by rw [FU_eq]; omega) (Nat.zero_le _)
  · intro n i hi
    show f_X12_status_60 (n + 1) (nI (sm i (pb X.1))) (nI i) σ = f_X12_status_60 n (nI (sm (i + 1) (pb X.1))) (nI (i + 1)) σ
    rw [f_X12_status_60, m.1.2.2, if_pos ((nI_ltI (by omega) (by omega)).mpr hi), rdI_ok (show i < 16 by omega) (by decide), (m.2.2.2.1 i hi).2.2.2.2.2.2]
    simp only [bind_s]
    rw [nI_add, nI_add]
    rfl
  · intro n
    show f_X12_status_60 (n + 1) _ (nI (nP X.1)) σ = _
    rw [f_X12_status_60, m.1.2.2, if_neg (fun w => Nat.lt_irrefl _ ((nI_ltI (by omega) (by omega)).mp w))]
theorem q_status (h : XR X σ) (x : Int32) : OUT (f_X11_status x) (f_X12_status x) σ := by
  have a := h.1.1
  have hP := a.1.2.2
  obtain ⟨⟨c1, c2, c3, c4⟩, -⟩ := h.2.1.1
  obtain ⟨m1, m2, m3⟩ := h.2.2.1.1
  obtain ⟨t1, -⟩ := h.2.1.2.2.2.2.2.1
  obtain ⟨t2, -⟩ := h.2.2.2.2.2.2.1
  have hm := msk_lt (fun k => decide (pb X.1 k = 1)) (nP X.1)
  have hl2 : 2 ^ nP X.1 ≤ 2 ^ 16 := Nat.pow_le_pow_right (by decide) hP
  have e3 : pc16 (msk (fun k => decide (pb X.1 k = 1)) (nP X.1)) = sm (nP X.1) (pb X.1) := by
    rw [pc_msk _ hP]
    refine sm_congr (fun i hi => ?_)
    have hb := (a.2.2.2.2.1 i hi).2.2.2.2.2.1
    rcases (show pb X.1 i = 0 ∨ pb X.1 i = 1 by omega) with e | e <;> rw [e] <;> rfl
  have cpre : f_X11_status x σ = (if x = nI 0 then some (nI (nT X.1), σ) else if x = nI 1 then some (nI (nH X.1), σ) else if x = nI 2 then some (nI (nP X.1), σ) else if x = nI 3 then some (nI (sm (nP X.1) (pb X.1)), σ) else if x = nI 4 then some (nI X.2.2.2.2.1.1, σ) else (if x < nI 11 then some (-1, σ) else if nI 17 < x then some (-1, σ) else (rdI σ 229 8 (x - nI 10)).bind fun v4 => some (v4, σ))) := by
    unfold f_X11_status
    rw [c1, c2, c3, c4, t_bitCount (by omega), bd2_s, e3, rdI_ok (show 0 < 21 by decide) (by decide), t1]
    simp only [bind_s]
  have mpre : f_X12_status_22 x σ = (if x = 0 then some (nI (nT X.1), σ) else if x = nI 1 then some (nI (nH X.1), σ) else if x = nI 2 then some (nI (nP X.1), σ) else if x = nI 3 then some (nI (sm (nP X.1) (pb X.1)), σ) else if x = nI 4 then some (nI X.2.2.2.2.1.1, σ) else some (-1, σ)) := by
    unfold f_X12_status_22
    rw [m1, m2, m3, t2, t_mstatus60 a h.2.2.1]
  have mpre : f_X12_status_22 x σ = (if x = nI 0 then some (nI (nT X.1), σ) else if x = nI 1 then some (nI (nH X.1), σ) else if x = nI 2 then some (nI (nP X.1), σ) else if x = nI 3 then some (nI (sm (nP X.1) (pb X.1)), σ) else if x = nI 4 then some (nI X.2.2.2.2.1.1, σ) else some (-1, σ)) := mpre
  by_cases x0 : x < 0
  · have ny : ∀ n, n < 100 → ¬ x = nI n := fun n hn w => nI_pos (show n < 2 ^ 31 by omega) (w ▸ x0)
    have x11 : x < nI 11 := Int32.lt_trans x0 (by decide)
    refine OUT_same h (v := -1) ?_ ?_
    · rw [cpre, if_neg (ny 0 (by decide)), if_neg (ny 1 (by decide)), if_neg (ny 2 (by decide)), if_neg (ny 3 (by decide)), if_neg (ny 4 (by decide)), if_pos x11]
    · unfold f_X12_status
      rw [if_pos x11, mpre, if_neg (ny 0 (by decide)), if_neg (ny 1 (by decide)), if_neg (ny 2 (by decide)), if_neg (ny 3 (by decide)), if_neg (ny 4 (by decide))]
  · obtain ⟨n, hn', rfl⟩ := nI_of x0
    by_cases w4 : n ≤ 4
    · have mm : f_X12_status (nI n) σ = f_X12_status_22 (nI n) σ := by unfold f_X12_status; rw [if_pos ((nI_ltI (by omega) (by omega)).mpr (by omega))]
      rw [mpre] at mm
      rcases (show n = 0 ∨ n = 1 ∨ n = 2 ∨ n = 3 ∨ n = 4 by omega) with rfl | rfl | rfl | rfl | rfl
      · exact OUT_same h cpre mm
      · exact OUT_same h cpre mm
      · exact OUT_same h cpre mm
      · exact OUT_same h cpre mm
      · exact OUT_same h cpre mm
    · have ny : ∀ i, i ≤ 4 → ¬ nI n = nI i := fun i hi z => by have := (nI_eq (by omega) (by omega)).mp z; omega
      rw [if_neg (ny 0 (by decide)), if_neg (ny 1 (by decide)), if_neg (ny 2 (by decide)), if_neg (ny 3 (by decide)), if_neg (ny 4 (by decide))] at cpre mpre
      by_cases w11 : n < 11
      · refine OUT_same h (v := -1) ?_ ?_
        · rw [cpre, if_pos ((nI_ltI (by omega) (by omega)).mpr w11)]
        · unfold f_X12_status
          rw [if_pos ((nI_ltI (by omega) (by omega)).mpr w11), mpre]
      · have z11 : ¬ nI n < nI 11 := fun z => w11 ((nI_ltI (by omega) (by omega)).mp z)
        by_cases w17 : 17 < n
        · refine OUT_same h (v := -1) ?_ ?_
          · rw [cpre, if_neg z11, if_pos ((nI_ltI (by omega) (by omega)).mpr w17)]
          · unfold f_X12_status
            rw [if_neg z11, if_pos ((nI_ltI (by omega) (by omega)).mpr w17), mpre]
        · have z17 : ¬ nI 17 < nI n := fun z => w17 ((nI_ltI (by omega) (by omega)).mp z)
          refine OUT_same h (v := X.2.2.1 (n - 10)) ?_ ?_
          · rw [cpre, if_neg z11, if_neg z17, nI_sub (by omega), rdI_ok (show n - 10 < 8 by omega) (by decide), h.2.1.2.2.2.1 (n - 10) (by omega) (by omega)]
            simp only [bind_s]
          · unfold f_X12_status
            rw [if_neg z11, if_neg z17, nI_sub (by omega), rdI_ok (show n - 10 < 8 by omega) (by decide), h.2.2.2.2.1 (n - 10) (by omega) (by omega)]
            simp only [bind_s]
end
