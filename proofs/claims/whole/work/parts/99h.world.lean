section
/-! ===== one number of the world changes ===== -/
def uA (A : AW) (x y v : Nat) : AW := (fun a b => if a = x ∧ b = y then v else A.1 a b, A.2)
variable {A : AW} {j v : Nat}
theorem nT_u2 : nT (uA A 2 j v) = nT A := by simp [nT, uA]
theorem nH_u2 : nH (uA A 2 j v) = nH A := by simp [nH, uA]
theorem nP_u2 : nP (uA A 2 j v) = nP A := by simp [nP, uA]
theorem kd_u2 : kd (uA A 2 j v) = kd A := by funext i; simp [kd, uA]
theorem pr_u2 (i : Nat) : pr (uA A 2 j v) i = if i = j then v else pr A i := by simp [pr, uA]
theorem sr_u2 : sr (uA A 2 j v) = sr A := by funext i; simp [sr, uA]
theorem pk_u2 : pk (uA A 2 j v) = pk A := by funext i; simp [pk, uA]
theorem po_u2 : po (uA A 2 j v) = po A := by funext i; simp [po, uA]
theorem pp_u2 : pp (uA A 2 j v) = pp A := by funext i; simp [pp, uA]
theorem pq_u2 : pq (uA A 2 j v) = pq A := by funext i; simp [pq, uA]
theorem pv_u2 : pv (uA A 2 j v) = pv A := by funext i; simp [pv, uA]
theorem pm_u2 : pm (uA A 2 j v) = pm A := by funext i; simp [pm, uA]
theorem pb_u2 : pb (uA A 2 j v) = pb A := by funext i; simp [pb, uA]
theorem wt_u2 : wt (uA A 2 j v) = wt A := by funext i; simp [wt, uA]
theorem lwb_u2 : lwb (uA A 2 j v) = lwb A := by funext i; simp [lwb, uA]
theorem lwe_u2 : lwe (uA A 2 j v) = lwe A := by funext i; simp [lwe, uA]
theorem lws_u2 : lws (uA A 2 j v) = lws A := by funext i; simp [lws, uA]
theorem tc_u2 : tc (uA A 2 j v) = tc A := rfl
theorem hc_u2 : hc (uA A 2 j v) = hc A := rfl
theorem cK_u2 : cK (uA A 2 j v) = cK A := by funext k; simp only [cK, nT_u2, nH_u2, nP_u2, kd_u2, sr_u2, pk_u2, po_u2, pp_u2, pq_u2, pv_u2, pm_u2, pb_u2, wt_u2, lwb_u2, lwe_u2, lws_u2, tc_u2, hc_u2]
theorem pl_u2 : pl (uA A 2 j v) = pl A := by funext k; simp only [pl, nT_u2, nH_u2, nP_u2, kd_u2, sr_u2, pk_u2, po_u2, pp_u2, pq_u2, pv_u2, pm_u2, pb_u2, wt_u2, lwb_u2, lwe_u2, lws_u2, tc_u2, hc_u2]
theorem nzT_u2 : nzT (uA A 2 j v) = nzT A := by
  unfold nzT uA
  refine Prod.ext (funext fun a => funext fun b => ?_) rfl
  simp only
  by_cases h0 : a = 0
  · subst h0; simp
  · by_cases h1 : a = 2
    · subst h1; simp
    · simp [h0, h1]
theorem nT_u10 : nT (uA A 10 j v) = nT A := by simp [nT, uA]
theorem nH_u10 : nH (uA A 10 j v) = nH A := by simp [nH, uA]
theorem nP_u10 : nP (uA A 10 j v) = nP A := by simp [nP, uA]
theorem kd_u10 : kd (uA A 10 j v) = kd A := by funext i; simp [kd, uA]
theorem pr_u10 : pr (uA A 10 j v) = pr A := by funext i; simp [pr, uA]
theorem sr_u10 : sr (uA A 10 j v) = sr A := by funext i; simp [sr, uA]
theorem pk_u10 : pk (uA A 10 j v) = pk A := by funext i; simp [pk, uA]
theorem po_u10 : po (uA A 10 j v) = po A := by funext i; simp [po, uA]
theorem pp_u10 : pp (uA A 10 j v) = pp A := by funext i; simp [pp, uA]
theorem pq_u10 : pq (uA A 10 j v) = pq A := by funext i; simp [pq, uA]
theorem pv_u10 : pv (uA A 10 j v) = pv A := by funext i; simp [pv, uA]
theorem pm_u10 : pm (uA A 10 j v) = pm A := by funext i; simp [pm, uA]
theorem pb_u10 (i : Nat) : pb (uA A 10 j v) i = if i = j then v else pb A i := by simp [pb, uA]
theorem wt_u10 : wt (uA A 10 j v) = wt A := by funext i; simp [wt, uA]
theorem lwb_u10 : lwb (uA A 10 j v) = lwb A := by funext i; simp [lwb, uA]
theorem lwe_u10 : lwe (uA A 10 j v) = lwe A := by funext i; simp [lwe, uA]
theorem lws_u10 : lws (uA A 10 j v) = lws A := by funext i; simp [lws, uA]
theorem tc_u10 : tc (uA A 10 j v) = tc A := rfl
theorem hc_u10 : hc (uA A 10 j v) = hc A := rfl
theorem cK_u10 : cK (uA A 10 j v) = cK A := by funext k; simp only [cK, nT_u10, nH_u10, nP_u10, kd_u10, pr_u10, sr_u10, pk_u10, po_u10, pp_u10, pq_u10, pv_u10, pm_u10, wt_u10, lwb_u10, lwe_u10, lws_u10, tc_u10, hc_u10]
theorem pl_u10 : pl (uA A 10 j v) = pl A := by funext k; simp only [pl, nT_u10, nH_u10, nP_u10, kd_u10, pr_u10, sr_u10, pk_u10, po_u10, pp_u10, pq_u10, pv_u10, pm_u10, wt_u10, lwb_u10, lwe_u10, lws_u10, tc_u10, hc_u10]
theorem nzT_u10 : nzT (uA A 10 j v) = nzT A := by
  unfold nzT uA
  refine Prod.ext (funext fun a => funext fun b => ?_) rfl
  simp only
  by_cases h0 : a = 0
  · subst h0; simp
  · by_cases h1 : a = 10
    · subst h1; simp
    · simp [h0, h1]
theorem nT_u11 : nT (uA A 11 j v) = nT A := by simp [nT, uA]
theorem nH_u11 : nH (uA A 11 j v) = nH A := by simp [nH, uA]
theorem nP_u11 : nP (uA A 11 j v) = nP A := by simp [nP, uA]
theorem kd_u11 : kd (uA A 11 j v) = kd A := by funext i; simp [kd, uA]
theorem pr_u11 : pr (uA A 11 j v) = pr A := by funext i; simp [pr, uA]
theorem sr_u11 : sr (uA A 11 j v) = sr A := by funext i; simp [sr, uA]
theorem pk_u11 : pk (uA A 11 j v) = pk A := by funext i; simp [pk, uA]
theorem po_u11 : po (uA A 11 j v) = po A := by funext i; simp [po, uA]
theorem pp_u11 : pp (uA A 11 j v) = pp A := by funext i; simp [pp, uA]
theorem pq_u11 : pq (uA A 11 j v) = pq A := by funext i; simp [pq, uA]
theorem pv_u11 : pv (uA A 11 j v) = pv A := by funext i; simp [pv, uA]
theorem pm_u11 : pm (uA A 11 j v) = pm A := by funext i; simp [pm, uA]
theorem pb_u11 : pb (uA A 11 j v) = pb A := by funext i; simp [pb, uA]
theorem wt_u11 (i : Nat) : wt (uA A 11 j v) i = if i = j then v else wt A i := by simp [wt, uA]
theorem lwb_u11 : lwb (uA A 11 j v) = lwb A := by funext i; simp [lwb, uA]
theorem lwe_u11 : lwe (uA A 11 j v) = lwe A := by funext i; simp [lwe, uA]
theorem lws_u11 : lws (uA A 11 j v) = lws A := by funext i; simp [lws, uA]
theorem tc_u11 : tc (uA A 11 j v) = tc A := rfl
theorem hc_u11 : hc (uA A 11 j v) = hc A := rfl
theorem cK_u11 : cK (uA A 11 j v) = cK A := by funext k; simp only [cK, nT_u11, nH_u11, nP_u11, kd_u11, pr_u11, sr_u11, pk_u11, po_u11, pp_u11, pq_u11, pv_u11, pm_u11, pb_u11, lwb_u11, lwe_u11, lws_u11, tc_u11, hc_u11]
theorem pl_u11 : pl (uA A 11 j v) = pl A := by funext k; simp only [pl, nT_u11, nH_u11, nP_u11, kd_u11, pr_u11, sr_u11, pk_u11, po_u11, pp_u11, pq_u11, pv_u11, pm_u11, pb_u11, lwb_u11, lwe_u11, lws_u11, tc_u11, hc_u11]
theorem nzT_u11 : nzT (uA A 11 j v) = nzT A := by
  unfold nzT uA
  refine Prod.ext (funext fun a => funext fun b => ?_) rfl
  simp only
  by_cases h0 : a = 0
  · subst h0; simp
  · by_cases h1 : a = 11
    · subst h1; simp
    · simp [h0, h1]
theorem nzW_u11 : nzW (uA A 11 j v) = nzW A := by
  unfold nzW uA
  refine Prod.ext (funext fun a => funext fun b => ?_) rfl
  simp only
  by_cases h1 : a = 11
  · subst h1; simp
  · simp [h1]
variable {X : XS} {σ : ST} {A' : AW} {ft : Int32}
/-- the world changes, and the fault -/
def xw (X : XS) (A' : AW) (ft : Int32) : XS := (A', X.2.1, X.2.2.1, ft, X.2.2.2.2)
theorem XC_w {s : ST} (o : XO X) (m : XC X σ) (hS : Sm (fun x => (95 ≤ x ∧ x < 188) ∨ (229 ≤ x ∧ x ≤ 295) ∨ (296 ≤ x ∧ x < 296 + σ.2.2.2.length)) σ s) (e10 : s.1 0 10 = σ.1 0 10) (e13 : s.1 0 13 = ft) (c : CR 2 A' s) (i : CI A' s) (vb : VB s) : XC (xw X A' ft) s := by
  obtain ⟨m1, m2, m3, m4, m5, ⟨m6, m7⟩, m8⟩ := m
  have e : ∀ x, 229 ≤ x → x ≤ 246 → s.1 x = σ.1 x ∧ s.2.1 x = σ.2.1 x := fun x h1 h2 => ⟨(hS.1 x (by omega)).1, (hS.1 x (by omega)).2.1⟩
  refine ⟨c, i, SHC_eq m3 (fun x h1 h2 => e x (by omega) (by omega)), ?_, e13, ⟨by rw [(e 230 (by omega) (by omega)).1]; exact m6, ?_⟩, IC_eq o.2.2.2 m8 e10 ⟨fun x hx => hS.1 x (by omega), hS.2⟩ vb⟩
  · rw [(e 229 (by omega) (by omega)).1]; exact m4
  · rw [(e 230 (by omega) (by omega)).1]; exact m7
theorem XM_w {s : ST} (m : XM X σ) (hS : ∀ x, ((263 ≤ x ∧ x ≤ 265) ∨ (288 ≤ x ∧ x ≤ 294)) → s.1 x = σ.1 x ∧ s.2.1 x = σ.2.1 x) (e52 : s.1 247 52 = σ.1 247 52) (e53 : s.1 247 53 = σ.1 247 53) (e21 : s.1 247 21 = ft) (c : MR A' s) : XM (xw X A' ft) s := by
  obtain ⟨m1, m2, m3, m4, ⟨m5, m6⟩, m7⟩ := m
  refine ⟨c, SHM_eq m2 (hS _ (by omega)).1 (hS _ (by omega)).1 (hS _ (by omega)).2, ?_, e21, ⟨by rw [e52]; exact m5, ?_⟩, IM_eq m7 e53 (fun x h1 h2 => (hS x (by omega)).1)⟩
  · rw [(hS 294 (by omega)).1]; exact m3
  · rw [(hS 288 (by omega)).1]; exact m6
theorem OUT_w {α : Type} {c m : ST → Option (α × ST)} {s : ST} {w : α} (h : XR X σ) (a' : AOK A') (o' : HOK A' X.2.1) (e : c σ = some (w, s)) (hS : Sm (fun x => (95 ≤ x ∧ x < 188) ∨ (229 ≤ x ∧ x ≤ 295) ∨ (296 ≤ x ∧ x < 296 + σ.2.2.2.length)) σ s) (hl : s.2.2.2.length ≤ σ.2.2.2.length + 16) (e10 : s.1 0 10 = σ.1 0 10) (e13 : s.1 0 13 = ft) (hc : CR 2 A' s) (hi : CI A' s) (vb : VB σ → VB s) (hm : XM X s → ∃ u, m s = some (w, u) ∧ FrM s u ∧ (∀ x, ((263 ≤ x ∧ x ≤ 265) ∨ (288 ≤ x ∧ x ≤ 294)) → u.1 x = s.1 x ∧ u.2.1 x = s.2.1 x) ∧ u.1 247 52 = s.1 247 52 ∧ u.1 247 53 = s.1 247 53 ∧ u.1 247 21 = ft ∧ MR A' u) : OUT c m σ :=
  OUT_mk (X' := xw X A' ft) h ⟨a', o', h.1.2.2⟩ e (XC_w h.1 h.2.1 hS e10 e13 hc hi (vb h.2.1.2.2.2.2.2.2.2)) ⟨fun x h1 h2 => hS.1 x (by omega), hl⟩ (fun m1 => by
    obtain ⟨u, e2, F2, g1, g2, g3, g4, g5⟩ := hm m1
    exact ⟨u, e2, XM_w m1 g1 g2 g3 g4 g5, F2⟩)
/-! price -/
theorem AOK_u2 (a : AOK A) (hv : v ≤ 99) : AOK (uA A 2 j v) := by
  unfold AOK at *
  simp only [nT_u2, nH_u2, nP_u2, kd_u2, sr_u2, pk_u2, po_u2, pp_u2, pq_u2, pv_u2, pm_u2, pb_u2, wt_u2, lwb_u2, lwe_u2, lws_u2, tc_u2, hc_u2, cK_u2, pl_u2, pr_u2]
  obtain ⟨a1, a2, a3, a4, a5, a6, a7⟩ := a
  refine ⟨a1, a2, a3, fun h hh => ?_, a5, a6, a7⟩
  obtain ⟨b1, b2⟩ := a4 h hh
  refine ⟨?_, b2⟩
  split
  · exact hv
  · exact b1
theorem AOK_u10 (a : AOK A) (hv : v ≤ 1) : AOK (uA A 10 j v) := by
  unfold AOK at *
  simp only [nT_u10, nH_u10, nP_u10, kd_u10, pr_u10, sr_u10, pk_u10, po_u10, pp_u10, pq_u10, pv_u10, pm_u10, wt_u10, lwb_u10, lwe_u10, lws_u10, tc_u10, hc_u10, cK_u10, pl_u10, pb_u10]
  obtain ⟨a1, a2, a3, a4, a5, a6, a7⟩ := a
  refine ⟨a1, a2, a3, a4, fun k hk => ?_, a6, a7⟩
  obtain ⟨b1, b2, b3, b4, b5, b6, b7⟩ := a5 k hk
  refine ⟨b1, b2, b3, b4, b5, ?_, b7⟩
  split
  · exact hv
  · exact b6
theorem AOK_u11 (a : AOK A) (hv : v ≤ 99) : AOK (uA A 11 j v) := by
  unfold AOK at *
  simp only [nT_u11, nH_u11, nP_u11, kd_u11, pr_u11, sr_u11, pk_u11, po_u11, pp_u11, pq_u11, pv_u11, pm_u11, pb_u11, lwb_u11, lwe_u11, lws_u11, tc_u11, hc_u11, cK_u11, pl_u11, wt_u11]
  obtain ⟨a1, a2, a3, a4, a5, a6, a7⟩ := a
  refine ⟨a1, a2, a3, a4, a5, a6, fun m hm => ?_⟩
  split
  · exact hv
  · exact a7 m hm
theorem CR_u2 {s : ST} (c : CR 2 A σ) (F : Fr (fun y => y = 59 + 6 * j ∨ y = 0) σ s) (hj : j < nH A) (hH : nH A ≤ 6) (e4 : s.1 (59 + 6 * j) 4 = nI v) (e : ∀ k, k ≠ 4 → s.1 (59 + 6 * j) k = σ.1 (59 + 6 * j) k) (hT : nT A ≤ 10) : CR 2 (uA A 2 j v) s := by
  unfold CR at *
  simp only [nT_u2, nH_u2, nP_u2, kd_u2, sr_u2, pk_u2, po_u2, pp_u2, pq_u2, pv_u2, pm_u2, pb_u2, wt_u2, lwb_u2, lwe_u2, lws_u2, tc_u2, hc_u2, cK_u2, pl_u2, pr_u2]
  obtain ⟨c1, c2, c3, c4, c5, c6⟩ := c
  refine ⟨?_, fun i hi => ?_, fun i hi hk => ?_, fun h hh => ?_, fun k hk => ?_, fun m hm => ?_⟩
  · rw [F.I (by omega), F.I (by omega), F.I (by omega), F.I (by omega)]; exact c1
  · rw [F.I (by omega), F.I (by omega)]; exact c2 i hi
  · exact CC_sm (c3 i hi hk) (fun x h1 h2 => (F.1 x (by omega)).1)
  · obtain ⟨d0, d1, d2, d3, d4, d5⟩ := c4 h hh
    refine ⟨CC_sm d0 (fun x h1 h2 => (F.1 x (by omega)).1), ?_⟩
    by_cases w : h = j
    · subst w
      rw [if_pos rfl]
      rw [show 2 + 57 + 6 * h = 59 + 6 * h by omega] at *
      exact ⟨(e 1 (by omega)).trans d1, (e 2 (by omega)).trans d2, (e 3 (by omega)).trans d3, e4, (e 5 (by omega)).trans d5⟩
    · rw [if_neg w, F.I (by omega), F.I (by omega), F.I (by omega), F.I (by omega), F.I (by omega)]
      exact ⟨d1, d2, d3, d4, d5⟩
  · obtain ⟨p, h1, h2⟩ := c5 k hk
    refine ⟨p, by rw [F.T (by omega)]; exact h1, ?_⟩
    unfold PO at *
    simp only [nT_u2, nH_u2, nP_u2, kd_u2, sr_u2, pk_u2, po_u2, pp_u2, pq_u2, pv_u2, pm_u2, pb_u2, wt_u2, lwb_u2, lwe_u2, lws_u2, tc_u2, hc_u2, cK_u2, pl_u2]
    have := h2.1.1
    rw [F.2, F.I (by omega), F.I (by omega), F.I (by omega), F.I (by omega), F.I (by omega), F.I (by omega), F.I (by omega)]
    exact h2
  · rw [F.I (by omega)]; exact c6 m hm
theorem c_isNumber (x : Int32) : f_X11_isNumber x σ = some (b2 (inR x 100), σ) := by
  unfold f_X11_isNumber
  by_cases h : x < 0
  · rw [if_pos h, inR_f1 h]; rfl
  · obtain ⟨k, hk, rfl⟩ := nI_of h
    rw [if_neg h, inR_nI hk (by decide)]
    by_cases w : 99 < k
    · rw [if_pos ((nI_ltI (by omega) hk).mpr w), decide_eq_false (by omega)]; rfl
    · rw [if_neg (fun q => w ((nI_ltI (by omega) hk).mp q)), decide_eq_true (by omega)]; rfl
theorem num_g {β : Type} (x : Int32) {p q : β} : (if x < 0 then p else if nI 99 < x then p else q) = if inR x 100 = true then q else p := by
  by_cases h : x < 0
  · rw [if_pos h, inR_f1 h, if_neg (by decide)]
  · obtain ⟨k, hk, rfl⟩ := nI_of h
    rw [if_neg h, inR_nI hk (by decide)]
    by_cases w : 99 < k
    · rw [if_pos ((nI_ltI (by omega) hk).mpr w), decide_eq_false (by omega), if_neg (by decide)]
    · rw [if_neg (fun q => w ((nI_ltI (by omega) hk).mp q)), decide_eq_true (by omega), if_pos rfl]
theorem Sm_w {W : Nat → Prop} {s : ST} (F : Fr W σ s) (hW : ∀ y, W y → y < 95 ∨ (188 ≤ y ∧ y < 229)) : Sm (fun x => (95 ≤ x ∧ x < 188) ∨ (229 ≤ x ∧ x ≤ 295) ∨ (296 ≤ x ∧ x < 296 + σ.2.2.2.length)) σ s := Sm_fr F (fun y hy => by have := hW y hy; omega)
theorem HOK_P (o : HOK A X.2.1) (h : nP A ≤ nP A') : HOK A' X.2.1 := fun s hs => ⟨(o s hs).1, (o s hs).2.1, fun w => ⟨((o s hs).2.2 w).1, Nat.le_trans ((o s hs).2.2 w).2 h⟩⟩
theorem q_price (h : XR X σ) (x y : Int32) : OUT (f_X11_price x y) (f_X12_price x y) σ := by
  have a := h.1.1
  have c := h.2.1.1
  have hH := a.1.2.1
  cases g1 : inR x (nH X.1) with
  | false => exact OUT_ref h (j := 1) (by decide) (by decide) (by unfold f_X11_price; rw [c_isHappening c, g1, bd2_s, if_pos b2f0, c_refuse (j := 1) (by decide) (by decide), bd2_s]) (fun s m => by unfold f_X12_price; rw [t_isHappening m.1, g1, bd2_s, if_pos b2f0, m_no (j := 1) (by decide) (by decide), bd2_s])
  | true =>
    obtain ⟨k, hk, rfl⟩ := inR_of g1 (by omega)
    cases g2 : inR y 100 with
    | false => exact OUT_ref h (v := -6) (j := 6) (by decide) (by decide) (by unfold f_X11_price; rw [c_isHappening c, g1, bd2_s, if_neg b2t0, c_isNumber, g2, bd2_s, if_pos b2f0, c_refuse (j := 6) (by decide) (by decide), bd2_s]) (fun s m => by unfold f_X12_price; rw [t_isHappening m.1, g1, bd2_s, if_neg b2t0, m_no (j := 6) (by decide) (by decide), bd2_s, num_g, g2, if_neg (by decide)])
    | true =>
      obtain ⟨w, hw, rfl⟩ := inR_of g2 (by decide)
      have F : Fr (fun y => y = 59 + 6 * k ∨ y = 0) σ (setI (setI σ (59 + 6 * k) 4 (nI w)) 0 12 1) := (Fr_setI (Or.inl rfl)).tr (Fr_setI (Or.inr rfl))
      have c4 := (c.2.2.2.1 k hk).2.2.2.2.1
      have e11 : (setI (setI σ (59 + 6 * k) 4 (nI w)) 0 12 1).1 0 11 = σ.1 0 11 := by rw [I_ne (Or.inr (by decide)), I_ne (Or.inl (by omega))]
      refine OUT_w (A' := uA X.1 2 k w) (ft := X.2.2.2.1) (s := setI (setI σ (59 + 6 * k) 4 (nI w)) 0 12 1) (w := nI (pr X.1 k)) h (AOK_u2 a (by omega)) (HOK_P h.1.2.1 (by rw [nP_u2]; exact Nat.le_refl _)) ?_ (Sm_w F (fun y hy => by omega)) (by rw [F.2]; omega) ?_ ?_ (CR_u2 c F hk hH ?_ (fun i hi => ?_) a.1.1) ⟨fun q => ?_, fun q => ?_, fun q => ?_⟩ (fun vb => VB_eq vb ⟨[], by rw [F.2, List.append_nil]⟩ (fun i _ => Or.inl (F.T (by omega) i)) (F.1 100 (by omega)).2.2 (fun i hi => ⟨by rw [I_ne (Or.inl (by omega)), I_ne (Or.inr (by decide))], by rw [I_ne (Or.inl (by omega)), I_ne (Or.inr (by decide))], F.I (by omega) _, F.I (by omega) _⟩) (F.I (by omega) _) (F.I (by omega) _)) (fun m1 => ?_)
      · unfold f_X11_price
        rw [c_isHappening c, g1, bd2_s, if_neg b2t0, c_isNumber, g2, bd2_s, if_neg b2t0, ixR_ok (show k < 6 by omega) (by decide)]
        simp only [bind_s, pfI_s, pfZ_1]
        rw [show 2 + 57 + 6 * k = 59 + 6 * k by omega] at *
        rw [c4]
      · rw [I_ne (Or.inr (by decide)), I_ne (Or.inl (by omega))]
      · rw [I_ne (Or.inr (by decide)), I_ne (Or.inl (by omega))]; exact h.2.1.2.2.2.2.1
      · rw [I_ne (Or.inl (by omega)), I_at]
      · rw [I_ne (Or.inl (by omega)), I_ne (Or.inr hi)]
      · rw [I_at] at q; exact absurd q (by decide)
      · rw [e11] at q
        exact (TB_nz _ _).mp (by rw [nzT_u2]; exact (TB_nz _ _).mpr (TB_fr (h.2.1.2.1.2.1 q) F (fun y hy => by omega)))
      · rw [I_at] at q; exact absurd q (by decide)
      · generalize setI (setI σ (59 + 6 * k) 4 (nI w)) 0 12 1 = s at *
        have F2 : Fr (fun y => y = 253) s (setI s 253 k (nI w)) := Fr_setI rfl
        obtain ⟨len, l1, l2, l3, l4, l5, l6, l7⟩ := m1.1.2.2.1 k hk
        refine ⟨setI s 253 k (nI w), ?_, F2.mono (fun y hy => by omega), fun x hx => ⟨(F2.1 x (by omega)).1, (F2.1 x (by omega)).2.1⟩, F2.I (by omega) _, F2.I (by omega) _, (F2.I (by omega) _).trans m1.2.2.2.1, ?_⟩
        · unfold f_X12_price
          rw [t_isHappening m1.1, g1, bd2_s, if_neg b2t0, num_g, g2, if_pos rfl, rdI_ok (show k < 6 by omega) (by decide), l6]
          simp only [bind_s]
          rw [wrI_ok (show k < 6 by omega) (by decide)]
          simp only [bind_s]
        · have m := m1.1
          unfold MR MRr at *
          simp only [nT_u2, nH_u2, nP_u2, kd_u2, sr_u2, pk_u2, po_u2, pp_u2, pq_u2, pv_u2, pm_u2, pb_u2, wt_u2, lwb_u2, lwe_u2, lws_u2, tc_u2, hc_u2, cK_u2, pl_u2, pr_u2]
          obtain ⟨m0, n1, n2, n3, n4⟩ := m
          have e : ∀ y, y ≠ 253 → (setI s 253 k (nI w)).1 y = s.1 y := fun y hy => (F2.1 y hy).1
          rw [e 247 (by omega), e 248 (by omega), e 249 (by omega), e 250 (by omega), e 251 (by omega), e 252 (by omega), e 254 (by omega), e 255 (by omega), e 256 (by omega), e 257 (by omega), e 258 (by omega), e 259 (by omega), e 260 (by omega), e 261 (by omega), e 262 (by omega)]
          refine ⟨m0, n1, fun i hi => ?_, n3, n4⟩
          obtain ⟨len', q1, q2, q3, q4, q5, q6, q7⟩ := n2 i hi
          refine ⟨len', q1, q2, q3, q4, q5, ?_, q7⟩
          by_cases z : i = k
          · subst z; rw [I_at, if_pos rfl]
          · rw [I_ne (Or.inr z), if_neg z]; exact q6
end
