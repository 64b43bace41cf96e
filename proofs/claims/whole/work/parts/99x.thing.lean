section
/-! ===== one thing more ===== -/
def aT (A : AW) (x : Nat) (g : Nat → Nat → Bool) : AW := (fun a b => if a = 0 ∧ b = 0 then nT A + 1 else if a = 1 ∧ b = nT A then x else A.1 a b, fun i => if i = nT A then g else A.2.1 i, A.2.2)
variable {A : AW} {x : Nat} {g : Nat → Nat → Bool}
theorem nT_aT : nT (aT A x g) = nT A + 1 := by simp [nT, aT]
theorem nH_aT : nH (aT A x g) = nH A := by simp [nH, aT]
theorem nP_aT : nP (aT A x g) = nP A := by simp [nP, aT]
theorem kd_aT (i : Nat) : kd (aT A x g) i = if i = nT A then x else kd A i := by simp [kd, aT]
theorem pr_aT : pr (aT A x g) = pr A := by funext i; simp [pr, aT]
theorem sr_aT : sr (aT A x g) = sr A := by funext i; simp [sr, aT]
theorem pk_aT : pk (aT A x g) = pk A := by funext i; simp [pk, aT]
theorem po_aT : po (aT A x g) = po A := by funext i; simp [po, aT]
theorem pp_aT : pp (aT A x g) = pp A := by funext i; simp [pp, aT]
theorem pq_aT : pq (aT A x g) = pq A := by funext i; simp [pq, aT]
theorem pv_aT : pv (aT A x g) = pv A := by funext i; simp [pv, aT]
theorem pm_aT : pm (aT A x g) = pm A := by funext i; simp [pm, aT]
theorem pb_aT : pb (aT A x g) = pb A := by funext i; simp [pb, aT]
theorem wt_aT : wt (aT A x g) = wt A := by funext i; simp [wt, aT]
theorem lwb_aT : lwb (aT A x g) = lwb A := by funext i; simp [lwb, aT]
theorem lwe_aT : lwe (aT A x g) = lwe A := by funext i; simp [lwe, aT]
theorem lws_aT : lws (aT A x g) = lws A := by funext i; simp [lws, aT]
theorem tc_aT (i : Nat) : tc (aT A x g) i = if i = nT A then g else tc A i := by
  funext so run
  unfold tc aT
  simp only
  try (split <;> rfl)
theorem hc_aT : hc (aT A x g) = hc A := rfl
theorem cntT {k n : Nat} (h : n ≤ nT A) : cnt (kd (aT A x g)) k n = cnt (kd A) k n := cnt_congr (fun i hi => by rw [kd_aT, if_neg (by omega)])
theorem cK_aT (k : Nat) : cK (aT A x g) k = if x = k then cK A k + 1 else cK A k := by
  unfold cK
  rw [nT_aT, cnt, cntT (Nat.le_refl _), kd_aT, if_pos rfl]
theorem pl_aT {i : Nat} (hi : i < nT A) : pl (aT A x g) i = pl A i := by
  unfold pl
  rw [cntT (Nat.le_of_lt hi), kd_aT, if_neg (by omega)]
theorem pl_aTn : pl (aT A x g) (nT A) = cK A x := by
  unfold pl cK
  rw [cntT (Nat.le_refl _), kd_aT, if_pos rfl]
def moT (x : Nat) : Nat := if x = 0 then 2 else if x = 1 then 5 else if x = 2 then 3 else 1
def rmT (A : AW) (x : Nat) : Bool := decide (nT A < 10) && decide (cK A x < moT x)
theorem rmT_t (h : rmT A x = true) : nT A < 10 ∧ cK A x < moT x := by
  unfold rmT at h
  rw [Bool.and_eq_true] at h
  exact ⟨of_decide_eq_true h.1, of_decide_eq_true h.2⟩
theorem AOK_aT (a : AOK A) (hx : x ≤ 3) (r : rmT A x = true) : AOK (aT A x g) := by
  obtain ⟨r1, r2⟩ := rmT_t r
  unfold AOK at *
  simp only [nH_aT, nP_aT, pr_aT, sr_aT, pk_aT, po_aT, pp_aT, pq_aT, pv_aT, pm_aT, pb_aT, wt_aT, lwb_aT, lwe_aT, lws_aT, hc_aT, nT_aT, cK_aT]
  obtain ⟨⟨a1, a1', a1''⟩, a2, ⟨a3, a3', a3'', a3'''⟩, a4, a5, a6, a7⟩ := a
  refine ⟨⟨by omega, a1', a1''⟩, fun i hi => ?_, ?_, fun h hh => ?_, fun k hk => ?_, a6, a7⟩
  · rw [kd_aT]
    by_cases z : i = nT A
    · rw [if_pos z]; exact hx
    · rw [if_neg z]; exact a2 i (by omega)
  · unfold moT at r2
    rcases (show x = 0 ∨ x = 1 ∨ x = 2 ∨ x = 3 by omega) with rfl | rfl | rfl | rfl <;> simp at r2 ⊢ <;> omega
  · obtain ⟨b1, b2, b3, b4, b5⟩ := a4 h hh
    have : 2 ^ cK A 1 ≤ 2 ^ (if x = 1 then cK A 1 + 1 else cK A 1) := Nat.pow_le_pow_right (by omega) (by split <;> omega)
    exact ⟨b1, b2, Nat.lt_of_lt_of_le b3 this, Nat.lt_of_lt_of_le b4 this, b5⟩
  · obtain ⟨b1, b2, b3, b4, b5, b6, b7, b8, b9, b10⟩ := a5 k hk
    refine ⟨b1, b2, b3, b4, b5, b6, fun q => Nat.lt_succ_of_lt (b7 q), b8, b9, fun q => ?_⟩
    rw [kd_aT, if_neg (by have := b7 q; omega)]
    exact b10 q
variable {σ s u : ST}
theorem t_roomT (a : AOK A) (c : CR 2 A σ) (hx : x ≤ 3) : f_X10_hasRoomFor (nI x) σ = some (b2 (rmT A x), σ) := by
  have hT := a.1.1
  have ck : cK A x ≤ nT A := cnt_le _ _ _
  have mo : f_X10_mostOf (nI x) σ = some (nI (moT x), σ) := by
    rcases (show x = 0 ∨ x = 1 ∨ x = 2 ∨ x = 3 by omega) with rfl | rfl | rfl | rfl <;> rfl
  have mo5 : moT x ≤ 5 := by unfold moT; split <;> (try split) <;> (try split) <;> omega
  unfold f_X10_hasRoomFor rmT
  rw [c.1.1]
  by_cases z : nT A < 10
  · rw [if_pos ((nI_ltI (by omega) (by omega)).mpr z), t_countOf a c (by omega), bd2_s, mo, bd2_s, decide_eq_true z, Bool.true_and]
    by_cases w : cK A x < moT x
    · rw [if_pos ((nI_ltI (by omega) (by omega)).mpr w), decide_eq_true w]; rfl
    · rw [if_neg (fun q => w ((nI_ltI (by omega) (by omega)).mp q)), decide_eq_false w]; rfl
  · rw [if_neg (fun q => z ((nI_ltI (by omega) (by omega)).mp q)), decide_eq_false z]; rfl
/-- the class's cells with one thing more -/
theorem CR_aT (a : AOK A) (c : CR 2 A σ) (h10 : nT A < 10) (F : Fr (fun y => y = 0 ∨ y = 2 ∨ y = 3 ∨ y = 4 ∨ (9 + 5 * nT A ≤ y ∧ y < 14 + 5 * nT A) ∨ (188 ≤ y ∧ y ≤ 194)) σ s) (e0 : s.1 2 0 = nI (nT A + 1)) (e2 : ∀ k, k ≠ 0 → s.1 2 k = σ.1 2 k) (e3 : ∀ i, s.1 3 i = if i = nT A then nI x else σ.1 3 i) (e4 : ∀ i, s.1 4 i = if i = nT A then nI (cK A x) else σ.1 4 i) (cc : 2 ≤ x → CC s (9 + 5 * nT A) g) : CR 2 (aT A x g) s := by
  have hH := a.1.2.1
  unfold CR at *
  simp only [nH_aT, nP_aT, pr_aT, sr_aT, pk_aT, po_aT, pp_aT, pq_aT, pv_aT, pm_aT, pb_aT, wt_aT, lwb_aT, lwe_aT, lws_aT, hc_aT, nT_aT]
  obtain ⟨c1, c2, c3, c4, c5, c6⟩ := c
  refine ⟨?_, fun i hi => ?_, fun i hi hk => ?_, fun h hh => ?_, fun k hk => ?_, fun m hm => ?_⟩
  · rw [e2 1 (by decide), e2 2 (by decide), e2 3 (by decide)]; exact ⟨e0, c1.2⟩
  · show s.1 3 i = _ ∧ s.1 4 i = _
    rw [e3, e4]
    by_cases z : i = nT A
    · subst z
      rw [if_pos rfl, if_pos rfl, kd_aT, if_pos rfl, pl_aTn]
      exact ⟨rfl, rfl⟩
    · rw [if_neg z, if_neg z, kd_aT, if_neg z, pl_aT (show i < nT A by omega)]
      exact c2 i (by omega)
  · rw [kd_aT] at hk
    rw [tc_aT]
    by_cases z : i = nT A
    · subst z
      rw [if_pos rfl] at hk
      rw [if_pos rfl, show 2 + 7 + 5 * nT A = 9 + 5 * nT A by omega]
      exact cc hk
    · rw [if_neg z] at hk
      rw [if_neg z]
      exact CC_sm (c3 i (by omega) hk) (fun y h1 h2 => (F.1 y (by omega)).1)
  · obtain ⟨d0, d⟩ := c4 h hh
    refine ⟨CC_sm d0 (fun y h1 h2 => (F.1 y (by omega)).1), ?_⟩
    rw [F.I (by omega), F.I (by omega), F.I (by omega), F.I (by omega), F.I (by omega)]
    exact d
  · obtain ⟨p, h1, h2⟩ := c5 k hk
    refine ⟨p, by rw [F.T (by omega)]; exact h1, ?_⟩
    unfold PO at *
    simp only [nH_aT, nP_aT, pr_aT, sr_aT, pk_aT, po_aT, pp_aT, pq_aT, pv_aT, pm_aT, pb_aT, wt_aT, lwb_aT, lwe_aT, lws_aT, hc_aT]
    have := h2.1.1
    rw [F.2, F.I (by omega), F.I (by omega), F.I (by omega), F.I (by omega), F.I (by omega), F.I (by omega), F.I (by omega)]
    exact h2
  · rw [F.I (by omega)]; exact c6 m hm
/-! what texts mean, in a world with more things -/
theorem TM_mono {t : Nat → Int32} {len n0 n1 : Nat} {kf kf' : Nat → Nat} {g : Nat → Nat → Bool} (h : TM t len n0 kf g) (hn : n0 ≤ n1) (e : ∀ u, u < n0 → kf' u = kf u) : TM t len n1 kf' g := fun a1 n fr σ so run q1 q2 q3 q4 q5 q6 q7 => h a1 n fr σ so run q1 q2 q3 q4 (fun u hu hk => q5 u (by omega) ((e u hu).trans hk)) q6 (fun u hu => by rw [q7 u (by omega)]; unfold nowv; rw [e u hu])
theorem TE_mono {t : Nat → Int32} {len n0 n1 : Nat} {kf kf' : Nat → Nat} {b e' z : Nat} (h : TE t len n0 kf b e' z) (hn : n0 ≤ n1) (e : ∀ u, u < n0 → kf' u = kf u) : TE t len n1 kf' b e' z := fun σ act kept v q1 q2 q3 q4 q5 q6 => h σ act kept v q1 q2 q3 q4 q5 (fun u hu => by rw [q6 u (by omega), e u hu])
theorem TM_GC {H : SHV} {s k : Nat} {t : Nat → Int32} (h : GC A H s k σ) (l : hn H s ≤ 60) (e : ∀ j, j < hn H s → t j = lt H s j) : TM t (hn H s) (nT A) (kd A) (CMr (σ.1 191) (σ.1 192) (σ.1 193) (σ.1 194) k) := fun a1 n1 fr τ so run q1 q2 q3 q4 q5 q6 q7 => h.2.2 so run a1 n1 fr τ ⟨⟨q1, q2, q3, q4⟩, q5, fun j hj => (q6 j (by omega)).trans (e j hj), q7⟩
/-- the reference's cells with one thing more -/
theorem MR_aT (mr : MR A s) {n : Nat} (hn60 : n ≤ 60) (F : Fr (fun y => 247 ≤ y ∧ y ≤ 250) s u) (e0 : u.1 247 0 = nI (nT A + 1)) (e4 : u.1 247 4 = s.1 247 4) (e9 : u.1 247 9 = s.1 247 9) (k8 : ∀ i, u.1 248 i = if i = nT A then nI x else s.1 248 i) (k9 : ∀ i, u.1 249 i = if i = nT A then nI n else s.1 249 i) (k0 : ∀ j, j < 60 * nT A → u.1 250 j = s.1 250 j) (tm : 2 ≤ x → TM (fun j => u.1 250 (60 * nT A + j)) n (nT A) (kd A) g) : MR (aT A x g) u := by
  unfold MR MRr at *
  simp only [nH_aT, nP_aT, pr_aT, sr_aT, pk_aT, po_aT, pp_aT, pq_aT, pv_aT, pm_aT, pb_aT, wt_aT, lwb_aT, lwe_aT, lws_aT, hc_aT, nT_aT]
  obtain ⟨⟨m1, m2, m3⟩, n1, n2, n3, n4⟩ := mr
  refine ⟨⟨e0, e4.trans m2, e9.trans m3⟩, fun i hi => ?_, fun h hh => ?_, fun i hi => ?_, ?_⟩
  · rw [k8, k9, kd_aT, tc_aT]
    by_cases z : i = nT A
    · subst z
      rw [if_pos rfl, if_pos rfl, if_pos rfl, if_pos rfl]
      exact ⟨rfl, fun q => ⟨n, hn60, rfl, TM_mono (tm q) (Nat.le_refl _) (fun u hu => by rw [kd_aT, if_neg (by omega)])⟩⟩
    · rw [if_neg z, if_neg z, if_neg z, if_neg z]
      obtain ⟨p1, p2⟩ := n1 i (by omega)
      refine ⟨p1, fun q => ?_⟩
      obtain ⟨len, l1, l2, l3⟩ := p2 q
      exact ⟨len, l1, l2, TM_mono (TM_congr l3 (fun j hj => k0 _ (by omega))) (Nat.le_refl _) (fun u hu => by rw [kd_aT, if_neg (by omega)])⟩
  · rw [(F.1 251 (by omega)).1, (F.1 252 (by omega)).1, (F.1 253 (by omega)).1, (F.1 254 (by omega)).1]
    obtain ⟨len, l1, l2, l3, l4, l5⟩ := n2 h hh
    exact ⟨len, l1, l2, TM_mono l3 (Nat.le_succ _) (fun u hu => by rw [kd_aT, if_neg (by omega)]), TE_mono l4 (Nat.le_succ _) (fun u hu => by rw [kd_aT, if_neg (by omega)]), l5⟩
  · rw [(F.1 255 (by omega)).1, (F.1 256 (by omega)).1, (F.1 257 (by omega)).1, (F.1 258 (by omega)).1, (F.1 259 (by omega)).1, (F.1 260 (by omega)).1, (F.1 261 (by omega)).1]
    exact n3 i hi
  · rw [(F.1 262 (by omega)).1]; exact n4
end
