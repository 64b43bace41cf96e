section
/-! ===== what the reckoning does not look at ===== -/
def nzW (A : AW) : AW := (fun x y => if x = 11 then 0 else A.1 x y, A.2)
def nzT (A : AW) : AW := (fun x y => if x = 0 then (if y = 2 then 0 else A.1 0 y) else if x = 2 then 0 else if 4 ≤ x ∧ x ≤ 11 then 0 else A.1 x y, A.2)
variable {A : AW} {S h : Nat} {x : Nat × Nat}
theorem nT_T : nT (nzT A) = nT A := by simp [nT, nzT]
theorem nH_T : nH (nzT A) = nH A := by simp [nH, nzT]
theorem kd_T : kd (nzT A) = kd A := by funext i; simp [kd, nzT]
theorem sr_T : sr (nzT A) = sr A := by funext i; simp [sr, nzT]
theorem lwb_T : lwb (nzT A) = lwb A := by funext i; simp [lwb, nzT]
theorem lwe_T : lwe (nzT A) = lwe A := by funext i; simp [lwe, nzT]
theorem lws_T : lws (nzT A) = lws A := by funext i; simp [lws, nzT]
theorem tc_T : tc (nzT A) = tc A := rfl
theorem hc_T : hc (nzT A) = hc A := rfl
theorem cK_T : cK (nzT A) = cK A := by funext k; simp only [cK, nT_T, nH_T, kd_T, sr_T, lwb_T, lwe_T, lws_T, tc_T, hc_T]
theorem pl_T : pl (nzT A) = pl A := by funext k; simp only [pl, nT_T, nH_T, kd_T, sr_T, lwb_T, lwe_T, lws_T, tc_T, hc_T]
theorem ts_T : ts (nzT A) = ts A := by funext f k r i s; simp only [ts, nT_T, nH_T, kd_T, sr_T, lwb_T, lwe_T, lws_T, tc_T, hc_T, cK_T, pl_T]
variable {f kept run s : Nat}
theorem soN_T : soN (nzT A) f kept run = soN A f kept run := by
  funext i
  induction i with
  | zero => simp only [soN, nT_T, nH_T, kd_T, sr_T, lwb_T, lwe_T, lws_T, tc_T, hc_T, cK_T, pl_T, ts_T]
  | succ i ih => simp only [soN, ih, nT_T, nH_T, kd_T, sr_T, lwb_T, lwe_T, lws_T, tc_T, hc_T, cK_T, pl_T, ts_T]
theorem so_T : so (nzT A) = so A := by funext f k r; simp only [so, nT_T, nH_T, kd_T, sr_T, lwb_T, lwe_T, lws_T, tc_T, hc_T, cK_T, pl_T, ts_T, soN_T]
theorem rnN_T : rnN (nzT A) s run = rnN A s run := by
  funext i
  induction i with
  | zero => simp only [rnN, nT_T, nH_T, kd_T, sr_T, lwb_T, lwe_T, lws_T, tc_T, hc_T, cK_T, pl_T, ts_T, soN_T, so_T]
  | succ i ih => simp only [rnN, ih, nT_T, nH_T, kd_T, sr_T, lwb_T, lwe_T, lws_T, tc_T, hc_T, cK_T, pl_T, ts_T, soN_T, so_T]
theorem rn_T : rn (nzT A) = rn A := by funext s r; simp only [rn, nT_T, nH_T, kd_T, sr_T, lwb_T, lwe_T, lws_T, tc_T, hc_T, cK_T, pl_T, ts_T, soN_T, so_T, rnN_T]
theorem th_T : th (nzT A) = th A := by funext s r; simp only [th, nT_T, nH_T, kd_T, sr_T, lwb_T, lwe_T, lws_T, tc_T, hc_T, cK_T, pl_T, ts_T, soN_T, so_T, rnN_T, rn_T]
theorem nxk_T : nxk (nzT A) = nxk A := by funext s k r a; simp only [nxk, nT_T, nH_T, kd_T, sr_T, lwb_T, lwe_T, lws_T, tc_T, hc_T, cK_T, pl_T, ts_T, soN_T, so_T, rnN_T, rn_T, th_T]
theorem nxr_T : nxr (nzT A) = nxr A := by funext s r a; simp only [nxr, nT_T, nH_T, kd_T, sr_T, lwb_T, lwe_T, lws_T, tc_T, hc_T, cK_T, pl_T, ts_T, soN_T, so_T, rnN_T, rn_T, th_T, nxk_T]
theorem blk_T : blk (nzT A) = blk A := by funext s r a; simp only [blk, nT_T, nH_T, kd_T, sr_T, lwb_T, lwe_T, lws_T, tc_T, hc_T, cK_T, pl_T, ts_T, soN_T, so_T, rnN_T, rn_T, th_T, nxk_T, nxr_T]
theorem hmk_T : hmk (nzT A) s run = hmk A s run := by
  funext i
  induction i with
  | zero => simp only [hmk, nT_T, nH_T, kd_T, sr_T, lwb_T, lwe_T, lws_T, tc_T, hc_T, cK_T, pl_T, ts_T, soN_T, so_T, rnN_T, rn_T, th_T, nxk_T, nxr_T, blk_T]
  | succ i ih => simp only [hmk, ih, nT_T, nH_T, kd_T, sr_T, lwb_T, lwe_T, lws_T, tc_T, hc_T, cK_T, pl_T, ts_T, soN_T, so_T, rnN_T, rn_T, th_T, nxk_T, nxr_T, blk_T]
theorem tr_T : tr (nzT A) = tr A := by funext f k r; simp only [tr, nT_T, nH_T, kd_T, sr_T, lwb_T, lwe_T, lws_T, tc_T, hc_T, cK_T, pl_T, ts_T, soN_T, so_T, rnN_T, rn_T, th_T, nxk_T, nxr_T, blk_T, hmk_T]
theorem nv_T : nv (nzT A) = nv A := by funext f k r a; simp only [nv, nT_T, nH_T, kd_T, sr_T, lwb_T, lwe_T, lws_T, tc_T, hc_T, cK_T, pl_T, ts_T, soN_T, so_T, rnN_T, rn_T, th_T, nxk_T, nxr_T, blk_T, hmk_T, tr_T]
theorem RR_T : RR (nzT A) = RR A := by simp only [RR, nT_T, nH_T, kd_T, sr_T, lwb_T, lwe_T, lws_T, tc_T, hc_T, cK_T, pl_T, ts_T, soN_T, so_T, rnN_T, rn_T, th_T, nxk_T, nxr_T, blk_T, hmk_T, tr_T, nv_T]
theorem nT_W : nT (nzW A) = nT A := by simp [nT, nzW]
theorem nH_W : nH (nzW A) = nH A := by simp [nH, nzW]
theorem nP_W : nP (nzW A) = nP A := by simp [nP, nzW]
theorem kd_W : kd (nzW A) = kd A := by funext i; simp [kd, nzW]
theorem sr_W : sr (nzW A) = sr A := by funext i; simp [sr, nzW]
theorem lwb_W : lwb (nzW A) = lwb A := by funext i; simp [lwb, nzW]
theorem lwe_W : lwe (nzW A) = lwe A := by funext i; simp [lwe, nzW]
theorem lws_W : lws (nzW A) = lws A := by funext i; simp [lws, nzW]
theorem pr_W : pr (nzW A) = pr A := by funext i; simp [pr, nzW]
theorem pk_W : pk (nzW A) = pk A := by funext i; simp [pk, nzW]
theorem po_W : po (nzW A) = po A := by funext i; simp [po, nzW]
theorem pp_W : pp (nzW A) = pp A := by funext i; simp [pp, nzW]
theorem pq_W : pq (nzW A) = pq A := by funext i; simp [pq, nzW]
theorem pv_W : pv (nzW A) = pv A := by funext i; simp [pv, nzW]
theorem pm_W : pm (nzW A) = pm A := by funext i; simp [pm, nzW]
theorem pb_W : pb (nzW A) = pb A := by funext i; simp [pb, nzW]
theorem tc_W : tc (nzW A) = tc A := rfl
theorem hc_W : hc (nzW A) = hc A := rfl
theorem cK_W : cK (nzW A) = cK A := by funext k; simp only [cK, nT_W, nH_W, nP_W, kd_W, sr_W, lwb_W, lwe_W, lws_W, pr_W, pk_W, po_W, pp_W, pq_W, pv_W, pm_W, pb_W, tc_W, hc_W]
theorem pl_W : pl (nzW A) = pl A := by funext k; simp only [pl, nT_W, nH_W, nP_W, kd_W, sr_W, lwb_W, lwe_W, lws_W, pr_W, pk_W, po_W, pp_W, pq_W, pv_W, pm_W, pb_W, tc_W, hc_W]
theorem ts_W : ts (nzW A) = ts A := by funext f k r i s; simp only [ts, nT_W, nH_W, nP_W, kd_W, sr_W, lwb_W, lwe_W, lws_W, pr_W, pk_W, po_W, pp_W, pq_W, pv_W, pm_W, pb_W, tc_W, hc_W, cK_W, pl_W]
variable {f kept run s : Nat}
theorem soN_W : soN (nzW A) f kept run = soN A f kept run := by
  funext i
  induction i with
  | zero => simp only [soN, nT_W, nH_W, nP_W, kd_W, sr_W, lwb_W, lwe_W, lws_W, pr_W, pk_W, po_W, pp_W, pq_W, pv_W, pm_W, pb_W, tc_W, hc_W, cK_W, pl_W, ts_W]
  | succ i ih => simp only [soN, ih, nT_W, nH_W, nP_W, kd_W, sr_W, lwb_W, lwe_W, lws_W, pr_W, pk_W, po_W, pp_W, pq_W, pv_W, pm_W, pb_W, tc_W, hc_W, cK_W, pl_W, ts_W]
theorem so_W : so (nzW A) = so A := by funext f k r; simp only [so, nT_W, nH_W, nP_W, kd_W, sr_W, lwb_W, lwe_W, lws_W, pr_W, pk_W, po_W, pp_W, pq_W, pv_W, pm_W, pb_W, tc_W, hc_W, cK_W, pl_W, ts_W, soN_W]
theorem rnN_W : rnN (nzW A) s run = rnN A s run := by
  funext i
  induction i with
  | zero => simp only [rnN, nT_W, nH_W, nP_W, kd_W, sr_W, lwb_W, lwe_W, lws_W, pr_W, pk_W, po_W, pp_W, pq_W, pv_W, pm_W, pb_W, tc_W, hc_W, cK_W, pl_W, ts_W, soN_W, so_W]
  | succ i ih => simp only [rnN, ih, nT_W, nH_W, nP_W, kd_W, sr_W, lwb_W, lwe_W, lws_W, pr_W, pk_W, po_W, pp_W, pq_W, pv_W, pm_W, pb_W, tc_W, hc_W, cK_W, pl_W, ts_W, soN_W, so_W]
theorem rn_W : rn (nzW A) = rn A := by funext s r; simp only [rn, nT_W, nH_W, nP_W, kd_W, sr_W, lwb_W, lwe_W, lws_W, pr_W, pk_W, po_W, pp_W, pq_W, pv_W, pm_W, pb_W, tc_W, hc_W, cK_W, pl_W, ts_W, soN_W, so_W, rnN_W]
theorem th_W : th (nzW A) = th A := by funext s r; simp only [th, nT_W, nH_W, nP_W, kd_W, sr_W, lwb_W, lwe_W, lws_W, pr_W, pk_W, po_W, pp_W, pq_W, pv_W, pm_W, pb_W, tc_W, hc_W, cK_W, pl_W, ts_W, soN_W, so_W, rnN_W, rn_W]
theorem nxk_W : nxk (nzW A) = nxk A := by funext s k r a; simp only [nxk, nT_W, nH_W, nP_W, kd_W, sr_W, lwb_W, lwe_W, lws_W, pr_W, pk_W, po_W, pp_W, pq_W, pv_W, pm_W, pb_W, tc_W, hc_W, cK_W, pl_W, ts_W, soN_W, so_W, rnN_W, rn_W, th_W]
theorem nxr_W : nxr (nzW A) = nxr A := by funext s r a; simp only [nxr, nT_W, nH_W, nP_W, kd_W, sr_W, lwb_W, lwe_W, lws_W, pr_W, pk_W, po_W, pp_W, pq_W, pv_W, pm_W, pb_W, tc_W, hc_W, cK_W, pl_W, ts_W, soN_W, so_W, rnN_W, rn_W, th_W, nxk_W]
theorem blk_W : blk (nzW A) = blk A := by funext s r a; simp only [blk, nT_W, nH_W, nP_W, kd_W, sr_W, lwb_W, lwe_W, lws_W, pr_W, pk_W, po_W, pp_W, pq_W, pv_W, pm_W, pb_W, tc_W, hc_W, cK_W, pl_W, ts_W, soN_W, so_W, rnN_W, rn_W, th_W, nxk_W, nxr_W]
theorem hmk_W : hmk (nzW A) s run = hmk A s run := by
  funext i
  induction i with
  | zero => simp only [hmk, nT_W, nH_W, nP_W, kd_W, sr_W, lwb_W, lwe_W, lws_W, pr_W, pk_W, po_W, pp_W, pq_W, pv_W, pm_W, pb_W, tc_W, hc_W, cK_W, pl_W, ts_W, soN_W, so_W, rnN_W, rn_W, th_W, nxk_W, nxr_W, blk_W]
  | succ i ih => simp only [hmk, ih, nT_W, nH_W, nP_W, kd_W, sr_W, lwb_W, lwe_W, lws_W, pr_W, pk_W, po_W, pp_W, pq_W, pv_W, pm_W, pb_W, tc_W, hc_W, cK_W, pl_W, ts_W, soN_W, so_W, rnN_W, rn_W, th_W, nxk_W, nxr_W, blk_W]
theorem tr_W : tr (nzW A) = tr A := by funext f k r; simp only [tr, nT_W, nH_W, nP_W, kd_W, sr_W, lwb_W, lwe_W, lws_W, pr_W, pk_W, po_W, pp_W, pq_W, pv_W, pm_W, pb_W, tc_W, hc_W, cK_W, pl_W, ts_W, soN_W, so_W, rnN_W, rn_W, th_W, nxk_W, nxr_W, blk_W, hmk_W]
theorem nv_W : nv (nzW A) = nv A := by funext f k r a; simp only [nv, nT_W, nH_W, nP_W, kd_W, sr_W, lwb_W, lwe_W, lws_W, pr_W, pk_W, po_W, pp_W, pq_W, pv_W, pm_W, pb_W, tc_W, hc_W, cK_W, pl_W, ts_W, soN_W, so_W, rnN_W, rn_W, th_W, nxk_W, nxr_W, blk_W, hmk_W, tr_W]
theorem RR_W : RR (nzW A) = RR A := by simp only [RR, nT_W, nH_W, nP_W, kd_W, sr_W, lwb_W, lwe_W, lws_W, pr_W, pk_W, po_W, pp_W, pq_W, pv_W, pm_W, pb_W, tc_W, hc_W, cK_W, pl_W, ts_W, soN_W, so_W, rnN_W, rn_W, th_W, nxk_W, nxr_W, blk_W, hmk_W, tr_W, nv_W]
theorem TB_nz (A : AW) (σ : ST) : TB (nzT A) σ ↔ TB A σ := by simp only [TB, nT_T, nH_T, kd_T, sr_T, lwb_T, lwe_T, lws_T, tc_T, hc_T, cK_T, pl_T, ts_T, soN_T, so_T, rnN_T, rn_T, th_T, nxk_T, nxr_T, blk_T, hmk_T, tr_T, nv_T, RR_T]
theorem spn_W : spn (nzW A) S = spn A S := by
  funext i
  induction i with
  | zero => rfl
  | succ i ih => simp only [spn, ih, nT_W, nH_W, nP_W, kd_W, sr_W, lwb_W, lwe_W, lws_W, pr_W, pk_W, po_W, pp_W, pq_W, pv_W, pm_W, pb_W, tc_W, hc_W, cK_W, pl_W, ts_W, soN_W, so_W, rnN_W, rn_W, th_W, nxk_W, nxr_W, blk_W, hmk_W, tr_W, nv_W, RR_W]
theorem nOn_W : nOn (nzW A) S = nOn A S := by
  funext i
  induction i with
  | zero => rfl
  | succ i ih => funext h; simp only [nOn, ih, nT_W, nH_W, nP_W, kd_W, sr_W, lwb_W, lwe_W, lws_W, pr_W, pk_W, po_W, pp_W, pq_W, pv_W, pm_W, pb_W, tc_W, hc_W, cK_W, pl_W, ts_W, soN_W, so_W, rnN_W, rn_W, th_W, nxk_W, nxr_W, blk_W, hmk_W, tr_W, nv_W, RR_W, spn_W]
theorem nOff_W : nOff (nzW A) S = nOff A S := by
  funext i
  induction i with
  | zero => rfl
  | succ i ih => funext h; simp only [nOff, ih, nT_W, nH_W, nP_W, kd_W, sr_W, lwb_W, lwe_W, lws_W, pr_W, pk_W, po_W, pp_W, pq_W, pv_W, pm_W, pb_W, tc_W, hc_W, cK_W, pl_W, ts_W, soN_W, so_W, rnN_W, rn_W, th_W, nxk_W, nxr_W, blk_W, hmk_W, tr_W, nv_W, RR_W, spn_W, nOn_W]
theorem rOK_W : rOK (nzW A) S = rOK A S := by
  funext i
  induction i with
  | zero => rfl
  | succ i ih => funext h r; simp only [rOK, ih, nT_W, nH_W, nP_W, kd_W, sr_W, lwb_W, lwe_W, lws_W, pr_W, pk_W, po_W, pp_W, pq_W, pv_W, pm_W, pb_W, tc_W, hc_W, cK_W, pl_W, ts_W, soN_W, so_W, rnN_W, rn_W, th_W, nxk_W, nxr_W, blk_W, hmk_W, tr_W, nv_W, RR_W, spn_W, nOn_W, nOff_W]
theorem aN_W : aN (nzW A) S = aN A S := by
  funext i
  induction i with
  | zero => rfl
  | succ i ih => funext h a; simp only [aN, ih, nT_W, nH_W, nP_W, kd_W, sr_W, lwb_W, lwe_W, lws_W, pr_W, pk_W, po_W, pp_W, pq_W, pv_W, pm_W, pb_W, tc_W, hc_W, cK_W, pl_W, ts_W, soN_W, so_W, rnN_W, rn_W, th_W, nxk_W, nxr_W, blk_W, hmk_W, tr_W, nv_W, RR_W, spn_W, nOn_W, nOff_W, rOK_W]
theorem sN_W : sN (nzW A) S = sN A S := by
  funext i
  induction i with
  | zero => rfl
  | succ i ih => funext h; simp only [sN, ih, nT_W, nH_W, nP_W, kd_W, sr_W, lwb_W, lwe_W, lws_W, pr_W, pk_W, po_W, pp_W, pq_W, pv_W, pm_W, pb_W, tc_W, hc_W, cK_W, pl_W, ts_W, soN_W, so_W, rnN_W, rn_W, th_W, nxk_W, nxr_W, blk_W, hmk_W, tr_W, nv_W, RR_W, spn_W, nOn_W, nOff_W, rOK_W, aN_W]
theorem br_W : br (nzW A) S = br A S := by
  funext i
  induction i with
  | zero => rfl
  | succ i ih => funext h a; simp only [br, ih, nT_W, nH_W, nP_W, kd_W, sr_W, lwb_W, lwe_W, lws_W, pr_W, pk_W, po_W, pp_W, pq_W, pv_W, pm_W, pb_W, tc_W, hc_W, cK_W, pl_W, ts_W, soN_W, so_W, rnN_W, rn_W, th_W, nxk_W, nxr_W, blk_W, hmk_W, tr_W, nv_W, RR_W, spn_W, nOn_W, nOff_W, rOK_W, aN_W, sN_W]
theorem du_W : du (nzW A) S = du A S := by
  funext i
  induction i with
  | zero => rfl
  | succ i ih => funext h; simp only [du, ih, nT_W, nH_W, nP_W, kd_W, sr_W, lwb_W, lwe_W, lws_W, pr_W, pk_W, po_W, pp_W, pq_W, pv_W, pm_W, pb_W, tc_W, hc_W, cK_W, pl_W, ts_W, soN_W, so_W, rnN_W, rn_W, th_W, nxk_W, nxr_W, blk_W, hmk_W, tr_W, nv_W, RR_W, spn_W, nOn_W, nOff_W, rOK_W, aN_W, sN_W, br_W]
theorem nS_W : nS (nzW A) S = nS A S := by simp only [nS, nT_W, nH_W, nP_W, kd_W, sr_W, lwb_W, lwe_W, lws_W, pr_W, pk_W, po_W, pp_W, pq_W, pv_W, pm_W, pb_W, tc_W, hc_W, cK_W, pl_W, ts_W, soN_W, so_W, rnN_W, rn_W, th_W, nxk_W, nxr_W, blk_W, hmk_W, tr_W, nv_W, RR_W, spn_W, nOn_W, nOff_W, rOK_W, aN_W, sN_W, br_W, du_W]
theorem aX_W : aX (nzW A) S x = aX A S x := by funext h a; simp only [aX, nT_W, nH_W, nP_W, kd_W, sr_W, lwb_W, lwe_W, lws_W, pr_W, pk_W, po_W, pp_W, pq_W, pv_W, pm_W, pb_W, tc_W, hc_W, cK_W, pl_W, ts_W, soN_W, so_W, rnN_W, rn_W, th_W, nxk_W, nxr_W, blk_W, hmk_W, tr_W, nv_W, RR_W, spn_W, nOn_W, nOff_W, rOK_W, aN_W, sN_W, br_W, du_W, nS_W]
theorem sX_W : sX (nzW A) S x = sX A S x := by funext h; simp only [sX, nT_W, nH_W, nP_W, kd_W, sr_W, lwb_W, lwe_W, lws_W, pr_W, pk_W, po_W, pp_W, pq_W, pv_W, pm_W, pb_W, tc_W, hc_W, cK_W, pl_W, ts_W, soN_W, so_W, rnN_W, rn_W, th_W, nxk_W, nxr_W, blk_W, hmk_W, tr_W, nv_W, RR_W, spn_W, nOn_W, nOff_W, rOK_W, aN_W, sN_W, br_W, du_W, nS_W, aX_W]
theorem cst_W : cst (nzW A) S x = cst A S x := by funext h a; simp only [cst, nT_W, nH_W, nP_W, kd_W, sr_W, lwb_W, lwe_W, lws_W, pr_W, pk_W, po_W, pp_W, pq_W, pv_W, pm_W, pb_W, tc_W, hc_W, cK_W, pl_W, ts_W, soN_W, so_W, rnN_W, rn_W, th_W, nxk_W, nxr_W, blk_W, hmk_W, tr_W, nv_W, RR_W, spn_W, nOn_W, nOff_W, rOK_W, aN_W, sN_W, br_W, du_W, nS_W, aX_W, sX_W]
theorem vst_W : vst (nzW A)  = vst A  := by funext s; simp only [vst, nT_W, nH_W, nP_W, kd_W, sr_W, lwb_W, lwe_W, lws_W, pr_W, pk_W, po_W, pp_W, pq_W, pv_W, pm_W, pb_W, tc_W, hc_W, cK_W, pl_W, ts_W, soN_W, so_W, rnN_W, rn_W, th_W, nxk_W, nxr_W, blk_W, hmk_W, tr_W, nv_W, RR_W, spn_W, nOn_W, nOff_W, rOK_W, aN_W, sN_W, br_W, du_W, nS_W, aX_W, sX_W, cst_W]
theorem okf_W : okf (nzW A) S = okf A S := by funext h s f; simp only [okf, nT_W, nH_W, nP_W, kd_W, sr_W, lwb_W, lwe_W, lws_W, pr_W, pk_W, po_W, pp_W, pq_W, pv_W, pm_W, pb_W, tc_W, hc_W, cK_W, pl_W, ts_W, soN_W, so_W, rnN_W, rn_W, th_W, nxk_W, nxr_W, blk_W, hmk_W, tr_W, nv_W, RR_W, spn_W, nOn_W, nOff_W, rOK_W, aN_W, sN_W, br_W, du_W, nS_W, aX_W, sX_W, cst_W, vst_W]
theorem oka_W : oka (nzW A) S x = oka A S x := by funext h s f a; simp only [oka, nT_W, nH_W, nP_W, kd_W, sr_W, lwb_W, lwe_W, lws_W, pr_W, pk_W, po_W, pp_W, pq_W, pv_W, pm_W, pb_W, tc_W, hc_W, cK_W, pl_W, ts_W, soN_W, so_W, rnN_W, rn_W, th_W, nxk_W, nxr_W, blk_W, hmk_W, tr_W, nv_W, RR_W, spn_W, nOn_W, nOff_W, rOK_W, aN_W, sN_W, br_W, du_W, nS_W, aX_W, sX_W, cst_W, vst_W, okf_W]
theorem tos_W : tos (nzW A) S = tos A S := by funext h s f a; simp only [tos, nT_W, nH_W, nP_W, kd_W, sr_W, lwb_W, lwe_W, lws_W, pr_W, pk_W, po_W, pp_W, pq_W, pv_W, pm_W, pb_W, tc_W, hc_W, cK_W, pl_W, ts_W, soN_W, so_W, rnN_W, rn_W, th_W, nxk_W, nxr_W, blk_W, hmk_W, tr_W, nv_W, RR_W, spn_W, nOn_W, nOff_W, rOK_W, aN_W, sN_W, br_W, du_W, nS_W, aX_W, sX_W, cst_W, vst_W, okf_W, oka_W]
theorem ite_cl {α : Type} {p q : Prop} {a a2 b : α} (e : p = q) (e2 : a = a2) : @ite α p (Classical.propDecidable p) a b = @ite α q (Classical.propDecidable q) a2 b := by subst e; subst e2; rfl
theorem EG_W : EG (nzW A) S x = EG A S x := by
  funext h s f a
  exact ite_cl (by simp only [nT_W, nH_W, nP_W, kd_W, sr_W, lwb_W, lwe_W, lws_W, pr_W, pk_W, po_W, pp_W, pq_W, pv_W, pm_W, pb_W, tc_W, hc_W, cK_W, pl_W, ts_W, soN_W, so_W, rnN_W, rn_W, th_W, nxk_W, nxr_W, blk_W, hmk_W, tr_W, nv_W, RR_W, spn_W, nOn_W, nOff_W, rOK_W, aN_W, sN_W, br_W, du_W, nS_W, aX_W, sX_W, cst_W, vst_W, okf_W, oka_W, tos_W]) (by simp only [nT_W, nH_W, nP_W, kd_W, sr_W, lwb_W, lwe_W, lws_W, pr_W, pk_W, po_W, pp_W, pq_W, pv_W, pm_W, pb_W, tc_W, hc_W, cK_W, pl_W, ts_W, soN_W, so_W, rnN_W, rn_W, th_W, nxk_W, nxr_W, blk_W, hmk_W, tr_W, nv_W, RR_W, spn_W, nOn_W, nOff_W, rOK_W, aN_W, sN_W, br_W, du_W, nS_W, aX_W, sX_W, cst_W, vst_W, okf_W, oka_W, tos_W])
theorem glS_W : glS (nzW A) S = glS A S := by funext s; simp only [glS, nT_W, nH_W, nP_W, kd_W, sr_W, lwb_W, lwe_W, lws_W, pr_W, pk_W, po_W, pp_W, pq_W, pv_W, pm_W, pb_W, tc_W, hc_W, cK_W, pl_W, ts_W, soN_W, so_W, rnN_W, rn_W, th_W, nxk_W, nxr_W, blk_W, hmk_W, tr_W, nv_W, RR_W, spn_W, nOn_W, nOff_W, rOK_W, aN_W, sN_W, br_W, du_W, nS_W, aX_W, sX_W, cst_W, vst_W, okf_W, oka_W, tos_W, EG_W]
theorem Dd_W : Dd (nzW A) S = Dd A S := by funext h t; simp only [Dd, nT_W, nH_W, nP_W, kd_W, sr_W, lwb_W, lwe_W, lws_W, pr_W, pk_W, po_W, pp_W, pq_W, pv_W, pm_W, pb_W, tc_W, hc_W, cK_W, pl_W, ts_W, soN_W, so_W, rnN_W, rn_W, th_W, nxk_W, nxr_W, blk_W, hmk_W, tr_W, nv_W, RR_W, spn_W, nOn_W, nOff_W, rOK_W, aN_W, sN_W, br_W, du_W, nS_W, aX_W, sX_W, cst_W, vst_W, okf_W, oka_W, tos_W, EG_W, glS_W]
theorem LW_W : LW (nzW A)  = LW A  := by simp only [LW, nT_W, nH_W, nP_W, kd_W, sr_W, lwb_W, lwe_W, lws_W, pr_W, pk_W, po_W, pp_W, pq_W, pv_W, pm_W, pb_W, tc_W, hc_W, cK_W, pl_W, ts_W, soN_W, so_W, rnN_W, rn_W, th_W, nxk_W, nxr_W, blk_W, hmk_W, tr_W, nv_W, RR_W, spn_W, nOn_W, nOff_W, rOK_W, aN_W, sN_W, br_W, du_W, nS_W, aX_W, sX_W, cst_W, vst_W, okf_W, oka_W, tos_W, EG_W, glS_W, Dd_W]
theorem lwc_W : lwc (nzW A)  = lwc A  := by funext t; simp only [lwc, nT_W, nH_W, nP_W, kd_W, sr_W, lwb_W, lwe_W, lws_W, pr_W, pk_W, po_W, pp_W, pq_W, pv_W, pm_W, pb_W, tc_W, hc_W, cK_W, pl_W, ts_W, soN_W, so_W, rnN_W, rn_W, th_W, nxk_W, nxr_W, blk_W, hmk_W, tr_W, nv_W, RR_W, spn_W, nOn_W, nOff_W, rOK_W, aN_W, sN_W, br_W, du_W, nS_W, aX_W, sX_W, cst_W, vst_W, okf_W, oka_W, tos_W, EG_W, glS_W, Dd_W, LW_W]
theorem stc_W : stc (nzW A)  = stc A  := by funext l f; simp only [stc, nT_W, nH_W, nP_W, kd_W, sr_W, lwb_W, lwe_W, lws_W, pr_W, pk_W, po_W, pp_W, pq_W, pv_W, pm_W, pb_W, tc_W, hc_W, cK_W, pl_W, ts_W, soN_W, so_W, rnN_W, rn_W, th_W, nxk_W, nxr_W, blk_W, hmk_W, tr_W, nv_W, RR_W, spn_W, nOn_W, nOff_W, rOK_W, aN_W, sN_W, br_W, du_W, nS_W, aX_W, sX_W, cst_W, vst_W, okf_W, oka_W, tos_W, EG_W, glS_W, Dd_W, LW_W, lwc_W]
theorem FP_W : FP (nzW A) S x = FP A S x := by funext h s; simp only [FP, nT_W, nH_W, nP_W, kd_W, sr_W, lwb_W, lwe_W, lws_W, pr_W, pk_W, po_W, pp_W, pq_W, pv_W, pm_W, pb_W, tc_W, hc_W, cK_W, pl_W, ts_W, soN_W, so_W, rnN_W, rn_W, th_W, nxk_W, nxr_W, blk_W, hmk_W, tr_W, nv_W, RR_W, spn_W, nOn_W, nOff_W, rOK_W, aN_W, sN_W, br_W, du_W, nS_W, aX_W, sX_W, cst_W, vst_W, okf_W, oka_W, tos_W, EG_W, glS_W, Dd_W, LW_W, lwc_W, stc_W]
theorem LE_W : LE (nzW A) S x = LE A S x := by simp only [LE, nT_W, nH_W, nP_W, kd_W, sr_W, lwb_W, lwe_W, lws_W, pr_W, pk_W, po_W, pp_W, pq_W, pv_W, pm_W, pb_W, tc_W, hc_W, cK_W, pl_W, ts_W, soN_W, so_W, rnN_W, rn_W, th_W, nxk_W, nxr_W, blk_W, hmk_W, tr_W, nv_W, RR_W, spn_W, nOn_W, nOff_W, rOK_W, aN_W, sN_W, br_W, du_W, nS_W, aX_W, sX_W, cst_W, vst_W, okf_W, oka_W, tos_W, EG_W, glS_W, Dd_W, LW_W, lwc_W, stc_W, FP_W]
theorem KPc_W : KPc (nzW A) S x = KPc A S x := by funext h s; simp only [KPc, nT_W, nH_W, nP_W, kd_W, sr_W, lwb_W, lwe_W, lws_W, pr_W, pk_W, po_W, pp_W, pq_W, pv_W, pm_W, pb_W, tc_W, hc_W, cK_W, pl_W, ts_W, soN_W, so_W, rnN_W, rn_W, th_W, nxk_W, nxr_W, blk_W, hmk_W, tr_W, nv_W, RR_W, spn_W, nOn_W, nOff_W, rOK_W, aN_W, sN_W, br_W, du_W, nS_W, aX_W, sX_W, cst_W, vst_W, okf_W, oka_W, tos_W, EG_W, glS_W, Dd_W, LW_W, lwc_W, stc_W, FP_W, LE_W]
theorem CK_W : CK (nzW A) S x = CK A S x := by
  funext h i
  exact ite_cl (by simp only [nT_W, nH_W, nP_W, kd_W, sr_W, lwb_W, lwe_W, lws_W, pr_W, pk_W, po_W, pp_W, pq_W, pv_W, pm_W, pb_W, tc_W, hc_W, cK_W, pl_W, ts_W, soN_W, so_W, rnN_W, rn_W, th_W, nxk_W, nxr_W, blk_W, hmk_W, tr_W, nv_W, RR_W, spn_W, nOn_W, nOff_W, rOK_W, aN_W, sN_W, br_W, du_W, nS_W, aX_W, sX_W, cst_W, vst_W, okf_W, oka_W, tos_W, EG_W, glS_W, Dd_W, LW_W, lwc_W, stc_W, FP_W, LE_W, KPc_W]) (by simp only [nT_W, nH_W, nP_W, kd_W, sr_W, lwb_W, lwe_W, lws_W, pr_W, pk_W, po_W, pp_W, pq_W, pv_W, pm_W, pb_W, tc_W, hc_W, cK_W, pl_W, ts_W, soN_W, so_W, rnN_W, rn_W, th_W, nxk_W, nxr_W, blk_W, hmk_W, tr_W, nv_W, RR_W, spn_W, nOn_W, nOff_W, rOK_W, aN_W, sN_W, br_W, du_W, nS_W, aX_W, sX_W, cst_W, vst_W, okf_W, oka_W, tos_W, EG_W, glS_W, Dd_W, LW_W, lwc_W, stc_W, FP_W, LE_W, KPc_W])
theorem NB_W : NB (nzW A) S x = NB A S x := by funext k s; simp only [NB, nT_W, nH_W, nP_W, kd_W, sr_W, lwb_W, lwe_W, lws_W, pr_W, pk_W, po_W, pp_W, pq_W, pv_W, pm_W, pb_W, tc_W, hc_W, cK_W, pl_W, ts_W, soN_W, so_W, rnN_W, rn_W, th_W, nxk_W, nxr_W, blk_W, hmk_W, tr_W, nv_W, RR_W, spn_W, nOn_W, nOff_W, rOK_W, aN_W, sN_W, br_W, du_W, nS_W, aX_W, sX_W, cst_W, vst_W, okf_W, oka_W, tos_W, EG_W, glS_W, Dd_W, LW_W, lwc_W, stc_W, FP_W, LE_W, KPc_W, CK_W]
theorem trL_W : trL (nzW A)  = trL A  := by funext l; simp only [trL, nT_W, nH_W, nP_W, kd_W, sr_W, lwb_W, lwe_W, lws_W, pr_W, pk_W, po_W, pp_W, pq_W, pv_W, pm_W, pb_W, tc_W, hc_W, cK_W, pl_W, ts_W, soN_W, so_W, rnN_W, rn_W, th_W, nxk_W, nxr_W, blk_W, hmk_W, tr_W, nv_W, RR_W, spn_W, nOn_W, nOff_W, rOK_W, aN_W, sN_W, br_W, du_W, nS_W, aX_W, sX_W, cst_W, vst_W, okf_W, oka_W, tos_W, EG_W, glS_W, Dd_W, LW_W, lwc_W, stc_W, FP_W, LE_W, KPc_W, CK_W, NB_W]
theorem eO_W : eO (nzW A) S x h = eO A S x h := by funext p; simp only [eO, nT_W, nH_W, nP_W, kd_W, sr_W, lwb_W, lwe_W, lws_W, pr_W, pk_W, po_W, pp_W, pq_W, pv_W, pm_W, pb_W, tc_W, hc_W, cK_W, pl_W, ts_W, soN_W, so_W, rnN_W, rn_W, th_W, nxk_W, nxr_W, blk_W, hmk_W, tr_W, nv_W, RR_W, spn_W, nOn_W, nOff_W, rOK_W, aN_W, sN_W, br_W, du_W, nS_W, aX_W, sX_W, cst_W, vst_W, okf_W, oka_W, tos_W, EG_W, glS_W, Dd_W, LW_W, lwc_W, stc_W, FP_W, LE_W, KPc_W, CK_W, NB_W, trL_W]
theorem AL_W : AL (nzW A) = AL A := by simp only [AL, pb_W, nP_W]
theorem nSt_W : nSt (nzW A) S = nSt A S := by rw [nSt_eq, nSt_eq, nS_W, LW_W]
theorem GX_W {q : Nat} {σ : ST} : GX q (nzW A) S x σ ↔ GX q A S x σ := by simp only [GX, nT_W, nH_W, nP_W, kd_W, sr_W, lwb_W, lwe_W, lws_W, pr_W, pk_W, po_W, pp_W, pq_W, pv_W, pm_W, pb_W, tc_W, hc_W, cK_W, pl_W, ts_W, soN_W, so_W, rnN_W, rn_W, th_W, nxk_W, nxr_W, blk_W, hmk_W, tr_W, nv_W, RR_W, spn_W, nOn_W, nOff_W, rOK_W, aN_W, sN_W, br_W, du_W, nS_W, aX_W, sX_W, cst_W, vst_W, okf_W, oka_W, tos_W, EG_W, glS_W, Dd_W, LW_W, lwc_W, stc_W, FP_W, LE_W, KPc_W, CK_W, NB_W, trL_W, eO_W, AL_W, nSt_W]
theorem FD_W {q : Nat} {σ : ST} : FD q (nzW A) S σ ↔ FD q A S σ := by simp only [FD, nT_W, nH_W, nP_W, kd_W, sr_W, lwb_W, lwe_W, lws_W, pr_W, pk_W, po_W, pp_W, pq_W, pv_W, pm_W, pb_W, tc_W, hc_W, cK_W, pl_W, ts_W, soN_W, so_W, rnN_W, rn_W, th_W, nxk_W, nxr_W, blk_W, hmk_W, tr_W, nv_W, RR_W, spn_W, nOn_W, nOff_W, rOK_W, aN_W, sN_W, br_W, du_W, nS_W, aX_W, sX_W, cst_W, vst_W, okf_W, oka_W, tos_W, EG_W, glS_W, Dd_W, LW_W, lwc_W, stc_W, FP_W, LE_W, KPc_W, CK_W, NB_W, trL_W, eO_W, AL_W, nSt_W]
theorem NT_W {d : Nat} {σ : ST} {P : (Nat → Nat → Nat → Prop) → Prop} : NT d h σ P (nzW A) ↔ NT d h σ P A := by simp only [NT, nT_W, nH_W, nP_W, kd_W, sr_W, lwb_W, lwe_W, lws_W, pr_W, pk_W, po_W, pp_W, pq_W, pv_W, pm_W, pb_W, tc_W, hc_W, cK_W, pl_W, ts_W, soN_W, so_W, rnN_W, rn_W, th_W, nxk_W, nxr_W, blk_W, hmk_W, tr_W, nv_W, RR_W, spn_W, nOn_W, nOff_W, rOK_W, aN_W, sN_W, br_W, du_W, nS_W, aX_W, sX_W, cst_W, vst_W, okf_W, oka_W, tos_W, EG_W, glS_W, Dd_W, LW_W, lwc_W, stc_W, FP_W, LE_W, KPc_W, CK_W, NB_W, trL_W, eO_W, AL_W, nSt_W]
theorem NW_nz (A : AW) (σ : ST) : NW (nzW A) σ ↔ NW A σ := by simp only [NW, KPT, GX_W, FD_W, NT_W, nT_W, nH_W, nP_W, kd_W, sr_W, lwb_W, lwe_W, lws_W, pr_W, pk_W, po_W, pp_W, pq_W, pv_W, pm_W, pb_W, tc_W, hc_W, cK_W, pl_W, ts_W, soN_W, so_W, rnN_W, rn_W, th_W, nxk_W, nxr_W, blk_W, hmk_W, tr_W, nv_W, RR_W, spn_W, nOn_W, nOff_W, rOK_W, aN_W, sN_W, br_W, du_W, nS_W, aX_W, sX_W, cst_W, vst_W, okf_W, oka_W, tos_W, EG_W, glS_W, Dd_W, LW_W, lwc_W, stc_W, FP_W, LE_W, KPc_W, CK_W, NB_W, trL_W, eO_W, AL_W, nSt_W]
end
