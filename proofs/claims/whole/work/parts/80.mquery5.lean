section
/-! ===== the reference's questions: in how many hours, the loops ===== -/
variable {A : AW} {σ : ST} {S h b p q : Nat} {x : Nat × Nat}
def F5 (y : Nat) : Prop := y = 284 ∨ y = 285
def bArg (b : Nat) (x1 x2 : Int32) : Prop := (b < 10 ∧ x1 = nI b) ∨ (10 ≤ b ∧ b < 16 ∧ x1 = -1 ∧ x2 = nI (b - 10))
theorem t_often255 {k : Int32 → Int32 → Int32 → Int32 → Int32 → Int32 → Int32 → ST → Option (Int32 × ST)} {x1 x2 x3 x4 x5 : Int32} {s0 e t d : Nat} (hs : s0 < 1024) (he : e < 28) (ht : t < 1024) (h280 : σ.1 280 e = nI t) : f_X12_often_255 k x1 x2 x3 x4 x5 (nI s0) (nI e) (nI d) σ = k x1 x2 x3 x4 x5 (nI s0) (nI (e + 1)) (setI (setI σ 284 t (if σ.1 282 s0 + nI d < σ.1 284 t then σ.1 282 s0 + nI d else σ.1 284 t)) 285 t (if σ.1 285 t < σ.1 283 s0 + nI d then σ.1 283 s0 + nI d else σ.1 285 t)) := by
  unfold f_X12_often_255
  rw [rdI_ok he (by decide), h280]
  simp only [bind_s]
  rw [rdI_ok ht (by decide), rdI_ok hs (by decide)]
  simp only [bind_s]
  rw [wrI_ok ht (by decide)]
  simp only [bind_s]
  rw [rdI_ok he (by decide), I_ne (Or.inl (by decide)), h280]
  simp only [bind_s]
  rw [rdI_ok ht (by decide), rdI_ok hs (by decide), I_ne (Or.inl (by decide)), I_ne (Or.inl (by decide))]
  simp only [bind_s]
  rw [wrI_ok ht (by decide)]
  simp only [bind_s]
  rw [show nI e + nI 1 = nI (e + 1) from nI_add _ _]
theorem t_often157 (a : AOK A) (v : SV A S x σ) (hL : LE A S x < 100000000) (hh : h < 12) {s0 : Nat} (hs : s0 < 1024) (hp : p < 12) (hq : q < 12) {x1 x2 : Int32} (hb : bArg b x1 x2) (hr : ∃ m, Rq A S x b p q h s0 m) (vs : vst A s0) (hfl : s0 / 256 < 2 ^ nS A S) (d1 : EdA A S x h s0 (EL A S x h s0) σ) (mm : MM (Rq A S x b p q h s0) (σ.1 282 s0) (σ.1 283 s0)) (m0 : ∀ t, t < 1024 → MM (PR A S x b p q h s0 [] t) (σ.1 284 t) (σ.1 285 t)) {k : Int32 → Int32 → Int32 → Int32 → Int32 → Int32 → ST → Option (Int32 × ST)} : ∃ u, f_X12_often_157 k FU x1 x2 (nI p) (nI q) (nI h) (nI s0) (nI 0) σ = k x1 x2 (nI p) (nI q) (nI h) (nI s0) u ∧ Fr F5 σ u ∧ ∀ t, t < 1024 → MM (PR A S x b p q h (s0 + 1) [] t) (u.1 284 t) (u.1 285 t) := by
  have hl28 := EL_len (S := S) (x := x) (h := h) (s := s0) a
  have hlt := Rq_lt a (by omega) hr.choose_spec
  refine Exists.elim (loopE (fun n e u => f_X12_often_157 k n x1 x2 (nI p) (nI q) (nI h) (nI s0) (nI e) u) (EL A S x h s0).length (fun e u => Fr F5 σ u ∧ ∀ t, t < 1024 → MM (PR A S x b p q h s0 ((EL A S x h s0).take e) t) (u.1 284 t) (u.1 285 t)) (fun u => k x1 x2 (nI p) (nI q) (nI h) (nI s0) u) ?_ ?_ FU 0 σ (by rw [FU_eq]; omega) (Nat.zero_le _) ⟨Fr.rf _ _, by rw [List.take_zero]; exact m0⟩) ?_
  · rintro n e u he ⟨hF, hm⟩ Q hQ
    have FQ : Fq F5 σ u := ⟨hF.mono (fun y q => Or.inr q), fun k _ => hF.I (fun q => by rcases q with q | q <;> omega) k⟩
    have v1 := SV_fq v FQ (fun y hy => by rcases hy with q | q <;> omega)
    have d2 := EdA_fr d1 hF (fun y hy => by rcases hy with q | q <;> omega)
    have hil := t_isLeast a v1 hL hh hs hlt d2 he
    have e40' : u.1 247 40 = nI (EL A S x h s0).length := d2.1
    obtain ⟨q1, q2, q3, -⟩ := d2.2 e he
    have hE := EL_at (S := S) (x := x) (h := h) (s := s0) a he
    have htg : TG A S x h s0 ((EL A S x h s0).getD e (0, 0)).1 ((EL A S x h s0).getD e (0, 0)).2 = tos A S h s0 ((EL A S x h s0).getD e (0, 0)).1 ((EL A S x h s0).getD e (0, 0)).2 := tg_of hE
    rw [htg] at q3
    have q1' : u.1 278 e = nI (((EL A S x h s0).getD e (0, 0)).1 * 256 + s0 % 256) := q1
    have q2' : u.1 279 e = nI ((EL A S x h s0).getD e (0, 0)).2 := q2
    have q3' : u.1 280 e = nI (tos A S h s0 ((EL A S x h s0).getD e (0, 0)).1 ((EL A S x h s0).getD e (0, 0)).2) := q3
    have hst := fun t n => PR_step (b := b) (p := p) (q := q) (t := t) (n := n) a he rfl
    clear q1 q2 q3 htg
    generalize (EL A S x h s0).getD e (0, 0) = z at *
    have gE := EG_ok a h s0 _ _ _ _ hE
    have he28 : e < 28 := by omega
    have e282 : u.1 282 s0 = σ.1 282 s0 := hF.I (fun q => by rcases q with q | q <;> omega) _
    have e283 : u.1 283 s0 = σ.1 283 s0 := hF.I (fun q => by rcases q with q | q <;> omega) _
    have hel : nI e < nI (EL A S x h s0).length := (nI_ltI (by omega) (by omega)).mpr he
    show ∃ y, f_X12_often_157 k (n + 1) x1 x2 (nI p) (nI q) (nI h) (nI s0) (nI e) u = f_X12_often_157 k n x1 x2 (nI p) (nI q) (nI h) (nI s0) (nI (e + 1)) y ∧ _
    rw [f_X12_often_157, e40', if_pos hel, hil]
    rw [bd2_s]
    cases hob : obX A S x h s0 z.1 z.2 with
    | false =>
      rw [if_pos (show b2 false = 0 by decide), nI_add]
      exact ⟨u, rfl, hQ _ ⟨hF, fun t ht => MM_same (hm t ht) fun n => (hst t n).trans ⟨fun r => r.resolve_right (fun r => by rw [hob] at r; cases r.1), Or.inl⟩⟩⟩
    | true =>
      rw [if_neg (show ¬ b2 true = 0 by decide)]
      have key : (if x1 < 0 then (rdI u 279 28 (nI e)).bind fun v22 => if v22 = x2 then f_X12_often_230 (f_X12_often_157 k n) x1 x2 (nI p) (nI q) (nI h) (nI s0) (nI e) (nI 1) u else f_X12_often_230 (f_X12_often_157 k n) x1 x2 (nI p) (nI q) (nI h) (nI s0) (nI e) (nI 0) u else (rdI u 278 28 (nI e)).bind fun v33 => (rdI u 267 1024 v33).bind fun v34 => if ((v34 >>> (x1 &&& 31)) &&& (nI 1)) = (nI 1) then f_X12_often_230 (f_X12_often_157 k n) x1 x2 (nI p) (nI q) (nI h) (nI s0) (nI e) (nI 1) u else f_X12_often_230 (f_X12_often_157 k n) x1 x2 (nI p) (nI q) (nI h) (nI s0) (nI e) (nI 0) u) = f_X12_often_230 (f_X12_often_157 k n) x1 x2 (nI p) (nI q) (nI h) (nI s0) (nI e) (b2 (mkr A b s0 z.1 z.2)) u := by
        rcases hb with ⟨hb, rfl⟩ | ⟨hb, hb2, rfl, rfl⟩
        · have hf4 := F4 a
          have gg := (EG_iff.mp hE).1
          have hqf : z.1 < 4 := Nat.lt_of_lt_of_le gg.2.1.1 hf4
          have hmm : (z.1 * 256 + s0 % 256) % 32 = s0 % 32 ∧ (z.1 * 256 + s0 % 256) / 32 % 8 = s0 / 32 % 8 ∧ (z.1 * 256 + s0 % 256) / 256 = z.1 := by omega
          have hvm : VM A (z.1 * 256 + s0 % 256) := by
            unfold VM
            rw [hmm.1, hmm.2.1, hmm.2.2]
            exact ⟨vs.1, gg.2.1.1, vs.2⟩
          have hsm : z.1 * 256 + s0 % 256 < 1024 := by omega
          have tb := ((v1.1.2.2.1 _ hsm).2 hvm).1
          have hso : som A (z.1 * 256 + s0 % 256) = so A z.1 (s0 % 32) (s0 / 32 % 8) := by unfold som; rw [hmm.1, hmm.2.1, hmm.2.2]
          rw [hso] at tb
          have hsl : so A z.1 (s0 % 32) (s0 / 32 % 8) < 1024 := so_lt a
          have hm0 : mkr A b s0 z.1 z.2 = (so A z.1 (s0 % 32) (s0 / 32 % 8)).testBit b := by unfold mkr; rw [if_pos hb]
          have hnn : ¬ nI b < 0 := mq5 ⟨b, by omega⟩
          rw [if_neg hnn, hm0, rdI_ok he28 (by decide), q1']
          simp only [bind_s]
          rw [rdI_ok hsm (by decide), tb]
          simp only [bind_s]
          cases hbit : (so A z.1 (s0 % 32) (s0 / 32 % 8)).testBit b with
          | true => simp (disch := omega) only [bind_s, bd2_s, rdT_ok, ixR_ok, wrT_none, pfI_s, pfJ_s, pfZ_0, pfZ_1, zr_b2, nl_n, nl_s, nI_add, nI_mul, nI_sub, nI_shlm, nI_shrd, nI_or8, nI_or8r, nI_or5r, nI_and255, nI_and31, nI_and7, nI_and1, nI_andK, nI_clr, Nat.one_mul, nI_eqz, nI_eqq, nI_ltq, nI_ltz, nI_zlt, nI_nm1, nI_m2, m1_z, m1_lt0, m1_m1, b2_z, nI1_z, nI0_z, tb_0, tb_1, ite_nI, I_at, I_ne, J_at, J_ne, J_setI, I_setJ, ↓reduceIte, ltN_T, ltN_F, eqN_T, eqN_F, pow8, pow5, b2_f0, b2_t0, reduceCtorEq, Bool.false_eq_true, Bool.true_eq_false, eq_self, false_and, true_and, and_false, and_true, not_false_eq_true, not_true_eq_false, hbit]; rw [b2_1]
          | false => simp (disch := omega) only [bind_s, bd2_s, rdT_ok, ixR_ok, wrT_none, pfI_s, pfJ_s, pfZ_0, pfZ_1, zr_b2, nl_n, nl_s, nI_add, nI_mul, nI_sub, nI_shlm, nI_shrd, nI_or8, nI_or8r, nI_or5r, nI_and255, nI_and31, nI_and7, nI_and1, nI_andK, nI_clr, Nat.one_mul, nI_eqz, nI_eqq, nI_ltq, nI_ltz, nI_zlt, nI_nm1, nI_m2, m1_z, m1_lt0, m1_m1, b2_z, nI1_z, nI0_z, tb_0, tb_1, ite_nI, I_at, I_ne, J_at, J_ne, J_setI, I_setJ, ↓reduceIte, ltN_T, ltN_F, eqN_T, eqN_F, pow8, pow5, b2_f0, b2_t0, reduceCtorEq, Bool.false_eq_true, Bool.true_eq_false, eq_self, false_and, true_and, and_false, and_true, not_false_eq_true, not_true_eq_false, hbit]; rw [b2_0]
        · have hm0 : mkr A b s0 z.1 z.2 = decide (b = 10 + z.2) := by unfold mkr; rw [if_neg (by omega)]
          have hz7 := gE.2.2.2.1
          rw [if_pos (show (-1 : Int32) < 0 by decide), hm0, rdI_ok he28 (by decide), q2']
          simp only [bind_s]
          by_cases w : z.2 = b - 10
          · rw [if_pos (congrArg nI w), decide_eq_true (show b = 10 + z.2 by omega)]; rfl
          · rw [if_neg (fun r => w ((nI_eq (by omega) (by omega)).mp r)), decide_eq_false (show ¬ b = 10 + z.2 by omega)]; rfl
      rw [key, t_often230 hp hq hh, t_often255 hs he28 gE.2.1 q3']
      refine ⟨_, rfl, hQ _ ⟨(hF.tr (Fr_setI (Or.inl rfl))).tr (Fr_setI (Or.inr rfl)), fun t ht => ?_⟩⟩
      by_cases c : t = tos A S h s0 z.1 z.2
      · subst c
        rw [I_ne (Or.inl (by decide)), I_at, I_at, e282, e283]
        refine MM_add (hm _ ht) mm hr (fun m r => ?_) (fun n => (hst _ n).trans (or_congr Iff.rfl ⟨fun w => w.2.2, fun w => ⟨hob, rfl, w⟩⟩))
        have := Rq_le r
        split <;> omega
      · rw [I_ne (Or.inl (by decide)), I_ne (Or.inr c), I_ne (Or.inr c), I_ne (Or.inl (by decide))]
        exact MM_same (hm t ht) fun n => (hst t n).trans ⟨fun r => r.resolve_right (fun r => c r.2.1), Or.inl⟩
  · rintro n u ⟨hF, -⟩
    have e40' : u.1 247 40 = nI (EL A S x h s0).length := (EdA_fr d1 hF (fun y hy => by rcases hy with q | q <;> omega)).1
    show f_X12_often_157 k (n + 1) _ _ _ _ _ _ (nI (EL A S x h s0).length) u = _
    rw [f_X12_often_157, e40', if_neg (fun w => Nat.lt_irrefl _ ((nI_ltI (by omega) (by omega)).mp w))]
  · rintro u ⟨e, hF, hm⟩
    exact ⟨u, e, hF, fun t ht => MM_same (hm t ht) fun n => PR_end a⟩
end
