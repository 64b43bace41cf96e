section
/-! ===== the class finds the least price ===== -/
variable {A : AW} {σ : ST} {d S h : Nat} {x : Nat × Nat} {C : Nat → Nat → Nat}
theorem Mn_un2 {N : Nat} {P Q : Nat → Prop} {v w : Nat} (e : ∀ y, y < N → (P y ↔ Q y)) (h : Mn N P v) (g : Mn N Q w) : v = w := by
  obtain ⟨a1, a2, a3⟩ := h
  obtain ⟨b1, b2, b3⟩ := g
  by_cases hv : v < N
  · have := b2 v ((e v hv).mp (a3 hv))
    by_cases hw : w < N
    · have := a2 w ((e w hw).mpr (b3 hw)); omega
    · omega
  · by_cases hw : w < N
    · have := a2 w ((e w hw).mpr (b3 hw)); omega
    · omega
noncomputable def FP (A : AW) (S : Nat) (x : Nat × Nat) (h s : Nat) : Nat := Fw (prn (EG A S x) (Dd A S)) (2 ^ cK A 1) h s
noncomputable def LE (A : AW) (S : Nat) (x : Nat × Nat) : Nat := Le (EG A S x) (2 ^ cK A 1) (glS A S)
def cF (v : Nat) : Nat := if v < NV then v else 1048576
theorem FP_99 (a : AOK A) {s : Nat} (hf : FP A S x h s < NV) : FP A S x h s ≤ 99 * h := Fw_99 (prn_ok (EG_ok a)) h s hf
theorem cF_FP (a : AOK A) (hh : h ≤ 12) (s : Nat) : cF (FP A S x h s) = 1048576 ∨ cF (FP A S x h s) ≤ 2000 := by
  unfold cF
  split
  · rename_i w
    have := FP_99 a w
    right; omega
  · left; rfl
theorem nSt_ex (A : AW) (S : Nat) : ∃ n, n = (2 ^ nS A S - 1) * 256 + LW A := ⟨_, rfl⟩
noncomputable def nSt (A : AW) (S : Nat) : Nat := Classical.choose (nSt_ex A S)
theorem nSt_eq (A : AW) (S : Nat) : nSt A S = (2 ^ nS A S - 1) * 256 + LW A := Classical.choose_spec (nSt_ex A S)
theorem nSt_le (a : AOK A) : nSt A S ≤ 1024 := by
  have := S4 (S := S) a
  have := LW_256 a
  rw [nSt_eq]; omega
theorem ix_lt {fl low : Nat} (h1 : fl < 2 ^ nS A S) (h2 : low < LW A) : fl * 256 + low < nSt A S := by rw [nSt_eq]; omega
theorem ix_of (a : AOK A) {i : Nat} (h1 : i < nSt A S) : i / 256 < 2 ^ nS A S := by
  have := Nat.two_pow_pos (nS A S)
  have := LW_256 a
  rw [nSt_eq] at h1
  omega
/-- steps alike from looks that go on alike -/
theorem edc_rep (a : AOK A) {low fl f g act t c : Nat} (hl : low < LW A) (hfl : fl < 2 ^ nS A S) (hf : f < 2 ^ cK A 0) (hg : g < 2 ^ cK A 0) (okf : okB A S h f (low % 2 ^ cK A 1) (low / 2 ^ cK A 1) = true) (okg : okB A S h g (low % 2 ^ cK A 1) (low / 2 ^ cK A 1) = true) (ht : trL A (f * 256 + low) / 1024 = trL A (g * 256 + low) / 1024) (e : edc A S x h low fl f act = some (t, c)) : edc A S x h low fl g act = some (t, c) := by
  have hw := LW_256 a
  have tl : ∀ f, trL A (f * 256 + low) = tr A f (low % 2 ^ cK A 1) (low / 2 ^ cK A 1) := fun f => by
    unfold trL
    rw [(lk_at (f := f) (show low < 256 by omega)).1, (lk_at (f := f) (show low < 256 by omega)).2]
  rw [tl, tl] at ht
  have hbit : ∀ j, (tr A f (low % 2 ^ cK A 1) (low / 2 ^ cK A 1)).testBit (10 + j) = (tr A g (low % 2 ^ cK A 1) (low / 2 ^ cK A 1)).testBit (10 + j) := by
    intro j
    rw [← Nat.testBit_shiftRight, ← Nat.testBit_shiftRight, Nat.shiftRight_eq_div_pow, Nat.shiftRight_eq_div_pow]
    show (_ / 1024).testBit j = (_ / 1024).testBit j
    rw [ht]
  have hrn : rn A (so A f (low % 2 ^ cK A 1) (low / 2 ^ cK A 1)) (low / 2 ^ cK A 1) = rn A (so A g (low % 2 ^ cK A 1) (low / 2 ^ cK A 1)) (low / 2 ^ cK A 1) := by
    rw [← tr_rn a, ← tr_rn a]
    exact hbit 6
  have hhc : act < nH A → hc A act (so A f (low % 2 ^ cK A 1) (low / 2 ^ cK A 1)) (low / 2 ^ cK A 1) = hc A act (so A g (low % 2 ^ cK A 1) (low / 2 ^ cK A 1)) (low / 2 ^ cK A 1) := fun ha => by
    rw [← tr_hc a ha, ← tr_hc a ha]
    exact hbit act
  obtain ⟨e1, e2, e3, rfl, rfl⟩ := (edc_iff a hl hfl hf okf).mp e
  refine (edc_iff a hl hfl hg okg).mpr ⟨e1, ?_, e3, ?_, rfl⟩
  · unfold blk at e2 ⊢
    by_cases ha : act < nH A
    · rw [← hhc ha]; exact e2
    · rw [decide_eq_false ha]; rfl
  · obtain ⟨s1, s2, s3, -⟩ := stc_at (fl := fl) a hl
    unfold tos
    rw [s1, s2, s3]
    have k1 : nxk A (so A f (low % 2 ^ cK A 1) (low / 2 ^ cK A 1)) (low % 2 ^ cK A 1) (low / 2 ^ cK A 1) act = nxk A (so A g (low % 2 ^ cK A 1) (low / 2 ^ cK A 1)) (low % 2 ^ cK A 1) (low / 2 ^ cK A 1) act := by
      unfold nxk
      by_cases ha : act < nH A
      · rw [hhc ha]
      · rw [if_neg (fun w => ha w.1), if_neg (fun w => ha w.1)]
    have k2 : nxr A (so A f (low % 2 ^ cK A 1) (low / 2 ^ cK A 1)) (low / 2 ^ cK A 1) act = nxr A (so A g (low % 2 ^ cK A 1) (low / 2 ^ cK A 1)) (low / 2 ^ cK A 1) act := by
      have hth : th A (so A f (low % 2 ^ cK A 1) (low / 2 ^ cK A 1)) (low / 2 ^ cK A 1) = th A (so A g (low % 2 ^ cK A 1) (low / 2 ^ cK A 1)) (low / 2 ^ cK A 1) := by
        unfold th
        rw [hrn]
      unfold nxr
      rw [hth]
      by_cases ha : act < nH A
      · rw [hhc ha]
      · rw [if_neg (fun w => ha w.1), if_neg (fun w => ha w.1)]
    rw [k1, k2]
theorem edc_v (a : AOK A) {low fl f act t c : Nat} (e : edc A S x h low fl f act = some (t, c)) (hl : low < LW A) (hfl : fl < 2 ^ nS A S) : vst A t ∧ t / 256 < 2 ^ nS A S ∧ c ≤ 99 := by
  obtain ⟨s1, s2, s3, s4⟩ := stc_at (fl := fl) a hl
  obtain ⟨e, -⟩ := prn_iff.mp e
  obtain ⟨⟨⟨v, hf⟩, -, -⟩, rfl, rfl⟩ := EG_iff.mp e
  exact ⟨tos_v a v hf, (tos_at a v hf).2.2.2, cst_le a _ _⟩
/-- all of it: the prices an hour later -/
def PF (A : AW) (S : Nat) (x : Nat × Nat) (h : Nat) (C : Nat → Nat → Nat) (lk : List Nat) (V : Nat → Nat → Nat → Prop) (i y : Nat) : Prop := ∃ act l fl t c, (act < 7 ∧ l ∈ lk ∧ fl < 2 ^ nS A S) ∧ (edc A S x h (l % 256) fl (l / 256) act = some (t, c) ∧ C fl (l % 256) < 1048576) ∧ V act l fl ∧ t / 256 * 256 + lwc A t = i ∧ y = C fl (l % 256) + c
def JF (d : Nat) (A : AW) (S : Nat) (x : Nat × Nat) (h : Nat) (C : Nat → Nat → Nat) (lk : List Nat) (σ : ST) (V : Nat → Nat → Nat → Prop) (s : ST) : Prop :=
  (BS d A S x h C s ∧ ∀ i, i < lk.length → s.1 (d + 3) i = nI (lk.getD i 0)) ∧ Fr (fun y => d + 1 ≤ y ∧ y ≤ d + 3) σ s ∧ (∀ j, j < (h + 1) * 1024 → s.1 (d + 1) j = σ.1 (d + 1) j) ∧ ∀ i, i < nSt A S → ∃ v, s.1 (d + 1) ((h + 1) * 1024 + i) = nI v ∧ Mn 1048576 (PF A S x h C lk V i) v
theorem WOK_F (a : AOK A) (hd : d = 197 ∨ d = 213) (hh : h < 12) (hC : ∀ fl low, C fl low = 1048576 ∨ C fl low ≤ 2000) {lk : List Nat} (hlk : ∀ l, l ∈ lk → l / 256 < 2 ^ cK A 0 ∧ l % 256 < LW A ∧ okB A S h (l / 256) (l % 256 % 2 ^ cK A 1) (l % 256 / 2 ^ cK A 1) = true) : WOK d A S x h C 0 lk (JF d A S x h C lk σ) := by
  have hs4 := S4 (S := S) a
  have hLW := LW_256 a
  refine ⟨fun V s j => j.1, fun V V' s e j => ?_, fun V s act l fl t c ha hl hfl he hc _ j => ?_⟩
  · refine ⟨j.1, j.2.1, j.2.2.1, fun i hi => ?_⟩
    obtain ⟨v, h1, h2⟩ := j.2.2.2 i hi
    refine ⟨v, h1, Mn_same h2 fun y => ?_⟩
    constructor
    · rintro ⟨act, l, fl, t, c, q, r, hV, z⟩
      exact ⟨act, l, fl, t, c, q, r, (e act l fl q.1 q.2.1 q.2.2 ⟨t, c, r⟩).mpr hV, z⟩
    · rintro ⟨act, l, fl, t, c, q, r, hV, z⟩
      exact ⟨act, l, fl, t, c, q, r, (e act l fl q.1 q.2.1 q.2.2 ⟨t, c, r⟩).mp hV, z⟩
  · obtain ⟨⟨b, bl⟩, hF, ho, hv⟩ := j
    obtain ⟨l1, l2, l3⟩ := hlk l hl
    obtain ⟨v1, v2, v3⟩ := edc_v a he l2 hfl
    obtain ⟨w1, -⟩ := lwc_lt a v1
    obtain ⟨v, ev, mv⟩ := hv _ (ix_lt v2 w1)
    have hvl := mv.1
    have hCl := (hC fl (l % 256)).resolve_left (by omega)
    have hix : (h + 1) * 1024 + (t / 256 * 256 + lwc A t) < 13312 := by omega
    have hFs : Fr (fun y => y = d + 1) s (setI s (d + 1) ((h + 1) * 1024 + (t / 256 * 256 + lwc A t)) (nI (if C fl (l % 256) + c < v then C fl (l % 256) + c else v))) := Fr_setI rfl
    refine ⟨setI s (d + 1) ((h + 1) * 1024 + (t / 256 * 256 + lwc A t)) (nI (if C fl (l % 256) + c < v then C fl (l % 256) + c else v)), ?_, ⟨⟨?_, fun i hi => ?_⟩, hF.tr (hFs.mono (fun y hy => by omega)), fun j hj => ?_, fun i hi => ?_⟩⟩
    · unfold f_X2_meet_70 KK
      rw [show nI 0 = (0 : Int32) from rfl]
      simp (disch := omega) only [bind_s, bd2_s, rdT_ok, ixR_ok, wrT_none, pfI_s, pfJ_s, pfZ_0, pfZ_1, zr_b2, nl_n, nl_s, nI_add, nI_mul, nI_sub, nI_shlm, nI_shrd, nI_or8, nI_or8r, nI_or5r, nI_and255, nI_and31, nI_and7, nI_and1, nI_andK, nI_clr, Nat.one_mul, nI_eqz, nI_eqq, nI_ltq, nI_ltz, nI_zlt, nI_nm1, nI_m2, m1_z, m1_lt0, m1_m1, b2_z, nI1_z, nI0_z, tb_0, tb_1, ite_nI, I_at, I_ne, J_at, J_ne, J_setI, I_setJ, ↓reduceIte, ltN_T, ltN_F, eqN_T, eqN_F, pow8, pow5, b2_f0, b2_t0, reduceCtorEq, Bool.false_eq_true, Bool.true_eq_false, eq_self, false_and, true_and, and_false, and_true, not_false_eq_true, not_true_eq_false]
      rw [rdI_ok hix (by decide)]
      simp (disch := omega) only [bind_s, bd2_s, rdT_ok, ixR_ok, wrT_none, pfI_s, pfJ_s, pfZ_0, pfZ_1, zr_b2, nl_n, nl_s, nI_add, nI_mul, nI_sub, nI_shlm, nI_shrd, nI_or8, nI_or8r, nI_or5r, nI_and255, nI_and31, nI_and7, nI_and1, nI_andK, nI_clr, Nat.one_mul, nI_eqz, nI_eqq, nI_ltq, nI_ltz, nI_zlt, nI_nm1, nI_m2, m1_z, m1_lt0, m1_m1, b2_z, nI1_z, nI0_z, tb_0, tb_1, ite_nI, I_at, I_ne, J_at, J_ne, J_setI, I_setJ, ↓reduceIte, ltN_T, ltN_F, eqN_T, eqN_F, pow8, pow5, b2_f0, b2_t0, reduceCtorEq, Bool.false_eq_true, Bool.true_eq_false, eq_self, false_and, true_and, and_false, and_true, not_false_eq_true, not_true_eq_false, ev]
      rw [wrI_ok hix (by decide)]
      simp (disch := omega) only [bind_s, bd2_s, rdT_ok, ixR_ok, wrT_none, pfI_s, pfJ_s, pfZ_0, pfZ_1, zr_b2, nl_n, nl_s, nI_add, nI_mul, nI_sub, nI_shlm, nI_shrd, nI_or8, nI_or8r, nI_or5r, nI_and255, nI_and31, nI_and7, nI_and1, nI_andK, nI_clr, Nat.one_mul, nI_eqz, nI_eqq, nI_ltq, nI_ltz, nI_zlt, nI_nm1, nI_m2, m1_z, m1_lt0, m1_m1, b2_z, nI1_z, nI0_z, tb_0, tb_1, ite_nI, I_at, I_ne, J_at, J_ne, J_setI, I_setJ, ↓reduceIte, ltN_T, ltN_F, eqN_T, eqN_F, pow8, pow5, b2_f0, b2_t0, reduceCtorEq, Bool.false_eq_true, Bool.true_eq_false, eq_self, false_and, true_and, and_false, and_true, not_false_eq_true, not_true_eq_false]
    · obtain ⟨b1, b2, b3, ⟨f7, f8, f9, f10⟩, b5⟩ := b
      refine ⟨CR_fr a b1 hFs (fun y hy => by omega), ?_, GX_fr b3 hFs (fun y hy => by omega), ⟨by rw [hFs.I (by omega)]; exact f7, by rw [hFs.I (by omega)]; exact f8, by rw [hFs.I (by omega)]; exact f9, by rw [hFs.I (by omega)]; exact f10⟩, fun fl' low h1 h2 => by rw [I_ne (Or.inr (by omega))]; exact b5 fl' low h1 h2⟩
      intro f kept run h1 h2 h3
      obtain ⟨t1, t2⟩ := b2 f kept run h1 h2 h3
      exact ⟨by rw [hFs.I (by omega)]; exact t1, fun act ha => by rw [hFs.I (by omega)]; exact t2 act ha⟩
    · rw [hFs.I (by omega)]; exact bl i hi
    · rw [I_ne (Or.inr (by omega))]; exact ho j hj
    · by_cases e : i = t / 256 * 256 + lwc A t
      · subst e
        refine ⟨_, by rw [I_at], Mn_add mv fun y => ?_⟩
        constructor
        · rintro ⟨act', l', fl', t', c', q, r, hV | hV, z⟩
          · exact Or.inl ⟨act', l', fl', t', c', q, r, hV, z⟩
          · obtain ⟨rfl, rfl, rfl⟩ := hV
            rw [he] at r
            cases r.1
            exact Or.inr z.2
        · rintro (⟨act', l', fl', t', c', q, r, hV, z⟩ | rfl)
          · exact ⟨act', l', fl', t', c', q, r, Or.inl hV, z⟩
          · exact ⟨act, l, fl, t, c, ⟨ha, hl, hfl⟩, ⟨he, hc⟩, Or.inr ⟨rfl, rfl, rfl⟩, rfl, rfl⟩
      · obtain ⟨u, eu, mu⟩ := hv i hi
        refine ⟨u, by rw [I_ne (Or.inr (by omega))]; exact eu, Mn_same mu fun y => ?_⟩
        constructor
        · rintro ⟨act', l', fl', t', c', q, r, hV | hV, z⟩
          · exact ⟨act', l', fl', t', c', q, r, hV, z⟩
          · obtain ⟨rfl, rfl, rfl⟩ := hV
            rw [he] at r
            cases r.1
            exact absurd z.1.symm e
        · rintro ⟨act', l', fl', t', c', q, r, hV, z⟩
          exact ⟨act', l', fl', t', c', q, r, Or.inl hV, z⟩
end
