section
/-! ===== the reference's cells hold a world ===== -/
def nowv (kf : Nat → Nat) (so run u : Nat) : Nat := if kf u = 3 then run else if so.testBit u = true then 1 else 0
/-- the running one is so if its value is above 0 -/
def RBt (kf : Nat → Nat) (n0 so run : Nat) : Prop := ∀ u, u < n0 → kf u = 3 → so.testBit u = decide (0 < run)
/-- a text of the reference means a condition -/
def TM (txt : Nat → Int32) (len n0 : Nat) (kf : Nat → Nat) (g : Nat → Nat → Bool) : Prop := ∀ (a1 n1 fr : Nat) (σ : ST) (so run : Nat), so < 1024 → run < 8 → fr + 60 ≤ n1 → n1 ≤ 600 → RBt kf n0 so run → (∀ j, j < 60 → σ.1 a1 (fr + j) = txt j) → (∀ u, u < n0 → σ.1 266 u = nI (nowv kf so run u)) → f_X12_holds_ a1 n1 (nI fr) (nI len) σ = some (b2 (g so run), σ)
/-- and effects -/
def TE (txt : Nat → Int32) (len n0 : Nat) (kf : Nat → Nat) (b e z : Nat) : Prop := ∀ (σ : ST) (act kept v : Nat), act < 6 → kept < 32 → v < 8 → σ.1 251 act = nI len → (∀ j, j < 60 → σ.1 252 (60 * act + j) = txt j) → (∀ u, u < n0 → σ.1 248 u = nI (kf u)) → f_X12_thenOf (nI act) (nI kept) (nI v) σ = some (nI (ef b e kept + 32 * (if z = 1 then 0 else v)), σ)
def MRr (kt lt txt hl ht hp hst p0 p1 p2 p3 p4 p5 p6 w : Nat → Int32) (A : AW) : Prop :=
  (∀ i, i < nT A → kt i = nI (kd A i) ∧ (2 ≤ kd A i → ∃ len, len ≤ 60 ∧ lt i = nI len ∧ TM (fun j => txt (60 * i + j)) len i (kd A) (tc A i))) ∧
  (∀ h, h < nH A → ∃ len, len ≤ 60 ∧ hl h = nI len ∧ TM (fun j => ht (60 * h + j)) len (nT A) (kd A) (hc A h) ∧ TE (fun j => ht (60 * h + j)) len (nT A) (kd A) (lwb A h) (lwe A h) (lws A h) ∧ (ht (60 * h) = nI 58 → ∀ so run, so < 1024 → run < 8 → hc A h so run = true) ∧ hp h = nI (pr A h) ∧ hst h = nI (sr A h)) ∧
  (∀ k, k < nP A → p0 k = nI (pk A k) ∧ p1 k = nI (po A k) ∧ p2 k = nI (pp A k) ∧ p3 k = nI (pq A k) ∧ p4 k = nI (pv A k) ∧ p5 k = nI (pm A k) ∧ p6 k = nI (pb A k)) ∧
  ∀ m, m < 6 → w m = nI (wt A m)
def MR (A : AW) (σ : ST) : Prop := (σ.1 247 0 = nI (nT A) ∧ σ.1 247 4 = nI (nH A) ∧ σ.1 247 9 = nI (nP A)) ∧ MRr (σ.1 248) (σ.1 249) (σ.1 250) (σ.1 251) (σ.1 252) (σ.1 253) (σ.1 254) (σ.1 255) (σ.1 256) (σ.1 257) (σ.1 258) (σ.1 259) (σ.1 260) (σ.1 261) (σ.1 262) A
theorem MR_eq {A : AW} {σ s : ST} (m : MR A σ) (e0 : s.1 247 0 = σ.1 247 0) (e4 : s.1 247 4 = σ.1 247 4) (e9 : s.1 247 9 = σ.1 247 9) (e : ∀ y, 248 ≤ y → y ≤ 262 → s.1 y = σ.1 y) : MR A s := by
  obtain ⟨⟨m1, m2, m3⟩, r⟩ := m
  refine ⟨⟨by rw [e0]; exact m1, by rw [e4]; exact m2, by rw [e9]; exact m3⟩, ?_⟩
  rw [e 248 (by omega) (by omega), e 249 (by omega) (by omega), e 250 (by omega) (by omega), e 251 (by omega) (by omega), e 252 (by omega) (by omega), e 253 (by omega) (by omega), e 254 (by omega) (by omega), e 255 (by omega) (by omega), e 256 (by omega) (by omega), e 257 (by omega) (by omega), e 258 (by omega) (by omega), e 259 (by omega) (by omega), e 260 (by omega) (by omega), e 261 (by omega) (by omega), e 262 (by omega) (by omega)]
  exact r
/-- the scratch of the reference -/
def scr (y : Nat) : Prop := y = 247 ∨ (263 ≤ y ∧ y ≤ 295)
/-- what stays: all but the scratch, and these fields of the object -/
def Fm (W : Nat → Prop) (σ s : ST) : Prop := Fr (fun y => y = 247 ∨ W y) σ s ∧ (∀ k, k ≠ 27 → k ≠ 28 → k ≠ 29 → k ≠ 36 → k ≠ 39 → k ≠ 40 → s.1 247 k = σ.1 247 k) ∧ s.2.1 247 = σ.2.1 247
theorem Fm.rf (W : Nat → Prop) (σ : ST) : Fm W σ σ := ⟨Fr.rf _ _, fun _ _ _ _ _ _ _ => rfl, rfl⟩
theorem Fm.tr {W : Nat → Prop} {σ s u : ST} (h : Fm W σ s) (g : Fm W s u) : Fm W σ u := ⟨h.1.tr g.1, fun k a b c d e f => (g.2.1 k a b c d e f).trans (h.2.1 k a b c d e f), g.2.2.trans h.2.2⟩
theorem Fm.mono {W V : Nat → Prop} {σ s : ST} (h : Fm V σ s) (hs : ∀ x, V x → W x) : Fm W σ s := ⟨h.1.mono (fun y hy => hy.elim Or.inl (fun q => Or.inr (hs y q))), h.2⟩
theorem Fm_set {W : Nat → Prop} {σ : ST} {a k : Nat} {v : Int32} (hW : W a) (h : a ≠ 247) : Fm W σ (setI σ a k v) := ⟨Fr_setI (Or.inr hW), fun j _ _ _ _ _ _ => I_ne (Or.inl (fun q => h q.symm)), rfl⟩
theorem Fm_fld {W : Nat → Prop} {σ : ST} {k : Nat} {v : Int32} (hk : k = 27 ∨ k = 28 ∨ k = 29 ∨ k = 36 ∨ k = 39 ∨ k = 40) : Fm W σ (setI σ 247 k v) := ⟨Fr_setI (Or.inl rfl), fun j a b c d e f => I_ne (Or.inr (by omega)), rfl⟩
theorem Fm.I {W : Nat → Prop} {σ s : ST} (h : Fm W σ s) {y : Nat} (hy : y ≠ 247) (hW : ¬ W y) (k : Nat) : s.1 y k = σ.1 y k := h.1.I (fun q => q.elim hy hW) k
theorem MR_fm {A : AW} {W : Nat → Prop} {σ s : ST} (m : MR A σ) (h : Fm W σ s) (hW : ∀ y, W y → 263 ≤ y) : MR A s := by
  refine MR_eq m (h.2.1 0 (by omega) (by omega) (by omega) (by omega) (by omega) (by omega)) (h.2.1 4 (by omega) (by omega) (by omega) (by omega) (by omega) (by omega)) (h.2.1 9 (by omega) (by omega) (by omega) (by omega) (by omega) (by omega)) (fun y h1 h2 => (h.1.1 y (fun q => ?_)).1)
  rcases q with q | q
  · omega
  · have := hW y q; omega
/-! what pieces ask, as the reference keeps it -/
def sOK (A : AW) (S : Nat) : Nat → Nat → Nat → Bool
  | 0, _, _ => true
  | k + 1, h, a => sOK A S k h a && !(decide (S.testBit k = true ∧ pk A k = 0 ∧ pp A k ≤ h ∧ h ≤ pq A k ∧ a ≠ po A k))
def nB (A : AW) (S : Nat) : Nat → Nat → Nat → Bool
  | 0, _, _ => false
  | k + 1, h, a => nB A S k h a || decide (S.testBit k = true ∧ pk A k = 3 ∧ pp A k ≤ h ∧ h ≤ pq A k ∧ a = po A k)
theorem aN_eq {A : AW} {S h a : Nat} : ∀ K, aN A S K h a = (sOK A S K h a && !nB A S K h a) := by
  intro K
  induction K with
  | zero => rfl
  | succ K ih =>
    rw [aN, sOK, nB, ih]
    have : decide (S.testBit K = true ∧ pp A K ≤ h ∧ h ≤ pq A K ∧ ((pk A K = 0 ∧ a ≠ po A K) ∨ (pk A K = 3 ∧ a = po A K))) = (decide (S.testBit K = true ∧ pk A K = 0 ∧ pp A K ≤ h ∧ h ≤ pq A K ∧ a ≠ po A K) || decide (S.testBit K = true ∧ pk A K = 3 ∧ pp A K ≤ h ∧ h ≤ pq A K ∧ a = po A K)) := by
      rw [← Bool.decide_or]
      apply decide_eq_decide.mpr
      constructor
      · rintro ⟨h1, h2, h3, h4 | h4⟩
        · exact Or.inl ⟨h1, h4.1, h2, h3, h4.2⟩
        · exact Or.inr ⟨h1, h4.1, h2, h3, h4.2⟩
      · rintro (⟨h1, h2, h3, h4, h5⟩ | ⟨h1, h2, h3, h4, h5⟩)
        · exact ⟨h1, h3, h4, Or.inl ⟨h2, h5⟩⟩
        · exact ⟨h1, h3, h4, Or.inr ⟨h2, h5⟩⟩
    rw [this]
    cases sOK A S K h a <;> cases nB A S K h a <;> cases decide (S.testBit K = true ∧ pk A K = 0 ∧ pp A K ≤ h ∧ h ≤ pq A K ∧ a ≠ po A K) <;> cases decide (S.testBit K = true ∧ pk A K = 3 ∧ pp A K ≤ h ∧ h ≤ pq A K ∧ a = po A K) <;> rfl
def TL (v : Int32) (sn : Bool) (ok : Nat → Bool) : Prop := (v = -1 ∧ sn = false ∧ ∀ a, ok a = true) ∨ (∃ b, b < 6 ∧ v = nI b ∧ sn = true ∧ ∀ a, ok a = decide (a = b)) ∨ (v = -2 ∧ sn = true ∧ ∀ a, ok a = false)
def RC (v : Int32) (ok : Nat → Bool) : Prop := (v = -1 ∧ ∀ r, ok r = true) ∨ (∃ b, b < 8 ∧ v = nI b ∧ ∀ r, ok r = decide (r = b)) ∨ (v = -2 ∧ ∀ r, ok r = false)
theorem m2_m1 : ((-2 : Int32) = -1) = False := by decide
theorem m2_z : ((-2 : Int32) = 0) = False := by decide
theorem m2_lt0 : ((-2 : Int32) < 0) = True := by decide
theorem t_tell {σ : ST} {h b : Nat} {sn : Bool} {ok : Nat → Bool} (hh : h < 12) (hb : b < 6) (t : TL (σ.1 270 h) sn ok) : ∃ v, f_X12_tell (nI h) (nI b) σ = some (setI σ 270 h v) ∧ TL v true (fun a => ok a && !decide (a ≠ b)) := by
  unfold f_X12_tell
  rcases t with ⟨e, rfl, hk⟩ | ⟨c, hc, e, rfl, hk⟩ | ⟨e, rfl, hk⟩
  · refine ⟨nI b, ?_, Or.inr (Or.inl ⟨b, hb, rfl, rfl, fun a => ?_⟩)⟩
    · simp (disch := omega) only [bind_s, bd2_s, rdI_ok, rdJ_ok, rdT_ok, ixR_ok, wrI_ok, wrJ_ok, wrT_none, pfI_s, pfJ_s, pfZ_0, pfZ_1, zr_b2, nl_n, nl_s, nI_add, nI_mul, nI_sub, nI_shlm, nI_shrd, nI_or8, nI_or8r, nI_or5r, nI_and255, nI_and31, nI_and7, nI_and1, nI_andK, nI_clr, Nat.one_mul, nI_eqz, nI_eqq, nI_ltq, nI_ltz, nI_zlt, nI_nm1, nI_m2, m1_z, m1_lt0, m1_m1, b2_z, nI1_z, nI0_z, tb_0, tb_1, ite_nI, I_at, I_ne, J_at, J_ne, J_setI, I_setJ, ↓reduceIte, ltN_T, ltN_F, eqN_T, eqN_F, pow8, pow5, b2_f0, b2_t0, reduceCtorEq, Bool.false_eq_true, Bool.true_eq_false, eq_self, false_and, true_and, and_false, and_true, not_false_eq_true, not_true_eq_false, e]
    · show (ok a && !decide (a ≠ b)) = _
      rw [hk]
      simp
  · by_cases ecb : c = b
    · subst ecb
      refine ⟨nI c, ?_, Or.inr (Or.inl ⟨c, hb, rfl, rfl, fun a => ?_⟩)⟩
      · simp (disch := omega) only [bind_s, bd2_s, rdI_ok, rdJ_ok, rdT_ok, ixR_ok, wrI_ok, wrJ_ok, wrT_none, pfI_s, pfJ_s, pfZ_0, pfZ_1, zr_b2, nl_n, nl_s, nI_add, nI_mul, nI_sub, nI_shlm, nI_shrd, nI_or8, nI_or8r, nI_or5r, nI_and255, nI_and31, nI_and7, nI_and1, nI_andK, nI_clr, Nat.one_mul, nI_eqz, nI_eqq, nI_ltq, nI_ltz, nI_zlt, nI_nm1, nI_m2, m1_z, m1_lt0, m1_m1, b2_z, nI1_z, nI0_z, tb_0, tb_1, ite_nI, I_at, I_ne, J_at, J_ne, J_setI, I_setJ, ↓reduceIte, ltN_T, ltN_F, eqN_T, eqN_F, pow8, pow5, b2_f0, b2_t0, reduceCtorEq, Bool.false_eq_true, Bool.true_eq_false, eq_self, false_and, true_and, and_false, and_true, not_false_eq_true, not_true_eq_false, e]
      · show (ok a && !decide (a ≠ c)) = _
        rw [hk]
        by_cases q : a = c <;> simp [q]
    · refine ⟨-2, ?_, Or.inr (Or.inr ⟨rfl, rfl, fun a => ?_⟩)⟩
      · simp (disch := omega) only [bind_s, bd2_s, rdI_ok, rdJ_ok, rdT_ok, ixR_ok, wrI_ok, wrJ_ok, wrT_none, pfI_s, pfJ_s, pfZ_0, pfZ_1, zr_b2, nl_n, nl_s, nI_add, nI_mul, nI_sub, nI_shlm, nI_shrd, nI_or8, nI_or8r, nI_or5r, nI_and255, nI_and31, nI_and7, nI_and1, nI_andK, nI_clr, Nat.one_mul, nI_eqz, nI_eqq, nI_ltq, nI_ltz, nI_zlt, nI_nm1, nI_m2, m1_z, m1_lt0, m1_m1, b2_z, nI1_z, nI0_z, tb_0, tb_1, ite_nI, I_at, I_ne, J_at, J_ne, J_setI, I_setJ, ↓reduceIte, ltN_T, ltN_F, eqN_T, eqN_F, pow8, pow5, b2_f0, b2_t0, reduceCtorEq, Bool.false_eq_true, Bool.true_eq_false, eq_self, false_and, true_and, and_false, and_true, not_false_eq_true, not_true_eq_false, e, ecb]
      · show (ok a && !decide (a ≠ b)) = _
        rw [hk]
        by_cases q : a = c
        · subst q; simp [ecb]
        · simp [q]
  · refine ⟨-2, ?_, Or.inr (Or.inr ⟨rfl, rfl, fun a => ?_⟩)⟩
    · have : ¬ ((-2 : Int32) = nI b) := fun q => by have := nI_m2 (a := b) (by omega); rw [← q] at this; simp at this
      simp (disch := omega) only [bind_s, bd2_s, rdI_ok, rdJ_ok, rdT_ok, ixR_ok, wrI_ok, wrJ_ok, wrT_none, pfI_s, pfJ_s, pfZ_0, pfZ_1, zr_b2, nl_n, nl_s, nI_add, nI_mul, nI_sub, nI_shlm, nI_shrd, nI_or8, nI_or8r, nI_or5r, nI_and255, nI_and31, nI_and7, nI_and1, nI_andK, nI_clr, Nat.one_mul, nI_eqz, nI_eqq, nI_ltq, nI_ltz, nI_zlt, nI_nm1, nI_m2, m1_z, m1_lt0, m1_m1, b2_z, nI1_z, nI0_z, tb_0, tb_1, ite_nI, I_at, I_ne, J_at, J_ne, J_setI, I_setJ, ↓reduceIte, ltN_T, ltN_F, eqN_T, eqN_F, pow8, pow5, b2_f0, b2_t0, reduceCtorEq, Bool.false_eq_true, Bool.true_eq_false, eq_self, false_and, true_and, and_false, and_true, not_false_eq_true, not_true_eq_false, e, m2_m1, this]
    · show (ok a && !decide (a ≠ b)) = _
      rw [hk]; rfl
end
