section
/-! ===== the reference solves: prices forward ===== -/
variable {A : AW} {σ : ST} {S h : Nat} {x : Nat × Nat}
def Fs (W : Nat → Prop) (σ s : ST) : Prop := Fr (fun y => y = 247 ∨ W y) σ s ∧ ∀ k, k ≠ 39 → k ≠ 40 → s.1 247 k = σ.1 247 k
theorem Fs.rf (W : Nat → Prop) (σ : ST) : Fs W σ σ := ⟨Fr.rf _ _, fun _ _ _ => rfl⟩
theorem Fs.tr {W : Nat → Prop} {σ s u : ST} (h : Fs W σ s) (g : Fs W s u) : Fs W σ u := ⟨h.1.tr g.1, fun k a b => (g.2 k a b).trans (h.2 k a b)⟩
theorem Fs.mono {W V : Nat → Prop} {σ s : ST} (h : Fs V σ s) (hs : ∀ y, V y → W y) : Fs W σ s := ⟨h.1.mono (fun y q => q.elim Or.inl (fun q => Or.inr (hs y q))), h.2⟩
theorem Fs.I {W : Nat → Prop} {σ s : ST} (h : Fs W σ s) {y : Nat} (h1 : y ≠ 247) (h2 : ¬ W y) (k : Nat) : s.1 y k = σ.1 y k := h.1.I (fun q => q.elim h1 h2) k
theorem Fs.J {W : Nat → Prop} {σ s : ST} (h : Fs W σ s) {y : Nat} (h1 : y ≠ 247) (h2 : ¬ W y) (k : Nat) : s.2.1 y k = σ.2.1 y k := h.1.J (fun q => q.elim h1 h2) k
theorem Fs_set {W : Nat → Prop} {σ : ST} {a k : Nat} {v : Int32} (hW : W a) (h : a ≠ 247) : Fs W σ (setI σ a k v) := ⟨Fr_setI (Or.inr hW), fun j _ _ => I_ne (Or.inl (fun q => h q.symm))⟩
theorem Fs_setJ {W : Nat → Prop} {σ : ST} {a k : Nat} {v : Int64} (hW : W a) : Fs W σ (setJ σ a k v) := ⟨Fr_setJ (Or.inr hW), fun j _ _ => rfl⟩
theorem Fs_39 {W : Nat → Prop} {σ : ST} {v : Int32} : Fs W σ (setI σ 247 39 v) := ⟨Fr_setI (Or.inl rfl), fun j a b => I_ne (Or.inr a)⟩
theorem Fs_e {W : Nat → Prop} {σ s : ST} (h : Fe σ s) (hW : ∀ y, 278 ≤ y → y ≤ 281 → W y) : Fs W σ s := ⟨h.1.mono (fun y q => q.elim Or.inl (fun q => Or.inr (hW y q.1 q.2))), fun k _ b => h.2 k b⟩
theorem MB_fs {W : Nat → Prop} {s : ST} (b : MB A S x σ) (h : Fs W σ s) (hW : ∀ y, W y → 276 ≤ y) : MB A S x s := by
  have e : ∀ y, 248 ≤ y → y ≤ 275 → s.1 y = σ.1 y := fun y h1 h2 => (h.1.1 y (fun q => by rcases q with q | q; omega; have := hW y q; omega)).1
  obtain ⟨m, g, t, c⟩ := b
  refine ⟨MR_eq m (h.2 0 (by omega) (by omega)) (h.2 4 (by omega) (by omega)) (h.2 9 (by omega) (by omega)) (fun y h1 h2 => e y h1 (by omega)), ⟨fun hh h12 => ?_, by rw [h.2 36 (by omega) (by omega)]; exact g.2.1, fun k h1 h2 h3 => by rw [e 275 (by omega) (by omega)]; exact g.2.2 k h1 h2 h3⟩, fun m hm => ?_, ⟨by rw [h.2 27 (by omega) (by omega)]; exact c.1, by rw [h.2 28 (by omega) (by omega)]; exact c.2.1, by rw [h.2 29 (by omega) (by omega)]; exact c.2.2⟩⟩
  · have := g.1 hh h12
    rw [e 270 (by omega) (by omega), e 271 (by omega) (by omega), e 272 (by omega) (by omega), e 273 (by omega) (by omega), e 274 (by omega) (by omega)]
    exact this
  · have := t m hm
    rw [e 267 (by omega) (by omega), e 268 (by omega) (by omega), e 269 (by omega) (by omega)]
    exact this
theorem EdA_fr {W : Nat → Prop} {s : ST} {s0 : Nat} {L : List (Nat × Nat)} (e : EdA A S x h s0 L σ) (hF : Fr W σ s) (hW : ∀ y, W y → y ≠ 247 ∧ (y < 278 ∨ 281 < y)) : EdA A S x h s0 L s := by
  have q : ∀ y, 278 ≤ y → y ≤ 281 → ∀ k, s.1 y k = σ.1 y k := fun y h1 h2 k => hF.I (fun w => by have := hW y w; omega) k
  refine ⟨by rw [hF.I (fun w => (hW _ w).1 rfl)]; exact e.1, fun i hi => ?_⟩
  rw [q 278 (by omega) (by omega), q 279 (by omega) (by omega), q 280 (by omega) (by omega), q 281 (by omega) (by omega)]
  exact e.2 i hi
theorem eA_mem {p : Nat → Bool} {f : Nat} {q : Nat × Nat} : ∀ n, q ∈ eA p f n ↔ q.1 = f ∧ q.2 < n ∧ p q.2 = true := by
  intro n
  induction n with
  | zero => simp [eA]
  | succ n ih =>
    rw [eA]
    split
    · rename_i w
      rw [List.mem_append, List.mem_singleton, ih]
      constructor
      · rintro (⟨h1, h2, h3⟩ | rfl)
        · exact ⟨h1, by omega, h3⟩
        · exact ⟨rfl, Nat.lt_succ_self _, w⟩
      · rintro ⟨h1, h2, h3⟩
        by_cases e : q.2 = n
        · right; rw [← h1, ← e]
        · exact Or.inl ⟨h1, by omega, h3⟩
    · rename_i w
      rw [ih]
      constructor
      · rintro ⟨h1, h2, h3⟩; exact ⟨h1, by omega, h3⟩
      · rintro ⟨h1, h2, h3⟩
        by_cases e : q.2 = n
        · rw [e] at h3; exact absurd h3 w
        · exact ⟨h1, by omega, h3⟩
theorem eF_mem {E : GR} {s : Nat} {q : Nat × Nat} : ∀ n, q ∈ eF E h s n ↔ q.1 < n ∧ q.2 < 7 ∧ (E h s q.1 q.2).isSome = true := by
  intro n
  induction n with
  | zero => simp [eF]
  | succ n ih =>
    rw [eF, List.mem_append, ih, eA_mem]
    constructor
    · rintro (⟨h1, h2⟩ | ⟨h1, h2, h3⟩)
      · exact ⟨by omega, h2⟩
      · rw [← h1] at h3; exact ⟨by omega, h2, h3⟩
    · rintro ⟨h1, h2, h3⟩
      by_cases e : q.1 = n
      · right; rw [e] at h3; exact ⟨e, h2, h3⟩
      · exact Or.inl ⟨by omega, h2, h3⟩
noncomputable def EL (A : AW) (S : Nat) (x : Nat × Nat) (h s : Nat) : List (Nat × Nat) := eF (EG A S x) h s (2 ^ cK A 0)
theorem EL_mem (a : AOK A) {s f act : Nat} : (f, act) ∈ EL A S x h s ↔ EG A S x h s f act = some (tos A S h s f act, cst A S x h act) := by
  unfold EL
  rw [eF_mem]
  constructor
  · rintro ⟨-, -, h3⟩
    obtain ⟨⟨t, c⟩, e⟩ := Option.isSome_iff_exists.mp h3
    obtain ⟨-, rfl, rfl⟩ := EG_iff.mp e
    exact e
  · intro e
    have g := EG_ok (x := x) a h s f act _ _ e
    exact ⟨(EG_iff.mp e).1.2.1.1, g.2.2.2.1, by rw [e]; rfl⟩
theorem EL_len (a : AOK A) {s : Nat} : (EL A S x h s).length ≤ 28 := by
  have := eF_len (EG A S x) h s (2 ^ cK A 0)
  have := F4 a
  unfold EL
  omega
theorem EL_at (a : AOK A) {s e : Nat} (he : e < (EL A S x h s).length) : EG A S x h s ((EL A S x h s).getD e (0, 0)).1 ((EL A S x h s).getD e (0, 0)).2 = some (tos A S h s ((EL A S x h s).getD e (0, 0)).1 ((EL A S x h s).getD e (0, 0)).2, cst A S x h ((EL A S x h s).getD e (0, 0)).2) := by
  apply (EL_mem a).mp
  have : (EL A S x h s).getD e (0, 0) ∈ EL A S x h s := by
    rw [List.getD_eq_getElem?_getD, List.getElem?_eq_getElem he]
    exact List.getElem_mem he
  exact this
theorem tk_mem {α : Type} {L : List α} {e : Nat} {d q : α} (he : e < L.length) : q ∈ L.take (e + 1) ↔ q ∈ L.take e ∨ q = L.getD e d := by
  rw [List.take_succ, List.getElem?_eq_getElem he, List.mem_append, List.getD_eq_getElem?_getD, List.getElem?_eq_getElem he]
  simp
/-! prices forward -/
noncomputable def FW (A : AW) (S : Nat) (x : Nat × Nat) (h s : Nat) : Nat := Fw (EG A S x) (2 ^ cK A 1) h s
theorem FW_le (h s : Nat) : FW A S x h s ≤ 100000000 := Fw_le h s
theorem FW_99 (a : AOK A) {s : Nat} (w : FW A S x h s < 100000000) : FW A S x h s ≤ 99 * h := Fw_99 (EG_ok a) h s w
theorem FW_v (a : AOK A) {s : Nat} (w : FW A S x h s < 100000000) : vst A s ∧ s / 256 < 2 ^ nS A S := EG_fw a w
def PA (A : AW) (S : Nat) (x : Nat × Nat) (h s0 : Nat) (M : List (Nat × Nat)) (t y : Nat) : Prop := ∃ s f act c, EG A S x h s f act = some (t, c) ∧ FW A S x h s < 100000000 ∧ y = FW A S x h s + c ∧ (s < s0 ∨ (s = s0 ∧ (f, act) ∈ M))
theorem t_fw135 (a : AOK A) (hh : h < 12) {s0 : Nat} (hs : s0 < 1024) (b : MB A S x σ) (hw : FW A S x h s0 < 100000000) (ed : EdA A S x h s0 (EL A S x h s0) σ) (hv : ∀ t, t < 1024 → ∃ v, σ.1 276 (1024 * (h + 1) + t) = nI v ∧ Mn 100000000 (PA A S x h s0 [] t) v) {k : Int32 → Int32 → ST → Option (Int32 × ST)} : ∃ u, f_X12_solve_135 k FU (nI h) (nI s0) (nI (FW A S x h s0)) (nI 0) σ = k (nI h) (nI s0) u ∧ Fr (fun y => y = 276) σ u ∧ (∀ j, j < 1024 * (h + 1) ∨ 1024 * (h + 2) ≤ j → u.1 276 j = σ.1 276 j) ∧ ∀ t, t < 1024 → ∃ v, u.1 276 (1024 * (h + 1) + t) = nI v ∧ Mn 100000000 (PA A S x h (s0 + 1) [] t) v := by
  have hlen := EL_len (S := S) (x := x) (h := h) (s := s0) a
  have h99 := FW_99 a hw
  refine Exists.elim (loopE (fun n e u => f_X12_solve_135 k n (nI h) (nI s0) (nI (FW A S x h s0)) (nI e) u) (EL A S x h s0).length (fun e u => Fr (fun y => y = 276) σ u ∧ (∀ j, j < 1024 * (h + 1) ∨ 1024 * (h + 2) ≤ j → u.1 276 j = σ.1 276 j) ∧ ∀ t, t < 1024 → ∃ v, u.1 276 (1024 * (h + 1) + t) = nI v ∧ Mn 100000000 (PA A S x h s0 ((EL A S x h s0).take e) t) v) (fun u => k (nI h) (nI s0) u) ?_ ?_ FU 0 σ (by rw [FU_eq]; omega) (Nat.zero_le _) ⟨Fr.rf _ _, fun j _ => rfl, by rw [List.take_zero]; exact hv⟩) ?_
  · rintro n e u he ⟨hF, ho, hvv⟩ Q hQ
    have ed' := EdA_fr ed hF (fun y hy => by omega)
    obtain ⟨-, -, e3, e4⟩ := ed'.2 e he
    have e40 := ed'.1
    have hE := EL_at (S := S) (x := x) (h := h) (s := s0) a he
    have gE := EG_ok a h s0 _ _ _ _ hE
    have htg : TG A S x h s0 ((EL A S x h s0).getD e (0, 0)).1 ((EL A S x h s0).getD e (0, 0)).2 = tos A S h s0 ((EL A S x h s0).getD e (0, 0)).1 ((EL A S x h s0).getD e (0, 0)).2 := tg_of hE
    rw [htg] at e3
    generalize hq : (EL A S x h s0).getD e (0, 0) = q at *
    generalize ht : tos A S h s0 q.1 q.2 = t at *
    generalize hc : cst A S x h q.2 = c at *
    have ht1 := gE.2.1
    have hc1 := gE.2.2.2.2
    obtain ⟨v, ev, mv⟩ := hvv t ht1
    have hvl := mv.1
    have hix : 1024 * (h + 1) + t < 13312 := by omega
    show ∃ y, f_X12_solve_135 k (n + 1) (nI h) (nI s0) (nI (FW A S x h s0)) (nI e) u = f_X12_solve_135 k n (nI h) (nI s0) (nI (FW A S x h s0)) (nI (e + 1)) y ∧ _
    rw [f_X12_solve_135]
    simp (disch := omega) only [bind_s, bd2_s, rdT_ok, ixR_ok, wrT_none, pfI_s, pfJ_s, pfZ_0, pfZ_1, zr_b2, nl_n, nl_s, nI_add, nI_mul, nI_sub, nI_shlm, nI_shrd, nI_or8, nI_or8r, nI_or5r, nI_and255, nI_and31, nI_and7, nI_and1, nI_andK, nI_clr, Nat.one_mul, nI_eqz, nI_eqq, nI_ltq, nI_ltz, nI_zlt, nI_nm1, nI_m2, m1_z, m1_lt0, m1_m1, b2_z, nI1_z, nI0_z, tb_0, tb_1, ite_nI, I_at, I_ne, J_at, J_ne, J_setI, I_setJ, ↓reduceIte, ltN_T, ltN_F, eqN_T, eqN_F, pow8, pow5, b2_f0, b2_t0, reduceCtorEq, Bool.false_eq_true, Bool.true_eq_false, eq_self, false_and, true_and, and_false, and_true, not_false_eq_true, not_true_eq_false, e40, rdI_ok (show e < 28 by omega) (show 28 < 2 ^ 31 by decide), e3, e4]
    rw [rdI_ok hix (by decide), ev]
    simp (disch := omega) only [bind_s, bd2_s, rdT_ok, ixR_ok, wrT_none, pfI_s, pfJ_s, pfZ_0, pfZ_1, zr_b2, nl_n, nl_s, nI_add, nI_mul, nI_sub, nI_shlm, nI_shrd, nI_or8, nI_or8r, nI_or5r, nI_and255, nI_and31, nI_and7, nI_and1, nI_andK, nI_clr, Nat.one_mul, nI_eqz, nI_eqq, nI_ltq, nI_ltz, nI_zlt, nI_nm1, nI_m2, m1_z, m1_lt0, m1_m1, b2_z, nI1_z, nI0_z, tb_0, tb_1, ite_nI, I_at, I_ne, J_at, J_ne, J_setI, I_setJ, ↓reduceIte, ltN_T, ltN_F, eqN_T, eqN_F, pow8, pow5, b2_f0, b2_t0, reduceCtorEq, Bool.false_eq_true, Bool.true_eq_false, eq_self, false_and, true_and, and_false, and_true, not_false_eq_true, not_true_eq_false]
    rw [wrI_ok hix (by decide)]
    simp (disch := omega) only [bind_s, bd2_s, rdT_ok, ixR_ok, wrT_none, pfI_s, pfJ_s, pfZ_0, pfZ_1, zr_b2, nl_n, nl_s, nI_add, nI_mul, nI_sub, nI_shlm, nI_shrd, nI_or8, nI_or8r, nI_or5r, nI_and255, nI_and31, nI_and7, nI_and1, nI_andK, nI_clr, Nat.one_mul, nI_eqz, nI_eqq, nI_ltq, nI_ltz, nI_zlt, nI_nm1, nI_m2, m1_z, m1_lt0, m1_m1, b2_z, nI1_z, nI0_z, tb_0, tb_1, ite_nI, I_at, I_ne, J_at, J_ne, J_setI, I_setJ, ↓reduceIte, ltN_T, ltN_F, eqN_T, eqN_F, pow8, pow5, b2_f0, b2_t0, reduceCtorEq, Bool.false_eq_true, Bool.true_eq_false, eq_self, false_and, true_and, and_false, and_true, not_false_eq_true, not_true_eq_false]
    refine ⟨_, rfl, hQ _ ⟨hF.tr (Fr_setI rfl), fun j hj => by rw [I_ne (Or.inr (by omega))]; exact ho j hj, fun t' ht' => ?_⟩⟩
    have memq : ∀ z, z ∈ (EL A S x h s0).take (e + 1) ↔ z ∈ (EL A S x h s0).take e ∨ z = q := fun z => by rw [tk_mem (d := (0, 0)) he, hq]
    by_cases et : t' = t
    · subst et
      refine ⟨_, by rw [I_at], Mn_add mv fun y => ?_⟩
      constructor
      · rintro ⟨s, f, act, d, r1, r2, r3, r4 | ⟨rfl, r4⟩⟩
        · exact Or.inl ⟨s, f, act, d, r1, r2, r3, Or.inl r4⟩
        · rcases (memq _).mp r4 with r4 | r4
          · exact Or.inl ⟨s, f, act, d, r1, r2, r3, Or.inr ⟨rfl, r4⟩⟩
          · subst r4
            rw [hE] at r1
            cases r1
            exact Or.inr r3
      · rintro (⟨s, f, act, d, r1, r2, r3, r4 | ⟨rfl, r4⟩⟩ | rfl)
        · exact ⟨s, f, act, d, r1, r2, r3, Or.inl r4⟩
        · exact ⟨s, f, act, d, r1, r2, r3, Or.inr ⟨rfl, (memq _).mpr (Or.inl r4)⟩⟩
        · exact ⟨s0, q.1, q.2, c, hE, hw, rfl, Or.inr ⟨rfl, (memq _).mpr (Or.inr rfl)⟩⟩
    · obtain ⟨w, ew, mw⟩ := hvv t' ht'
      refine ⟨w, by rw [I_ne (Or.inr (by omega))]; exact ew, Mn_same mw fun y => ?_⟩
      constructor
      · rintro ⟨s, f, act, d, r1, r2, r3, r4 | ⟨rfl, r4⟩⟩
        · exact ⟨s, f, act, d, r1, r2, r3, Or.inl r4⟩
        · rcases (memq _).mp r4 with r4 | r4
          · exact ⟨s, f, act, d, r1, r2, r3, Or.inr ⟨rfl, r4⟩⟩
          · subst r4
            rw [hE] at r1
            cases r1
            exact absurd rfl et
      · rintro ⟨s, f, act, d, r1, r2, r3, r4 | ⟨rfl, r4⟩⟩
        · exact ⟨s, f, act, d, r1, r2, r3, Or.inl r4⟩
        · exact ⟨s, f, act, d, r1, r2, r3, Or.inr ⟨rfl, (memq _).mpr (Or.inl r4)⟩⟩
  · rintro n u ⟨hF, -, -⟩
    have e40 := (EdA_fr ed hF (fun y hy => by omega)).1
    show f_X12_solve_135 k (n + 1) _ _ _ (nI (EL A S x h s0).length) u = _
    rw [f_X12_solve_135]
    simp (disch := omega) only [bind_s, bd2_s, rdI_ok, rdJ_ok, rdT_ok, ixR_ok, wrI_ok, wrJ_ok, wrT_none, pfI_s, pfJ_s, pfZ_0, pfZ_1, zr_b2, nl_n, nl_s, nI_add, nI_mul, nI_sub, nI_shlm, nI_shrd, nI_or8, nI_or8r, nI_or5r, nI_and255, nI_and31, nI_and7, nI_and1, nI_andK, nI_clr, Nat.one_mul, nI_eqz, nI_eqq, nI_ltq, nI_ltz, nI_zlt, nI_nm1, nI_m2, m1_z, m1_lt0, m1_m1, b2_z, nI1_z, nI0_z, tb_0, tb_1, ite_nI, I_at, I_ne, J_at, J_ne, J_setI, I_setJ, ↓reduceIte, ltN_T, ltN_F, eqN_T, eqN_F, pow8, pow5, b2_f0, b2_t0, reduceCtorEq, Bool.false_eq_true, Bool.true_eq_false, eq_self, false_and, true_and, and_false, and_true, not_false_eq_true, not_true_eq_false, e40]
  · rintro u ⟨e, h1, h2, h3⟩
    refine ⟨u, e, h1, h2, fun t ht => ?_⟩
    obtain ⟨v, ev, mv⟩ := h3 t ht
    rw [List.take_length] at mv
    refine ⟨v, ev, Mn_same mv fun y => ?_⟩
    constructor
    · rintro ⟨s, f, act, d, r1, r2, r3, r4 | ⟨rfl, r4⟩⟩
      · by_cases e : s = s0
        · subst e
          have := (EG_iff.mp r1).2
          obtain ⟨rfl, rfl⟩ := this
          exact ⟨s, f, act, _, r1, r2, r3, Or.inr ⟨rfl, (EL_mem a).mpr r1⟩⟩
        · exact ⟨s, f, act, d, r1, r2, r3, Or.inl (by omega)⟩
      · cases r4
    · rintro ⟨s, f, act, d, r1, r2, r3, r4 | ⟨rfl, r4⟩⟩
      · exact ⟨s, f, act, d, r1, r2, r3, Or.inl (by omega)⟩
      · exact ⟨s, f, act, d, r1, r2, r3, Or.inl (by omega)⟩
theorem t_fw89 (a : AOK A) (hh : h < 12) (b : MB A S x σ) (hw : ∀ s, s < 1024 → σ.1 276 (1024 * h + s) = nI (FW A S x h s)) (h0 : ∀ t, t < 1024 → σ.1 276 (1024 * (h + 1) + t) = nI 100000000) {k : Int32 → ST → Option (Int32 × ST)} : ∃ u, f_X12_solve_89 k FU (nI h) (nI 0) σ = k (nI h) u ∧ Fs (fun y => y = 276 ∨ (278 ≤ y ∧ y ≤ 281)) σ u ∧ u.1 247 39 = σ.1 247 39 ∧ (∀ j, j < 1024 * (h + 1) ∨ 1024 * (h + 2) ≤ j → u.1 276 j = σ.1 276 j) ∧ ∀ t, t < 1024 → u.1 276 (1024 * (h + 1) + t) = nI (FW A S x (h + 1) t) := by
  refine Exists.elim (loopE (fun n s0 u => f_X12_solve_89 k n (nI h) (nI s0) u) 1024 (fun s0 u => Fs (fun y => y = 276 ∨ (278 ≤ y ∧ y ≤ 281)) σ u ∧ u.1 247 39 = σ.1 247 39 ∧ (∀ j, j < 1024 * (h + 1) ∨ 1024 * (h + 2) ≤ j → u.1 276 j = σ.1 276 j) ∧ ∀ t, t < 1024 → ∃ v, u.1 276 (1024 * (h + 1) + t) = nI v ∧ Mn 100000000 (PA A S x h s0 [] t) v) (fun u => k (nI h) u) ?_ ?_ FU 0 σ (by rw [FU_eq]; omega) (by omega) ⟨Fs.rf _ _, rfl, fun j _ => rfl, fun t ht => ⟨100000000, h0 t ht, Mn_emp (fun y q => by obtain ⟨_, _, _, _, _, _, _, q | q⟩ := q; omega; cases q.2)⟩⟩) ?_
  · rintro n s0 u hs ⟨hF, h39, ho, hv⟩ Q hQ
    have b' := MB_fs b hF (fun y hy => by omega)
    have ew : u.1 276 (1024 * h + s0) = nI (FW A S x h s0) := by rw [ho _ (Or.inl (by omega))]; exact hw s0 hs
    have hle := FW_le (A := A) (S := S) (x := x) h s0
    have hix : 1024 * h + s0 < 13312 := by omega
    show ∃ y, f_X12_solve_89 k (n + 1) (nI h) (nI s0) u = f_X12_solve_89 k n (nI h) (nI (s0 + 1)) y ∧ _
    rw [f_X12_solve_89]
    simp (disch := omega) only [bind_s, bd2_s, rdT_ok, ixR_ok, wrT_none, pfI_s, pfJ_s, pfZ_0, pfZ_1, zr_b2, nl_n, nl_s, nI_add, nI_mul, nI_sub, nI_shlm, nI_shrd, nI_or8, nI_or8r, nI_or5r, nI_and255, nI_and31, nI_and7, nI_and1, nI_andK, nI_clr, Nat.one_mul, nI_eqz, nI_eqq, nI_ltq, nI_ltz, nI_zlt, nI_nm1, nI_m2, m1_z, m1_lt0, m1_m1, b2_z, nI1_z, nI0_z, tb_0, tb_1, ite_nI, I_at, I_ne, J_at, J_ne, J_setI, I_setJ, ↓reduceIte, ltN_T, ltN_F, eqN_T, eqN_F, pow8, pow5, b2_f0, b2_t0, reduceCtorEq, Bool.false_eq_true, Bool.true_eq_false, eq_self, false_and, true_and, and_false, and_true, not_false_eq_true, not_true_eq_false]
    rw [rdI_ok hix (by decide), ew]
    by_cases hn : FW A S x h s0 = 100000000
    · simp (disch := omega) only [bind_s, bd2_s, rdT_ok, ixR_ok, wrT_none, pfI_s, pfJ_s, pfZ_0, pfZ_1, zr_b2, nl_n, nl_s, nI_add, nI_mul, nI_sub, nI_shlm, nI_shrd, nI_or8, nI_or8r, nI_or5r, nI_and255, nI_and31, nI_and7, nI_and1, nI_andK, nI_clr, Nat.one_mul, nI_eqz, nI_eqq, nI_ltq, nI_ltz, nI_zlt, nI_nm1, nI_m2, m1_z, m1_lt0, m1_m1, b2_z, nI1_z, nI0_z, tb_0, tb_1, ite_nI, I_at, I_ne, J_at, J_ne, J_setI, I_setJ, ↓reduceIte, ltN_T, ltN_F, eqN_T, eqN_F, pow8, pow5, b2_f0, b2_t0, reduceCtorEq, Bool.false_eq_true, Bool.true_eq_false, eq_self, false_and, true_and, and_false, and_true, not_false_eq_true, not_true_eq_false, hn]
      refine ⟨u, rfl, hQ _ ⟨hF, h39, ho, fun t ht => ?_⟩⟩
      obtain ⟨v, ev, mv⟩ := hv t ht
      refine ⟨v, ev, Mn_same mv fun y => ?_⟩
      constructor
      · rintro ⟨s, f, act, d, r1, r2, r3, r4 | ⟨rfl, r4⟩⟩
        · refine ⟨s, f, act, d, r1, r2, r3, Or.inl ?_⟩
          by_cases e : s = s0
          · subst e; rw [hn] at r2; exact absurd r2 (Nat.lt_irrefl _)
          · omega
        · cases r4
      · rintro ⟨s, f, act, d, r1, r2, r3, r4 | ⟨rfl, r4⟩⟩
        · exact ⟨s, f, act, d, r1, r2, r3, Or.inl (by omega)⟩
        · cases r4
    · have hlt : FW A S x h s0 < 100000000 := by omega
      obtain ⟨vs, hfl⟩ := FW_v a hlt
      obtain ⟨w, e1, F1, d1⟩ := t_edgesOf a b' hh vs hfl hs
      have b1 := MB_fe b' F1
      obtain ⟨z, e2, F2, o2, v2⟩ := t_fw135 (k := fun x4_14 x5_15 s16 => f_X12_solve_89 k n x4_14 (x5_15 + nI 1) s16) a hh hs b1 hlt d1 (fun t ht => by
        obtain ⟨v, ev, mv⟩ := hv t ht
        exact ⟨v, by rw [F1.I (by omega) (by omega)]; exact ev, mv⟩)
      simp (disch := omega) only [bind_s, bd2_s, rdT_ok, ixR_ok, wrT_none, pfI_s, pfJ_s, pfZ_0, pfZ_1, zr_b2, nl_n, nl_s, nI_add, nI_mul, nI_sub, nI_shlm, nI_shrd, nI_or8, nI_or8r, nI_or5r, nI_and255, nI_and31, nI_and7, nI_and1, nI_andK, nI_clr, Nat.one_mul, nI_eqz, nI_eqq, nI_ltq, nI_ltz, nI_zlt, nI_nm1, nI_m2, m1_z, m1_lt0, m1_m1, b2_z, nI1_z, nI0_z, tb_0, tb_1, ite_nI, I_at, I_ne, J_at, J_ne, J_setI, I_setJ, ↓reduceIte, ltN_T, ltN_F, eqN_T, eqN_F, pow8, pow5, b2_f0, b2_t0, reduceCtorEq, Bool.false_eq_true, Bool.true_eq_false, eq_self, false_and, true_and, and_false, and_true, not_false_eq_true, not_true_eq_false, hn, e1, e2]
      refine ⟨z, rfl, hQ _ ⟨(hF.tr (Fs_e F1 (fun y h1 h2 => Or.inr ⟨h1, h2⟩))).tr ⟨F2.mono (fun y hy => Or.inr (Or.inl hy)), fun j _ _ => F2.I (by omega) j⟩, by rw [F2.I (by omega), F1.2 39 (by omega)]; exact h39, fun j hj => by rw [o2 j hj, F1.I (by omega) (by omega)]; exact ho j hj, v2⟩⟩
  · rintro n u -
    show f_X12_solve_89 k (n + 1) _ (nI 1024) u = _
    rw [f_X12_solve_89]
    simp (disch := omega) only [bind_s, bd2_s, rdI_ok, rdJ_ok, rdT_ok, ixR_ok, wrI_ok, wrJ_ok, wrT_none, pfI_s, pfJ_s, pfZ_0, pfZ_1, zr_b2, nl_n, nl_s, nI_add, nI_mul, nI_sub, nI_shlm, nI_shrd, nI_or8, nI_or8r, nI_or5r, nI_and255, nI_and31, nI_and7, nI_and1, nI_andK, nI_clr, Nat.one_mul, nI_eqz, nI_eqq, nI_ltq, nI_ltz, nI_zlt, nI_nm1, nI_m2, m1_z, m1_lt0, m1_m1, b2_z, nI1_z, nI0_z, tb_0, tb_1, ite_nI, I_at, I_ne, J_at, J_ne, J_setI, I_setJ, ↓reduceIte, ltN_T, ltN_F, eqN_T, eqN_F, pow8, pow5, b2_f0, b2_t0, reduceCtorEq, Bool.false_eq_true, Bool.true_eq_false, eq_self, false_and, true_and, and_false, and_true, not_false_eq_true, not_true_eq_false]
  · rintro u ⟨e, h1, h39, h2, h3⟩
    refine ⟨u, e, h1, h39, h2, fun t ht => ?_⟩
    obtain ⟨v, ev, mv⟩ := h3 t ht
    rw [ev]
    congr 1
    refine (mn_eq (Mn_same mv fun y => ?_)).symm
    constructor
    · rintro ⟨s, f, act, c, r1, r2, r3⟩
      exact ⟨s, f, act, c, r1, r2, r3, Or.inl (EG_ok a _ _ _ _ _ _ r1).1⟩
    · rintro ⟨s, f, act, c, r1, r2, r3, -⟩
      exact ⟨s, f, act, c, r1, r2, r3⟩
end
