section
/-! ===== a walk over an hour meets each step once ===== -/
variable {A : AW} {σ : ST} {d S h : Nat} {x : Nat × Nat} {C : Nat → Nat → Nat}
/-- the state of a low part and SPAN bits; and back -/
def stc (A : AW) (low fl : Nat) : Nat := low % 2 ^ cK A 1 + 32 * (low / 2 ^ cK A 1) + 256 * fl
def lwc (A : AW) (t : Nat) : Nat := t / 32 % 8 * 2 ^ cK A 1 + t % 32
theorem stc_at (a : AOK A) {low fl : Nat} (hl : low < LW A) : stc A low fl % 32 = low % 2 ^ cK A 1 ∧ stc A low fl / 32 % 8 = low / 2 ^ cK A 1 ∧ stc A low fl / 256 = fl ∧ vst A (stc A low fl) := by
  have hK := K32 a
  have hP := Nat.two_pow_pos (cK A 1)
  obtain ⟨q1, q2, -⟩ := lo_of hP hl
  have hR := RR_le A
  have e1 : stc A low fl % 32 = low % 2 ^ cK A 1 := by unfold stc; omega
  have e2 : stc A low fl / 32 % 8 = low / 2 ^ cK A 1 := by unfold stc; omega
  refine ⟨e1, e2, by unfold stc; omega, ?_⟩
  unfold vst
  rw [e1, e2]
  refine ⟨q2, ?_⟩
  unfold RR at q1
  split at q1
  · left; omega
  · right; omega
theorem lwc_st (a : AOK A) {low fl : Nat} (hl : low < LW A) : lwc A (stc A low fl) = low := by
  obtain ⟨e1, e2, -, -⟩ := stc_at (fl := fl) a hl
  unfold lwc
  rw [e1, e2]
  exact (lo_of (Nat.two_pow_pos (cK A 1)) hl).2.2
theorem lwc_lt (a : AOK A) {t : Nat} (v : vst A t) : lwc A t < LW A ∧ stc A (lwc A t) (t / 256) = t := by
  have h1 : t / 32 % 8 < RR A := by
    unfold RR
    rcases v.2 with e | e
    · split <;> omega
    · split <;> omega
  refine ⟨lo_lt h1 v.1, ?_⟩
  unfold stc lwc
  rw [dm_m v.1, dm_d v.1]
  omega
noncomputable def edc (A : AW) (S : Nat) (x : Nat × Nat) (h low fl f act : Nat) : Option (Nat × Nat) := prn (EG A S x) (Dd A S) h (stc A low fl) f act
theorem edc_iff (a : AOK A) {low fl f act t c : Nat} (hl : low < LW A) (hfl : fl < 2 ^ nS A S) (hf : f < 2 ^ cK A 0) (hok : okB A S h f (low % 2 ^ cK A 1) (low / 2 ^ cK A 1) = true) : edc A S x h low fl f act = some (t, c) ↔ (aX A S x h act && decide (act = 6 ∨ act < nH A)) = true ∧ blk A (so A f (low % 2 ^ cK A 1) (low / 2 ^ cK A 1)) (low / 2 ^ cK A 1) act = false ∧ (fl ||| br A S (nP A) h act) &&& du A S (nP A) h = du A S (nP A) h ∧ t = tos A S h (stc A low fl) f act ∧ c = cst A S x h act := by
  obtain ⟨e1, e2, e3, e4⟩ := stc_at (fl := fl) a hl
  unfold edc
  rw [prn_iff, EG_iff]
  unfold okB at hok
  simp only [Bool.and_eq_true, decide_eq_true_eq] at hok
  unfold okf oka
  rw [e1, e2, e3, Bool.and_eq_true, decide_eq_true_iff]
  constructor
  · rintro ⟨⟨⟨_, _, h1, h2, h3⟩, rfl, rfl⟩, hD⟩
    unfold Dd at hD
    rw [decide_eq_true_iff, (tos_at (h := h) (f := f) (act := act) a e4 (by rw [e3]; exact hfl)).2.2.1, e3] at hD
    exact ⟨⟨h2, h1⟩, h3, hD, rfl, rfl⟩
  · rintro ⟨⟨h2, h1⟩, h3, hD, rfl, rfl⟩
    refine ⟨⟨⟨⟨e4, hfl⟩, ⟨hf, hok.1, hok.2.1, hok.2.2⟩, h1, h2, h3⟩, rfl, rfl⟩, ?_⟩
    unfold Dd
    rw [decide_eq_true_iff, (tos_at (h := h) (f := f) (act := act) a e4 (by rw [e3]; exact hfl)).2.2.1, e3]
    exact hD
theorem tos_lw (a : AOK A) {low fl f act : Nat} (hl : low < LW A) (hfl : fl < 2 ^ nS A S) : lwc A (tos A S h (stc A low fl) f act) = nxr A (so A f (low % 2 ^ cK A 1) (low / 2 ^ cK A 1)) (low / 2 ^ cK A 1) act * 2 ^ cK A 1 + nxk A (so A f (low % 2 ^ cK A 1) (low / 2 ^ cK A 1)) (low % 2 ^ cK A 1) (low / 2 ^ cK A 1) act ∧ tos A S h (stc A low fl) f act / 256 = (fl ||| br A S (nP A) h act) := by
  obtain ⟨e1, e2, e3, e4⟩ := stc_at (fl := fl) a hl
  obtain ⟨t1, t2, t3, -⟩ := tos_at (h := h) (f := f) (act := act) a e4 (by rw [e3]; exact hfl)
  rw [e1, e2] at t1
  rw [e2, e1] at t2
  rw [e3] at t3
  unfold lwc
  rw [t1, t2, t3]
  exact ⟨rfl, rfl⟩
def KK : Int32 → Int32 → Int32 → Int32 → Int32 → Int32 → Int32 → Int32 → ST → Option ST := fun _ _ _ _ _ _ _ _ s => some s
theorem meet_k {k : Int32 → Int32 → Int32 → Int32 → Int32 → Int32 → Int32 → Int32 → ST → Option ST} {x1 x2 x3 x4 x5 x6 x7 x8 x9 x10 z : Int32} {s : ST} (hz : z ≠ -1) : f_X2_meet_70 d k x1 x2 x3 x4 x5 x6 x7 x8 x9 x10 z s = (f_X2_meet_70 d KK x1 x2 x3 x4 x5 x6 x7 x8 x9 x10 z s).bind (fun s => k x1 x2 x3 x4 x5 x6 x7 (x8 + nI 1) s) := by
  unfold f_X2_meet_70 KK
  rw [if_neg hz, if_neg hz]
  split
  · cases rdI s (d + 1) 13312 ((x2 + nI 1) * nI 1024 + (z <<< (nI 8 &&& 31) ||| x4)) with
    | none => rfl
    | some v =>
      simp only [bind_s]
      cases wrI s (d + 1) 13312 ((x2 + nI 1) * nI 1024 + (z <<< (nI 8 &&& 31) ||| x4)) (if x10 < v then x10 else v) with
      | none => rfl
      | some u => rfl
  · cases rdI s (d + 1) 13312 ((x2 + nI 1) * nI 1024 + (z <<< (nI 8 &&& 31) ||| x4)) with
    | none => rfl
    | some v =>
      simp only [bind_s]
      split
      · split
        · cases rdI s 195 1024 x3 with
          | none => rfl
          | some w =>
            simp only [bind_s]
            cases f_X2_keep d x2 x9 (z <<< (nI 8 &&& 31) ||| x4) w x5 s with
            | none => rfl
            | some u => rfl
        · cases rdI s 195 1024 x3 with
          | none => rfl
          | some w =>
            simp only [bind_s]
            cases f_X2_addTally d x2 x9 (z <<< (nI 8 &&& 31) ||| x4) w x5 s with
            | none => rfl
            | some u => rfl
      · rfl
theorem meet_m1 {k : Int32 → Int32 → Int32 → Int32 → Int32 → Int32 → Int32 → Int32 → ST → Option ST} {x1 x2 x3 x4 x5 x6 x7 x8 x9 x10 : Int32} {s : ST} : f_X2_meet_70 d k x1 x2 x3 x4 x5 x6 x7 x8 x9 x10 (-1) s = k x1 x2 x3 x4 x5 x6 x7 (x8 + nI 1) s := by
  unfold f_X2_meet_70
  rw [if_pos rfl]
/-- what a pass keeps up, step by step; V: the steps that are done (choice, look, SPAN bits) -/
def WOK (d : Nat) (A : AW) (S : Nat) (x : Nat × Nat) (h : Nat) (C : Nat → Nat → Nat) (pass : Nat) (lk : List Nat) (Jv : (Nat → Nat → Nat → Prop) → ST → Prop) : Prop :=
  (∀ V s, Jv V s → BS d A S x h C s ∧ ∀ i, i < lk.length → s.1 (d + 3) i = nI (lk.getD i 0)) ∧
  (∀ V V' s, (∀ act l fl, act < 7 → l ∈ lk → fl < 2 ^ nS A S → (∃ t c, edc A S x h (l % 256) fl (l / 256) act = some (t, c) ∧ C fl (l % 256) < 1048576) → (V act l fl ↔ V' act l fl)) → Jv V s → Jv V' s) ∧
  (∀ V s act l fl t c, act < 7 → l ∈ lk → fl < 2 ^ nS A S → edc A S x h (l % 256) fl (l / 256) act = some (t, c) → C fl (l % 256) < 1048576 → ¬ V act l fl → Jv V s → ∃ s', f_X2_meet_70 d KK (nI pass) (nI h) (nI l) (nI (lwc A t)) (nI act) (nI c) (nI (l % 256)) (nI fl) (nI (fl * 256 + l % 256)) (nI (C fl (l % 256) + c)) (nI (t / 256)) s = some s' ∧ Jv (fun a' l' f' => V a' l' f' ∨ (a' = act ∧ l' = l ∧ f' = fl)) s')
theorem t_walk10 (a : AOK A) (hd : d = 197 ∨ d = 213) (hh : h < 12) (hC : ∀ fl low, C fl low = 1048576 ∨ C fl low ≤ 2000) {pass : Nat} {lk : List Nat} (hlen : lk.length ≤ 1024) (hnd : lk.Nodup) (hlk : ∀ l, l ∈ lk → l / 256 < 2 ^ cK A 0 ∧ l % 256 < LW A ∧ okB A S h (l / 256) (l % 256 % 2 ^ cK A 1) (l % 256 / 2 ^ cK A 1) = true) {Jv : (Nat → Nat → Nat → Prop) → ST → Prop} (w : WOK d A S x h C pass lk Jv) (j0 : Jv (fun _ _ _ => False) σ) : ∃ s, f_X2_walk_10 d FU (nI pass) (nI h) (nI lk.length) (nI 0) σ = some s ∧ Jv (fun _ _ _ => True) s := by
  obtain ⟨hB, hext, hact⟩ := w
  have h4 := F4 a
  have hs4 := S4 (S := S) a
  have hLW := LW_256 a
  have hext2 : ∀ {V V' : Nat → Nat → Nat → Prop} {s : ST}, (∀ act l fl, act < 7 → l ∈ lk → fl < 2 ^ nS A S → (V act l fl ↔ V' act l fl)) → Jv V s → Jv V' s := fun e j => hext _ _ _ (fun act l fl h1 h2 h3 _ => e act l fl h1 h2 h3) j
  -- over the SPAN bits
  have meet : ∀ (V : Nat → Nat → Nat → Prop) (s : ST) (act l : Nat), act < 7 → l ∈ lk → aX A S x h act = true → (act = 6 ∨ act < nH A) → blk A (so A (l / 256) (l % 256 % 2 ^ cK A 1) (l % 256 / 2 ^ cK A 1)) (l % 256 / 2 ^ cK A 1) act = false → (∀ fl, ¬ V act l fl) → Jv V s → ∃ s', f_X2_meet d (nI pass) (nI h) (nI l) (nI (nxr A (so A (l / 256) (l % 256 % 2 ^ cK A 1) (l % 256 / 2 ^ cK A 1)) (l % 256 / 2 ^ cK A 1) act * 2 ^ cK A 1 + nxk A (so A (l / 256) (l % 256 % 2 ^ cK A 1) (l % 256 / 2 ^ cK A 1)) (l % 256 % 2 ^ cK A 1) (l % 256 / 2 ^ cK A 1) act)) (nI act) (nI (cst A S x h act)) s = some s' ∧ Jv (fun a' l' f' => V a' l' f' ∨ (a' = act ∧ l' = l)) s' := by
    intro V s act l ha hl hax hah hbl hV j
    obtain ⟨l1, l2, l3⟩ := hlk l hl
    generalize hnl : nxr A (so A (l / 256) (l % 256 % 2 ^ cK A 1) (l % 256 / 2 ^ cK A 1)) (l % 256 / 2 ^ cK A 1) act * 2 ^ cK A 1 + nxk A (so A (l / 256) (l % 256 % 2 ^ cK A 1) (l % 256 / 2 ^ cK A 1)) (l % 256 % 2 ^ cK A 1) (l % 256 / 2 ^ cK A 1) act = nl
    unfold f_X2_meet
    rw [nI_and255]
    refine Exists.elim (loopE (fun n i s => f_X2_meet_10 d n (nI pass) (nI h) (nI l) (nI nl) (nI act) (nI (cst A S x h act)) (nI (l % 256)) (nI i) s) (2 ^ nS A S) (fun i s => Jv (fun a' l' f' => V a' l' f' ∨ (a' = act ∧ l' = l ∧ f' < i)) s) (fun s => some s) ?_ ?_ FU 0 s (by rw [FU_eq]; omega) (Nat.zero_le _) (hext2 (fun _ _ _ _ _ _ => ⟨fun h => Or.inl h, fun h => h.resolve_right (fun q => by omega)⟩) j)) ?_
    · intro n i u hi ju Q hQ
      obtain ⟨⟨b1, b2, b3, b4, b5⟩, -⟩ := hB _ _ ju
      have f9 := b4.2.2.1
      have bi := b5 i (l % 256) hi l2
      have hCi := hC i (l % 256)
      have hcs := cst_le (x := x) (S := S) a h act
      have fa := t_flagsAfter a b3 (h := h) (act := act) (fl := i) hh ha hi
      have ed := fun t c => edc_iff (S := S) (x := x) (h := h) (t := t) (c := c) (act := act) a l2 hi l1 l3
      have skip : (∀ t c, edc A S x h (l % 256) i (l / 256) act = some (t, c) → ¬ C i (l % 256) < 1048576) → Jv (fun a' l' f' => V a' l' f' ∨ (a' = act ∧ l' = l ∧ f' < i + 1)) u := by
        intro hno
        refine hext _ _ _ (fun a' l' f' h1 h2 h3 h5 => ⟨fun q => ?_, fun q => ?_⟩) ju
        · rcases q with q | q
          · exact Or.inl q
          · exact Or.inr ⟨q.1, q.2.1, by omega⟩
        · rcases q with q | ⟨rfl, rfl, q⟩
          · exact Or.inl q
          · by_cases e : f' = i
            · subst e
              obtain ⟨t, c, h6, h7⟩ := h5
              exact absurd h7 (hno t c h6)
            · exact Or.inr ⟨rfl, rfl, by omega⟩
      show ∃ y, f_X2_meet_10 d (n + 1) (nI pass) (nI h) (nI l) (nI nl) (nI act) (nI (cst A S x h act)) (nI (l % 256)) (nI i) u = f_X2_meet_10 d n (nI pass) (nI h) (nI l) (nI nl) (nI act) (nI (cst A S x h act)) (nI (l % 256)) (nI (i + 1)) y ∧ _
      rw [f_X2_meet_10]
      by_cases hfar : C i (l % 256) + cst A S x h act < 1048576
      · by_cases hdu : (i ||| br A S (nP A) h act) &&& du A S (nP A) h = du A S (nP A) h
        · have hbr : i ||| br A S (nP A) h act < 2 ^ nS A S := Nat.or_lt_two_pow hi (br_lt _ _ _)
          have hz : nI (i ||| br A S (nP A) h act) ≠ -1 := fun q => by rw [nI_nm1 (by omega)] at q; exact q
          have he : edc A S x h (l % 256) i (l / 256) act = some (tos A S h (stc A (l % 256) i) (l / 256) act, cst A S x h act) := (ed _ _).mpr ⟨by rw [hax, decide_eq_true hah]; rfl, hbl, hdu, rfl, rfl⟩
          obtain ⟨w1, w2⟩ := tos_lw (S := S) (h := h) (f := l / 256) (act := act) a l2 hi
          rw [hnl] at w1
          obtain ⟨s', e1, e2⟩ := hact _ _ act l i _ _ ha hl hi he (by omega) (fun q => q.elim (hV i) (fun q => by omega)) ju
          rw [w1, w2] at e1
          simp (disch := omega) only [bind_s, bd2_s, rdI_ok, rdJ_ok, rdT_ok, ixR_ok, wrI_ok, wrJ_ok, wrT_none, pfI_s, pfJ_s, pfZ_0, pfZ_1, zr_b2, nl_n, nl_s, nI_add, nI_mul, nI_sub, nI_shlm, nI_shrd, nI_or8, nI_or8r, nI_or5r, nI_and255, nI_and31, nI_and7, nI_and1, nI_andK, nI_clr, Nat.one_mul, nI_eqz, nI_eqq, nI_ltq, nI_ltz, nI_zlt, nI_nm1, nI_m2, m1_z, m1_lt0, m1_m1, b2_z, nI1_z, nI0_z, tb_0, tb_1, ite_nI, I_at, I_ne, J_at, J_ne, J_setI, I_setJ, ↓reduceIte, ltN_T, ltN_F, eqN_T, eqN_F, pow8, pow5, b2_f0, b2_t0, reduceCtorEq, Bool.false_eq_true, Bool.true_eq_false, eq_self, false_and, true_and, and_false, and_true, not_false_eq_true, not_true_eq_false, f9, bi, fa]
          rw [meet_k hz, e1]
          simp (disch := omega) only [bind_s, bd2_s, rdI_ok, rdJ_ok, rdT_ok, ixR_ok, wrI_ok, wrJ_ok, wrT_none, pfI_s, pfJ_s, pfZ_0, pfZ_1, zr_b2, nl_n, nl_s, nI_add, nI_mul, nI_sub, nI_shlm, nI_shrd, nI_or8, nI_or8r, nI_or5r, nI_and255, nI_and31, nI_and7, nI_and1, nI_andK, nI_clr, Nat.one_mul, nI_eqz, nI_eqq, nI_ltq, nI_ltz, nI_zlt, nI_nm1, nI_m2, m1_z, m1_lt0, m1_m1, b2_z, nI1_z, nI0_z, tb_0, tb_1, ite_nI, I_at, I_ne, J_at, J_ne, J_setI, I_setJ, ↓reduceIte, ltN_T, ltN_F, eqN_T, eqN_F, pow8, pow5, b2_f0, b2_t0, reduceCtorEq, Bool.false_eq_true, Bool.true_eq_false, eq_self, false_and, true_and, and_false, and_true, not_false_eq_true, not_true_eq_false]
          refine ⟨s', rfl, hQ _ (hext2 (fun a' l' f' _ _ _ => ⟨fun q => ?_, fun q => ?_⟩) e2)⟩
          · rcases q with (q | q) | q
            · exact Or.inl q
            · exact Or.inr ⟨q.1, q.2.1, by omega⟩
            · exact Or.inr ⟨q.1, q.2.1, by omega⟩
          · rcases q with q | ⟨q1, q2, q3⟩
            · exact Or.inl (Or.inl q)
            · by_cases e : f' = i
              · exact Or.inr ⟨q1, q2, e⟩
              · exact Or.inl (Or.inr ⟨q1, q2, by omega⟩)
        · simp (disch := omega) only [bind_s, bd2_s, rdI_ok, rdJ_ok, rdT_ok, ixR_ok, wrI_ok, wrJ_ok, wrT_none, pfI_s, pfJ_s, pfZ_0, pfZ_1, zr_b2, nl_n, nl_s, nI_add, nI_mul, nI_sub, nI_shlm, nI_shrd, nI_or8, nI_or8r, nI_or5r, nI_and255, nI_and31, nI_and7, nI_and1, nI_andK, nI_clr, Nat.one_mul, nI_eqz, nI_eqq, nI_ltq, nI_ltz, nI_zlt, nI_nm1, nI_m2, m1_z, m1_lt0, m1_m1, b2_z, nI1_z, nI0_z, tb_0, tb_1, ite_nI, I_at, I_ne, J_at, J_ne, J_setI, I_setJ, ↓reduceIte, ltN_T, ltN_F, eqN_T, eqN_F, pow8, pow5, b2_f0, b2_t0, reduceCtorEq, Bool.false_eq_true, Bool.true_eq_false, eq_self, false_and, true_and, and_false, and_true, not_false_eq_true, not_true_eq_false, f9, bi, fa]
          rw [meet_m1]
          simp (disch := omega) only [bind_s, bd2_s, rdI_ok, rdJ_ok, rdT_ok, ixR_ok, wrI_ok, wrJ_ok, wrT_none, pfI_s, pfJ_s, pfZ_0, pfZ_1, zr_b2, nl_n, nl_s, nI_add, nI_mul, nI_sub, nI_shlm, nI_shrd, nI_or8, nI_or8r, nI_or5r, nI_and255, nI_and31, nI_and7, nI_and1, nI_andK, nI_clr, Nat.one_mul, nI_eqz, nI_eqq, nI_ltq, nI_ltz, nI_zlt, nI_nm1, nI_m2, m1_z, m1_lt0, m1_m1, b2_z, nI1_z, nI0_z, tb_0, tb_1, ite_nI, I_at, I_ne, J_at, J_ne, J_setI, I_setJ, ↓reduceIte, ltN_T, ltN_F, eqN_T, eqN_F, pow8, pow5, b2_f0, b2_t0, reduceCtorEq, Bool.false_eq_true, Bool.true_eq_false, eq_self, false_and, true_and, and_false, and_true, not_false_eq_true, not_true_eq_false]
          exact ⟨u, rfl, hQ _ (skip (fun t c q => absurd ((ed t c).mp q).2.2.1 hdu))⟩
      · simp (disch := omega) only [bind_s, bd2_s, rdI_ok, rdJ_ok, rdT_ok, ixR_ok, wrI_ok, wrJ_ok, wrT_none, pfI_s, pfJ_s, pfZ_0, pfZ_1, zr_b2, nl_n, nl_s, nI_add, nI_mul, nI_sub, nI_shlm, nI_shrd, nI_or8, nI_or8r, nI_or5r, nI_and255, nI_and31, nI_and7, nI_and1, nI_andK, nI_clr, Nat.one_mul, nI_eqz, nI_eqq, nI_ltq, nI_ltz, nI_zlt, nI_nm1, nI_m2, m1_z, m1_lt0, m1_m1, b2_z, nI1_z, nI0_z, tb_0, tb_1, ite_nI, I_at, I_ne, J_at, J_ne, J_setI, I_setJ, ↓reduceIte, ltN_T, ltN_F, eqN_T, eqN_F, pow8, pow5, b2_f0, b2_t0, reduceCtorEq, Bool.false_eq_true, Bool.true_eq_false, eq_self, false_and, true_and, and_false, and_true, not_false_eq_true, not_true_eq_false, f9, bi]
        rw [meet_m1]
        simp (disch := omega) only [bind_s, bd2_s, rdI_ok, rdJ_ok, rdT_ok, ixR_ok, wrI_ok, wrJ_ok, wrT_none, pfI_s, pfJ_s, pfZ_0, pfZ_1, zr_b2, nl_n, nl_s, nI_add, nI_mul, nI_sub, nI_shlm, nI_shrd, nI_or8, nI_or8r, nI_or5r, nI_and255, nI_and31, nI_and7, nI_and1, nI_andK, nI_clr, Nat.one_mul, nI_eqz, nI_eqq, nI_ltq, nI_ltz, nI_zlt, nI_nm1, nI_m2, m1_z, m1_lt0, m1_m1, b2_z, nI1_z, nI0_z, tb_0, tb_1, ite_nI, I_at, I_ne, J_at, J_ne, J_setI, I_setJ, ↓reduceIte, ltN_T, ltN_F, eqN_T, eqN_F, pow8, pow5, b2_f0, b2_t0, reduceCtorEq, Bool.false_eq_true, Bool.true_eq_false, eq_self, false_and, true_and, and_false, and_true, not_false_eq_true, not_true_eq_false]
        exact ⟨u, rfl, hQ _ (skip (fun t c q => by omega))⟩
    · intro n u ju
      obtain ⟨⟨b1, b2, b3, b4, b5⟩, -⟩ := hB _ _ ju
      have f9 := b4.2.2.1
      show f_X2_meet_10 d (n + 1) _ _ _ _ _ _ _ (nI (2 ^ nS A S)) u = _
      rw [f_X2_meet_10]
      simp (disch := omega) only [bind_s, bd2_s, rdI_ok, rdJ_ok, rdT_ok, ixR_ok, wrI_ok, wrJ_ok, wrT_none, pfI_s, pfJ_s, pfZ_0, pfZ_1, zr_b2, nl_n, nl_s, nI_add, nI_mul, nI_sub, nI_shlm, nI_shrd, nI_or8, nI_or8r, nI_or5r, nI_and255, nI_and31, nI_and7, nI_and1, nI_andK, nI_clr, Nat.one_mul, nI_eqz, nI_eqq, nI_ltq, nI_ltz, nI_zlt, nI_nm1, nI_m2, m1_z, m1_lt0, m1_m1, b2_z, nI1_z, nI0_z, tb_0, tb_1, ite_nI, I_at, I_ne, J_at, J_ne, J_setI, I_setJ, ↓reduceIte, ltN_T, ltN_F, eqN_T, eqN_F, pow8, pow5, b2_f0, b2_t0, reduceCtorEq, Bool.false_eq_true, Bool.true_eq_false, eq_self, false_and, true_and, and_false, and_true, not_false_eq_true, not_true_eq_false, f9]
    · rintro s' ⟨e, j'⟩
      refine ⟨s', e, hext2 (fun a' l' f' _ _ hf' => ⟨fun q => ?_, fun q => ?_⟩) j'⟩
      · rcases q with q | q
        · exact Or.inl q
        · exact Or.inr ⟨q.1, q.2.1⟩
      · rcases q with q | q
        · exact Or.inl q
        · exact Or.inr ⟨q.1, q.2, hf'⟩
  -- over the looks, over the choices
  refine Exists.elim (loopE (fun n i s => f_X2_walk_10 d n (nI pass) (nI h) (nI lk.length) (nI i) s) 7 (fun i s => Jv (fun a' _ _ => a' < i) s) (fun s => some s) ?_ ?_ FU 0 σ (by rw [FU_eq]; omega) (Nat.zero_le _) (hext2 (fun _ _ _ _ _ _ => ⟨fun h => h.elim, fun h => by omega⟩) j0)) ?_
  · intro n act s ha js Q hQ
    obtain ⟨⟨b1, b2, b3, b4, b5⟩, -⟩ := hB _ _ js
    have mc := t_mayChoose b3 (h := h) (act := act) hh ha
    show ∃ y, f_X2_walk_10 d (n + 1) (nI pass) (nI h) (nI lk.length) (nI act) s = f_X2_walk_10 d n (nI pass) (nI h) (nI lk.length) (nI (act + 1)) y ∧ _
    rw [f_X2_walk_10]
    cases hm : aX A S x h act && decide (act = 6 ∨ act < nH A) with
    | false =>
      rw [hm] at mc
      simp (disch := omega) only [bind_s, bd2_s, rdI_ok, rdJ_ok, rdT_ok, ixR_ok, wrI_ok, wrJ_ok, wrT_none, pfI_s, pfJ_s, pfZ_0, pfZ_1, zr_b2, nl_n, nl_s, nI_add, nI_mul, nI_sub, nI_shlm, nI_shrd, nI_or8, nI_or8r, nI_or5r, nI_and255, nI_and31, nI_and7, nI_and1, nI_andK, nI_clr, Nat.one_mul, nI_eqz, nI_eqq, nI_ltq, nI_ltz, nI_zlt, nI_nm1, nI_m2, m1_z, m1_lt0, m1_m1, b2_z, nI1_z, nI0_z, tb_0, tb_1, ite_nI, I_at, I_ne, J_at, J_ne, J_setI, I_setJ, ↓reduceIte, ltN_T, ltN_F, eqN_T, eqN_F, pow8, pow5, b2_f0, b2_t0, reduceCtorEq, Bool.false_eq_true, Bool.true_eq_false, eq_self, false_and, true_and, and_false, and_true, not_false_eq_true, not_true_eq_false, mc]
      refine ⟨s, rfl, hQ _ (hext _ _ _ (fun a' l' f' h1 h2 h3 h5 => ⟨fun q => by omega, fun q => ?_⟩) js)⟩
      by_cases e : a' = act
      · subst e
        obtain ⟨t, c, h6, -⟩ := h5
        obtain ⟨l1, l2, l3⟩ := hlk l' h2
        rw [((edc_iff a l2 h3 l1 l3).mp h6).1] at hm
        cases hm
      · omega
    | true =>
      rw [hm] at mc
      simp only [Bool.and_eq_true, decide_eq_true_eq] at hm
      have co := t_costOf a b1 b3 (h := h) (act := act) hh ha hm.1
      simp (disch := omega) only [bind_s, bd2_s, rdI_ok, rdJ_ok, rdT_ok, ixR_ok, wrI_ok, wrJ_ok, wrT_none, pfI_s, pfJ_s, pfZ_0, pfZ_1, zr_b2, nl_n, nl_s, nI_add, nI_mul, nI_sub, nI_shlm, nI_shrd, nI_or8, nI_or8r, nI_or5r, nI_and255, nI_and31, nI_and7, nI_and1, nI_andK, nI_clr, Nat.one_mul, nI_eqz, nI_eqq, nI_ltq, nI_ltz, nI_zlt, nI_nm1, nI_m2, m1_z, m1_lt0, m1_m1, b2_z, nI1_z, nI0_z, tb_0, tb_1, ite_nI, I_at, I_ne, J_at, J_ne, J_setI, I_setJ, ↓reduceIte, ltN_T, ltN_F, eqN_T, eqN_F, pow8, pow5, b2_f0, b2_t0, reduceCtorEq, Bool.false_eq_true, Bool.true_eq_false, eq_self, false_and, true_and, and_false, and_true, not_false_eq_true, not_true_eq_false, mc, co]
      have L : ∃ s', f_X2_walk_48 d (fun x1_11 x2_12 x3_13 x4_14 s15 => f_X2_walk_10 d n x1_11 x2_12 x3_13 (x4_14 + nI 1) s15) FU (nI pass) (nI h) (nI lk.length) (nI act) (nI (cst A S x h act)) (nI 0) s = f_X2_walk_10 d n (nI pass) (nI h) (nI lk.length) (nI act + nI 1) s' ∧ Jv (fun a' l' f' => a' < act ∨ (a' = act ∧ l' ∈ lk.take lk.length)) s' := by
        refine loopE (fun m i s => f_X2_walk_48 d (fun x1_11 x2_12 x3_13 x4_14 s15 => f_X2_walk_10 d n x1_11 x2_12 x3_13 (x4_14 + nI 1) s15) m (nI pass) (nI h) (nI lk.length) (nI act) (nI (cst A S x h act)) (nI i) s) lk.length (fun i s => Jv (fun a' l' f' => a' < act ∨ (a' = act ∧ l' ∈ lk.take i)) s) (fun s => f_X2_walk_10 d n (nI pass) (nI h) (nI lk.length) (nI act + nI 1) s) ?_ ?_ FU 0 s (by rw [FU_eq]; omega) (Nat.zero_le _) (hext2 (fun _ _ _ _ _ _ => ⟨fun h => Or.inl h, fun h => h.resolve_right (fun q => by simp at q)⟩) js)
        · intro m i u hi ju Q hQ
          obtain ⟨⟨b1, b2, b3, b4, b5⟩, bl⟩ := hB _ _ ju
          have hl := getD_mem hi
          have eli := bl i hi
          generalize hll : lk.getD i 0 = l at hl eli
          obtain ⟨l1, l2, l3⟩ := hlk l hl
          have tk : lk.take (i + 1) = lk.take i ++ [l] := by
            rw [List.take_succ, List.getElem?_eq_getElem hi, ← hll, List.getD_eq_getElem?_getD, List.getElem?_eq_getElem hi]; rfl
          have hni : l ∉ lk.take i := by
            have hn2 : (lk.take (i + 1)).Nodup := hnd.sublist (List.take_sublist _ _)
            rw [tk, List.nodup_append] at hn2
            exact fun q => hn2.2.2 l q l (List.mem_singleton.mpr rfl) rfl
          have en := (TB_tr a b2 l1 l2).2 act ha
          rw [show l / 256 * 256 + l % 256 = l by omega] at en
          show ∃ y, f_X2_walk_48 d _ (m + 1) (nI pass) (nI h) (nI lk.length) (nI act) (nI (cst A S x h act)) (nI i) u = f_X2_walk_48 d _ m (nI pass) (nI h) (nI lk.length) (nI act) (nI (cst A S x h act)) (nI (i + 1)) y ∧ _
          rw [f_X2_walk_48]
          have hl7 : l * 7 + act < 7168 := by omega
          unfold nv at en
          cases hb : blk A (so A (l / 256) (l % 256 % 2 ^ cK A 1) (l % 256 / 2 ^ cK A 1)) (l % 256 / 2 ^ cK A 1) act with
          | true =>
            rw [if_pos hb] at en
            simp (disch := omega) only [bind_s, bd2_s, rdI_ok, rdJ_ok, rdT_ok, ixR_ok, wrI_ok, wrJ_ok, wrT_none, pfI_s, pfJ_s, pfZ_0, pfZ_1, zr_b2, nl_n, nl_s, nI_add, nI_mul, nI_sub, nI_shlm, nI_shrd, nI_or8, nI_or8r, nI_or5r, nI_and255, nI_and31, nI_and7, nI_and1, nI_andK, nI_clr, Nat.one_mul, nI_eqz, nI_eqq, nI_ltq, nI_ltz, nI_zlt, nI_nm1, nI_m2, m1_z, m1_lt0, m1_m1, b2_z, nI1_z, nI0_z, tb_0, tb_1, ite_nI, I_at, I_ne, J_at, J_ne, J_setI, I_setJ, ↓reduceIte, ltN_T, ltN_F, eqN_T, eqN_F, pow8, pow5, b2_f0, b2_t0, reduceCtorEq, Bool.false_eq_true, Bool.true_eq_false, eq_self, false_and, true_and, and_false, and_true, not_false_eq_true, not_true_eq_false, eli, en]
            refine ⟨u, rfl, hQ _ (hext _ _ _ (fun a' l' f' h1 h2 h3 h5 => ⟨fun q => ?_, fun q => ?_⟩) ju)⟩
            · rcases q with q | q
              · exact Or.inl q
              · exact Or.inr ⟨q.1, by rw [tk]; exact List.mem_append.mpr (Or.inl q.2)⟩
            · rcases q with q | ⟨rfl, q⟩
              · exact Or.inl q
              · rw [tk, List.mem_append, List.mem_singleton] at q
                rcases q with q | rfl
                · exact Or.inr ⟨rfl, q⟩
                · obtain ⟨t, c, h6, -⟩ := h5
                  rw [((edc_iff a l2 h3 l1 l3).mp h6).2.1] at hb
                  cases hb
          | false =>
            rw [if_neg (by rw [hb]; simp)] at en
            obtain ⟨q1, q2, -⟩ := lo_of (Nat.two_pow_pos (cK A 1)) l2
            have hR := RR_le A
            have w1 := nxk_lt a (so := so A (l / 256) (l % 256 % 2 ^ cK A 1) (l % 256 / 2 ^ cK A 1)) (run := l % 256 / 2 ^ cK A 1) (act := act) q2
            have w2 := nxr_lt (A := A) (so := so A (l / 256) (l % 256 % 2 ^ cK A 1) (l % 256 / 2 ^ cK A 1)) (run := l % 256 / 2 ^ cK A 1) (act := act) (by omega)
            have w3 := lo_lt w2 w1
            have hK := K32 a
            obtain ⟨s', e1, e2⟩ := meet _ u act l ha hl hm.1 hm.2 hb (fun fl q => q.elim (by omega) (fun q => hni q.2)) ju
            simp (disch := omega) only [bind_s, bd2_s, rdI_ok, rdJ_ok, rdT_ok, ixR_ok, wrI_ok, wrJ_ok, wrT_none, pfI_s, pfJ_s, pfZ_0, pfZ_1, zr_b2, nl_n, nl_s, nI_add, nI_mul, nI_sub, nI_shlm, nI_shrd, nI_or8, nI_or8r, nI_or5r, nI_and255, nI_and31, nI_and7, nI_and1, nI_andK, nI_clr, Nat.one_mul, nI_eqz, nI_eqq, nI_ltq, nI_ltz, nI_zlt, nI_nm1, nI_m2, m1_z, m1_lt0, m1_m1, b2_z, nI1_z, nI0_z, tb_0, tb_1, ite_nI, I_at, I_ne, J_at, J_ne, J_setI, I_setJ, ↓reduceIte, ltN_T, ltN_F, eqN_T, eqN_F, pow8, pow5, b2_f0, b2_t0, reduceCtorEq, Bool.false_eq_true, Bool.true_eq_false, eq_self, false_and, true_and, and_false, and_true, not_false_eq_true, not_true_eq_false, eli, en, e1]
            refine ⟨s', rfl, hQ _ (hext2 (fun a' l' f' _ _ _ => ⟨fun q => ?_, fun q => ?_⟩) e2)⟩
            · rcases q with (q | q) | q
              · exact Or.inl q
              · exact Or.inr ⟨q.1, by rw [tk]; exact List.mem_append.mpr (Or.inl q.2)⟩
              · exact Or.inr ⟨q.1, by rw [tk]; exact List.mem_append.mpr (Or.inr (List.mem_singleton.mpr q.2))⟩
            · rcases q with q | ⟨q1, q2⟩
              · exact Or.inl (Or.inl q)
              · rw [tk, List.mem_append, List.mem_singleton] at q2
                rcases q2 with q2 | q2
                · exact Or.inl (Or.inr ⟨q1, q2⟩)
                · exact Or.inr ⟨q1, q2⟩
        · intro m u ju
          show f_X2_walk_48 d _ (m + 1) _ _ _ _ _ (nI lk.length) u = _
          rw [f_X2_walk_48]
          simp (disch := omega) only [bind_s, bd2_s, rdI_ok, rdJ_ok, rdT_ok, ixR_ok, wrI_ok, wrJ_ok, wrT_none, pfI_s, pfJ_s, pfZ_0, pfZ_1, zr_b2, nl_n, nl_s, nI_add, nI_mul, nI_sub, nI_shlm, nI_shrd, nI_or8, nI_or8r, nI_or5r, nI_and255, nI_and31, nI_and7, nI_and1, nI_andK, nI_clr, Nat.one_mul, nI_eqz, nI_eqq, nI_ltq, nI_ltz, nI_zlt, nI_nm1, nI_m2, m1_z, m1_lt0, m1_m1, b2_z, nI1_z, nI0_z, tb_0, tb_1, ite_nI, I_at, I_ne, J_at, J_ne, J_setI, I_setJ, ↓reduceIte, ltN_T, ltN_F, eqN_T, eqN_F, pow8, pow5, b2_f0, b2_t0, reduceCtorEq, Bool.false_eq_true, Bool.true_eq_false, eq_self, false_and, true_and, and_false, and_true, not_false_eq_true, not_true_eq_false]
      obtain ⟨s', e1, e2⟩ := L
      rw [e1]
      simp (disch := omega) only [bind_s, bd2_s, rdI_ok, rdJ_ok, rdT_ok, ixR_ok, wrI_ok, wrJ_ok, wrT_none, pfI_s, pfJ_s, pfZ_0, pfZ_1, zr_b2, nl_n, nl_s, nI_add, nI_mul, nI_sub, nI_shlm, nI_shrd, nI_or8, nI_or8r, nI_or5r, nI_and255, nI_and31, nI_and7, nI_and1, nI_andK, nI_clr, Nat.one_mul, nI_eqz, nI_eqq, nI_ltq, nI_ltz, nI_zlt, nI_nm1, nI_m2, m1_z, m1_lt0, m1_m1, b2_z, nI1_z, nI0_z, tb_0, tb_1, ite_nI, I_at, I_ne, J_at, J_ne, J_setI, I_setJ, ↓reduceIte, ltN_T, ltN_F, eqN_T, eqN_F, pow8, pow5, b2_f0, b2_t0, reduceCtorEq, Bool.false_eq_true, Bool.true_eq_false, eq_self, false_and, true_and, and_false, and_true, not_false_eq_true, not_true_eq_false]
      refine ⟨s', rfl, hQ _ (hext2 (fun a' l' f' _ hl' _ => ⟨fun q => by omega, fun q => ?_⟩) e2)⟩
      by_cases e : a' = act
      · exact Or.inr ⟨e, by rw [List.take_length]; exact hl'⟩
      · exact Or.inl (by omega)
  · intro n s js
    show f_X2_walk_10 d (n + 1) _ _ _ (nI 7) s = _
    rw [f_X2_walk_10]
    simp (disch := omega) only [bind_s, bd2_s, rdI_ok, rdJ_ok, rdT_ok, ixR_ok, wrI_ok, wrJ_ok, wrT_none, pfI_s, pfJ_s, pfZ_0, pfZ_1, zr_b2, nl_n, nl_s, nI_add, nI_mul, nI_sub, nI_shlm, nI_shrd, nI_or8, nI_or8r, nI_or5r, nI_and255, nI_and31, nI_and7, nI_and1, nI_andK, nI_clr, Nat.one_mul, nI_eqz, nI_eqq, nI_ltq, nI_ltz, nI_zlt, nI_nm1, nI_m2, m1_z, m1_lt0, m1_m1, b2_z, nI1_z, nI0_z, tb_0, tb_1, ite_nI, I_at, I_ne, J_at, J_ne, J_setI, I_setJ, ↓reduceIte, ltN_T, ltN_F, eqN_T, eqN_F, pow8, pow5, b2_f0, b2_t0, reduceCtorEq, Bool.false_eq_true, Bool.true_eq_false, eq_self, false_and, true_and, and_false, and_true, not_false_eq_true, not_true_eq_false]
  · rintro s ⟨e, j⟩
    exact ⟨s, e, hext2 (fun a' _ _ ha' _ _ => ⟨fun _ => trivial, fun _ => ha'⟩) j⟩
end
