section
/-! ===== the class keeps the cheapest ways: a walk over an hour ===== -/
variable {A : AW} {σ : ST} {d S h : Nat} {x : Nat × Nat}
/-- a step of a cheapest course, by choice, look and SPAN bits -/
def OpL (A : AW) (S : Nat) (x : Nat × Nat) (h act l fl t c : Nat) : Prop := Op (EG A S x) (2 ^ cK A 1) (glS A S) h (stc A (l % 256) fl) (l / 256) act t c
def KPc (A : AW) (S : Nat) (x : Nat × Nat) (h s : Nat) : Prop := KP (EG A S x) (2 ^ cK A 1) (glS A S) h s
noncomputable def CK (A : AW) (S : Nat) (x : Nat × Nat) (h i : Nat) : Nat := @ite _ (i % 256 < LW A ∧ KPc A S x h (stc A (i % 256) (i / 256))) (Classical.propDecidable _) (FP A S x h (stc A (i % 256) (i / 256))) 1048576
theorem CK_t {i : Nat} (w : i % 256 < LW A ∧ KPc A S x h (stc A (i % 256) (i / 256))) : CK A S x h i = FP A S x h (stc A (i % 256) (i / 256)) := if_pos w
theorem CK_f {i : Nat} (w : ¬ (i % 256 < LW A ∧ KPc A S x h (stc A (i % 256) (i / 256)))) : CK A S x h i = 1048576 := if_neg w
theorem KP_FP (a : AOK A) (hh : h ≤ 12) {s : Nat} (k : KPc A S x h s) : FP A S x h s < NV ∧ FP A S x h s ≤ 99 * h := by
  have v := KP_V (EG_v a) hh k
  have e := (Fp_eq (I := 2 ^ cK A 1) (EG_v (x := x) (S := S) a) h s).1 v
  have hf : FP A S x h s < NV := by
    show Fw (prn (EG A S x) (Dd A S)) (2 ^ cK A 1) h s < NV
    rw [e]
    have h1 := k.1
    have h2 := k.2
    omega
  exact ⟨hf, FP_99 a hf⟩
noncomputable def NB (A : AW) (S : Nat) (x : Nat × Nat) (k s : Nat) : Nat := Nb (EG A S x) (2 ^ cK A 1) (glS A S) k s
noncomputable def TG (A : AW) (S : Nat) (x : Nat × Nat) (h s f act : Nat) : Nat := tg (EG A S x) h s f act
/-- the ways from a state on that are counted already -/
noncomputable def wS (A : AW) (S : Nat) (x : Nat × Nat) (h : Nat) (lk : List Nat) (V : Nat → Nat → Nat → Prop) (i : Nat) : Nat := sm 4 fun f => sm 7 fun act => iteP (f * 256 + i % 256 ∈ lk ∧ i / 256 < 2 ^ nS A S ∧ (∃ t c, OpL A S x h act (f * 256 + i % 256) (i / 256) t c) ∧ V act (f * 256 + i % 256) (i / 256)) (NB A S x (11 - h) (TG A S x h (stc A (i % 256) (i / 256)) f act))
/-- some step so far -/
def sO (A : AW) (S : Nat) (x : Nat × Nat) (h : Nat) (lk : List Nat) (V : Nat → Nat → Nat → Prop) (p : Nat → Nat → Nat → Prop) : Prop := ∃ act l fl t c, (act < 7 ∧ l ∈ lk ∧ fl < 2 ^ nS A S) ∧ OpL A S x h act l fl t c ∧ V act l fl ∧ p act l fl
/-- what is noted of an hour -/
def NT (d h : Nat) (s : ST) (sO : (Nat → Nat → Nat → Prop) → Prop) (A : AW) : Prop :=
  (∃ m, s.1 (d + 4) h = nI m ∧ (∀ j, j < 17 → (m.testBit j = true ↔ ¬ sO fun _ l _ => (trL A l).testBit j = false)) ∧ (sO (fun _ _ _ => True) → m < 2 ^ 17)) ∧
  (∃ m, m < 2 ^ 17 ∧ s.1 (d + 5) h = nI m ∧ ∀ j, j < 17 → (m.testBit j = true ↔ sO fun _ l _ => (trL A l).testBit j = true)) ∧
  (∃ m, m < 128 ∧ s.1 (d + 6) h = nI m ∧ ∀ j, j < 7 → (m.testBit j = true ↔ sO fun act _ _ => act = j)) ∧
  (∃ m, m < 256 ∧ s.1 (d + 7) h = nI m ∧ ∀ j, j < 8 → (m.testBit j = true ↔ sO fun _ l _ => l % 256 / 2 ^ cK A 1 = j))
def JK (d : Nat) (A : AW) (S : Nat) (x : Nat × Nat) (h : Nat) (C : Nat → Nat → Nat) (lk : List Nat) (σ : ST) (V : Nat → Nat → Nat → Prop) (s : ST) : Prop :=
  (BS d A S x h C s ∧ ∀ i, i < lk.length → s.1 (d + 3) i = nI (lk.getD i 0)) ∧ Fr (fun y => d + 2 ≤ y ∧ y ≤ d + 7) σ s ∧ (∀ j, s.2.1 (d + 2) ((h + 1) % 2 * 1024 + j) = σ.2.1 (d + 2) ((h + 1) % 2 * 1024 + j) ∨ 1024 ≤ j) ∧ (∀ i, i < nSt A S → s.2.1 (d + 2) (h % 2 * 1024 + i) = lN (cap (wS A S x h lk V i))) ∧ NT d h s (sO A S x h lk V) A ∧ ∀ g, g ≠ h → s.1 (d + 4) g = σ.1 (d + 4) g ∧ s.1 (d + 5) g = σ.1 (d + 5) g ∧ s.1 (d + 6) g = σ.1 (d + 6) g ∧ s.1 (d + 7) g = σ.1 (d + 7) g
theorem NT_c {s : ST} {P Q : (Nat → Nat → Nat → Prop) → Prop} (e : ∀ p, P p ↔ Q p) (n : NT d h s P A) : NT d h s Q A := by
  have : P = Q := funext fun p => propext (e p)
  rw [← this]; exact n
theorem JK_c {C : Nat → Nat → Nat} {lk : List Nat} {V V' : Nat → Nat → Nat → Prop} {s : ST} (e : ∀ act l fl t c, act < 7 → l ∈ lk → fl < 2 ^ nS A S → OpL A S x h act l fl t c → (V act l fl ↔ V' act l fl)) (j : JK d A S x h C lk σ V s) : JK d A S x h C lk σ V' s := by
  obtain ⟨j1, j2, j3, j4, j5, j6⟩ := j
  refine ⟨j1, j2, j3, fun i hi => ?_, NT_c (fun p => ?_) j5, j6⟩
  · have : wS A S x h lk V' i = wS A S x h lk V i := by
      unfold wS
      refine sm_congr fun f _ => sm_congr fun act ha => iteP_c ?_
      constructor
      · rintro ⟨q1, q2, ⟨t, c, q3⟩, q4⟩; exact ⟨q1, q2, ⟨t, c, q3⟩, (e act _ _ t c ha q1 q2 q3).mpr q4⟩
      · rintro ⟨q1, q2, ⟨t, c, q3⟩, q4⟩; exact ⟨q1, q2, ⟨t, c, q3⟩, (e act _ _ t c ha q1 q2 q3).mp q4⟩
    rw [this]; exact j4 i hi
  · constructor
    · rintro ⟨act, l, fl, t, c, q, o, v, z⟩; exact ⟨act, l, fl, t, c, q, o, (e act l fl t c q.1 q.2.1 q.2.2 o).mp v, z⟩
    · rintro ⟨act, l, fl, t, c, q, o, v, z⟩; exact ⟨act, l, fl, t, c, q, o, (e act l fl t c q.1 q.2.1 q.2.2 o).mpr v, z⟩
theorem sO_add {lk : List Nat} {V : Nat → Nat → Nat → Prop} {p : Nat → Nat → Nat → Prop} {act l fl t c : Nat} (q : act < 7 ∧ l ∈ lk ∧ fl < 2 ^ nS A S) (o : OpL A S x h act l fl t c) : sO A S x h lk (fun a' l' f' => V a' l' f' ∨ (a' = act ∧ l' = l ∧ f' = fl)) p ↔ sO A S x h lk V p ∨ p act l fl := by
  constructor
  · rintro ⟨a', l', f', t', c', q', o', v | ⟨rfl, rfl, rfl⟩, z⟩
    · exact Or.inl ⟨a', l', f', t', c', q', o', v, z⟩
    · exact Or.inr z
  · rintro (⟨a', l', f', t', c', q', o', v, z⟩ | z)
    · exact ⟨a', l', f', t', c', q', o', Or.inl v, z⟩
    · exact ⟨act, l, fl, t, c, q, o, Or.inr ⟨rfl, rfl, rfl⟩, z⟩
theorem ix13 {h j : Nat} (hh : h < 12) (hj : j < 1024) : (h + 1) * 1024 + j < 13312 := by omega
theorem l_lt {l : Nat} (h : l / 256 < 4) : l < 1024 := by omega
theorem WOK_K (a : AOK A) (hd : d = 197 ∨ d = 213) (hh : h < 12) {lk : List Nat} (hlk : ∀ l, l ∈ lk → l / 256 < 2 ^ cK A 0 ∧ l % 256 < LW A ∧ okB A S h (l / 256) (l % 256 % 2 ^ cK A 1) (l % 256 / 2 ^ cK A 1) = true) (hc1 : ∀ i, i < nSt A S → σ.1 (d + 1) ((h + 1) * 1024 + i) = nI (CK A S x (h + 1) i)) (hw1 : ∀ i, i < nSt A S → i % 256 < LW A → σ.2.1 (d + 2) ((h + 1) % 2 * 1024 + i) = lN (cap (NB A S x (11 - h) (stc A (i % 256) (i / 256))))) : WOK d A S x h (fun fl low => cF (FP A S x h (stc A low fl))) 1 lk (JK d A S x h (fun fl low => cF (FP A S x h (stc A low fl))) lk σ) := by
  have hs4 := S4 (S := S) a
  have hLW := LW_256 a
  have hF4 := F4 a
  have hK5 := a.2.2.1.2.1
  refine ⟨fun V s j => j.1, fun V V' s e j => JK_c (fun act l fl t c h1 h2 h3 o => e act l fl h1 h2 h3 ?_) j, fun V s act l fl t c ha hl hfl he hc hnV j => ?_⟩
  · obtain ⟨p1, p2, p3, p4⟩ := (Op_p (EG_ok a) (EG_v a) hh).mpr o
    refine ⟨t, c, p1, ?_⟩
    have p2' : FP A S x h (stc A (l % 256) fl) < NV := p2
    have := FP_99 a p2'
    show cF (FP A S x h (stc A (l % 256) fl)) < 1048576
    unfold cF
    rw [if_pos p2']
    omega
  · obtain ⟨l1, l2, l3⟩ := hlk l hl
    obtain ⟨v1, v2, v3⟩ := edc_v a he l2 hfl
    obtain ⟨w1, w2⟩ := lwc_lt a v1
    have hcf : FP A S x h (stc A (l % 256) fl) < NV ∧ cF (FP A S x h (stc A (l % 256) fl)) = FP A S x h (stc A (l % 256) fl) := by
      have hc' : cF (FP A S x h (stc A (l % 256) fl)) < 1048576 := hc
      unfold cF at hc' ⊢
      split at hc'
      · rename_i w; rw [if_pos w]; exact ⟨w, rfl⟩
      · omega
    have h99 := FP_99 a hcf.1
    have hix := ix_lt v2 w1
    have hixn := nSt_le (S := S) a
    have hj1 : t / 256 * 256 + lwc A t < 1024 := Nat.lt_of_lt_of_le hix hixn
    have hi1 : fl * 256 + l % 256 < 1024 := Nat.lt_of_lt_of_le (ix_lt hfl l2) hixn
    have hix2 : (h + 1) * 1024 + (t / 256 * 256 + lwc A t) < 13312 := ix13 hh hj1
    have hll : l < 1024 := l_lt (Nat.lt_of_lt_of_le l1 hF4)
    have ej := (lk_at (f := t / 256) (show lwc A t < 256 by omega))
    have hrow : s.1 (d + 1) ((h + 1) * 1024 + (t / 256 * 256 + lwc A t)) = nI (CK A S x (h + 1) (t / 256 * 256 + lwc A t)) := by
      rw [j.2.1.I (by omega)]; exact hc1 _ hix
    have hCK : CK A S x (h + 1) (t / 256 * 256 + lwc A t) = FP A S x h (stc A (l % 256) fl) + c ↔ OpL A S x h act l fl t c := by
      unfold OpL
      rw [← Op_p (EG_ok a) (EG_v a) hh]
      constructor
      · intro q
        by_cases w : (t / 256 * 256 + lwc A t) % 256 < LW A ∧ KPc A S x (h + 1) (stc A ((t / 256 * 256 + lwc A t) % 256) ((t / 256 * 256 + lwc A t) / 256))
        · rw [CK_t w] at q
          rw [ej.1, ej.2, w2] at w q
          exact ⟨he, hcf.1, w.2, q⟩
        · rw [CK_f w] at q
          omega
      · rintro ⟨_, _, p3, p4⟩
        have w : (t / 256 * 256 + lwc A t) % 256 < LW A ∧ KPc A S x (h + 1) (stc A ((t / 256 * 256 + lwc A t) % 256) ((t / 256 * 256 + lwc A t) / 256)) := by
          rw [ej.1, ej.2, w2]; exact ⟨w1, p3⟩
        rw [CK_t w, ej.1, ej.2, w2]
        exact p4
    have hCK2 : CK A S x (h + 1) (t / 256 * 256 + lwc A t) ≤ 1048576 := by
      by_cases w : (t / 256 * 256 + lwc A t) % 256 < LW A ∧ KPc A S x (h + 1) (stc A ((t / 256 * 256 + lwc A t) % 256) ((t / 256 * 256 + lwc A t) / 256))
      · rw [CK_t w]
        have := (KP_FP a (by omega) w.2).2
        omega
      · rw [CK_f w]; omega
    show ∃ s', f_X2_meet_70 d KK (nI 1) (nI h) (nI l) (nI (lwc A t)) (nI act) (nI c) (nI (l % 256)) (nI fl) (nI (fl * 256 + l % 256)) (nI (cF (FP A S x h (stc A (l % 256) fl)) + c)) (nI (t / 256)) s = some s' ∧ _
    rw [hcf.2]
    by_cases o : OpL A S x h act l fl t c
    · obtain ⟨⟨b, bl⟩, hF, ho, hw, ⟨⟨m4, e4, b4, t4⟩, ⟨m5, k5, e5, b5⟩, ⟨m6, k6, e6, b6⟩, ⟨m7, k7, e7, b7⟩⟩, hg⟩ := id j
      have ef : fl * 256 + l % 256 < nSt A S := ix_lt hfl l2
      have wi := hw _ ef
      have wj : s.2.1 (d + 2) ((h + 1) % 2 * 1024 + (t / 256 * 256 + lwc A t)) = lN (cap (NB A S x (11 - h) t)) := by
        have q := (ho (t / 256 * 256 + lwc A t)).resolve_right (by omega)
        rw [q, hw1 _ hix (by rw [ej.2]; exact w1), ej.1, ej.2, w2]
      have etr := (TB_tr a b.2.1 l1 l2).1
      rw [show l / 256 * 256 + l % 256 = l by omega] at etr
      have htl := trL_lt a l
      have ei := lk_at (f := fl) (show l % 256 < 256 by omega)
      have hrun : (fl * 256 + l % 256) % 256 / 2 ^ cK A 1 < 8 := by
        rw [ei.2]
        have := (lo_of (Nat.two_pow_pos (cK A 1)) l2).1
        have := RR_le A
        omega
      have tk := t_keep (d := d) (i := fl * 256 + l % 256) (j := t / 256 * 256 + lwc A t) (st := trL A l) hh hi1 hj1 ha hK5 hrun (cap_le _) (cap_le _) wi wj e4 e5 e6 e7 b.2.2.2.1.1
      rw [ei.2] at tk
      refine ⟨keepS d h (fl * 256 + l % 256) (cap (cap (wS A S x h lk V (fl * 256 + l % 256)) + cap (NB A S x (11 - h) t))) m4 m5 m6 m7 (trL A l) act (l % 256 / 2 ^ cK A 1) s, ?_, ?_⟩
      · unfold f_X2_meet_70 KK
        simp (disch := omega) only [bind_s, bd2_s, rdT_ok, ixR_ok, wrT_none, pfI_s, pfJ_s, pfZ_0, pfZ_1, zr_b2, nl_n, nl_s, nI_add, nI_mul, nI_sub, nI_shlm, nI_shrd, nI_or8, nI_or8r, nI_or5r, nI_and255, nI_and31, nI_and7, nI_and1, nI_andK, nI_clr, Nat.one_mul, nI_eqz, nI_eqq, nI_ltq, nI_ltz, nI_zlt, nI_nm1, nI_m2, m1_z, m1_lt0, m1_m1, b2_z, nI1_z, nI0_z, tb_0, tb_1, ite_nI, I_at, I_ne, J_at, J_ne, J_setI, I_setJ, ↓reduceIte, ltN_T, ltN_F, eqN_T, eqN_F, pow8, pow5, b2_f0, b2_t0, reduceCtorEq, Bool.false_eq_true, Bool.true_eq_false, eq_self, false_and, true_and, and_false, and_true, not_false_eq_true, not_true_eq_false]
        rw [rdI_ok hix2 (by decide), hrow, hCK.mpr o]
        simp (disch := omega) only [bind_s, bd2_s, rdT_ok, ixR_ok, wrT_none, pfI_s, pfJ_s, pfZ_0, pfZ_1, zr_b2, nl_n, nl_s, nI_add, nI_mul, nI_sub, nI_shlm, nI_shrd, nI_or8, nI_or8r, nI_or5r, nI_and255, nI_and31, nI_and7, nI_and1, nI_andK, nI_clr, Nat.one_mul, nI_eqz, nI_eqq, nI_ltq, nI_ltz, nI_zlt, nI_nm1, nI_m2, m1_z, m1_lt0, m1_m1, b2_z, nI1_z, nI0_z, tb_0, tb_1, ite_nI, I_at, I_ne, J_at, J_ne, J_setI, I_setJ, ↓reduceIte, ltN_T, ltN_F, eqN_T, eqN_F, pow8, pow5, b2_f0, b2_t0, reduceCtorEq, Bool.false_eq_true, Bool.true_eq_false, eq_self, false_and, true_and, and_false, and_true, not_false_eq_true, not_true_eq_false]
        rw [rdI_ok hll (by decide), etr]
        simp (disch := omega) only [bind_s, bd2_s, rdT_ok, ixR_ok, wrT_none, pfI_s, pfJ_s, pfZ_0, pfZ_1, zr_b2, nl_n, nl_s, nI_add, nI_mul, nI_sub, nI_shlm, nI_shrd, nI_or8, nI_or8r, nI_or5r, nI_and255, nI_and31, nI_and7, nI_and1, nI_andK, nI_clr, Nat.one_mul, nI_eqz, nI_eqq, nI_ltq, nI_ltz, nI_zlt, nI_nm1, nI_m2, m1_z, m1_lt0, m1_m1, b2_z, nI1_z, nI0_z, tb_0, tb_1, ite_nI, I_at, I_ne, J_at, J_ne, J_setI, I_setJ, ↓reduceIte, ltN_T, ltN_F, eqN_T, eqN_F, pow8, pow5, b2_f0, b2_t0, reduceCtorEq, Bool.false_eq_true, Bool.true_eq_false, eq_self, false_and, true_and, and_false, and_true, not_false_eq_true, not_true_eq_false, tk]
      · have FS : Fr (fun y => d + 2 ≤ y ∧ y ≤ d + 7 ∧ y ≠ d + 3) s (keepS d h (fl * 256 + l % 256) (cap (cap (wS A S x h lk V (fl * 256 + l % 256)) + cap (NB A S x (11 - h) t))) m4 m5 m6 m7 (trL A l) act (l % 256 / 2 ^ cK A 1) s) := ((((Fr_setJ (by omega)).tr (Fr_setI (by omega))).tr (Fr_setI (by omega))).tr (Fr_setI (by omega))).tr (Fr_setI (by omega))
        have q3 : act < 7 ∧ l ∈ lk ∧ fl < 2 ^ nS A S := ⟨ha, hl, hfl⟩
        refine ⟨⟨BS_fr a hd b FS (fun y hy => by omega), fun i hi => by rw [FS.I (by omega)]; exact bl i hi⟩, hF.tr (FS.mono (fun y hy => by omega)), fun jj => ?_, fun i hi => ?_, ?_, fun g hgh => ?_⟩
        · by_cases hj : jj < 1024
          · left
            unfold keepS
            simp only [J_setI]
            rw [J_ne (Or.inr (by omega))]
            exact (ho jj).resolve_right (by omega)
          · right; omega
        · unfold keepS
          simp only [J_setI]
          by_cases e : i = fl * 256 + l % 256
          · subst e
            rw [J_at, cap_add]
            congr 2
            have hsm := sm2_upd (P := fun f a' => f * 256 + (fl * 256 + l % 256) % 256 ∈ lk ∧ (fl * 256 + l % 256) / 256 < 2 ^ nS A S ∧ (∃ t c, OpL A S x h a' (f * 256 + (fl * 256 + l % 256) % 256) ((fl * 256 + l % 256) / 256) t c) ∧ V a' (f * 256 + (fl * 256 + l % 256) % 256) ((fl * 256 + l % 256) / 256)) (Q := fun f a' => f * 256 + (fl * 256 + l % 256) % 256 ∈ lk ∧ (fl * 256 + l % 256) / 256 < 2 ^ nS A S ∧ (∃ t c, OpL A S x h a' (f * 256 + (fl * 256 + l % 256) % 256) ((fl * 256 + l % 256) / 256) t c) ∧ (V a' (f * 256 + (fl * 256 + l % 256) % 256) ((fl * 256 + l % 256) / 256) ∨ (a' = act ∧ f * 256 + (fl * 256 + l % 256) % 256 = l ∧ (fl * 256 + l % 256) / 256 = fl))) (g := fun f a' => NB A S x (11 - h) (TG A S x h (stc A ((fl * 256 + l % 256) % 256) ((fl * 256 + l % 256) / 256)) f a')) (f0 := l / 256) (a0 := act) (by omega) ha ?_ ?_
            · unfold wS
              rw [hsm]
              congr 1
              rw [ei.1, ei.2]
              show _ = NB A S x (11 - h) (tg (EG A S x) h (stc A (l % 256) fl) (l / 256) act)
              rw [tg_of o.1]
            · rw [ei.1, ei.2, show l / 256 * 256 + l % 256 = l by omega]
              exact fun q => hnV q.2.2.2
            · intro f a'
              rw [ei.1, ei.2]
              constructor
              · rintro ⟨r1, r2, r3, r4 | ⟨rfl, r4, -⟩⟩
                · exact Or.inl ⟨r1, r2, r3, r4⟩
                · exact Or.inr ⟨by omega, rfl⟩
              · rintro (⟨r1, r2, r3, r4⟩ | ⟨rfl, rfl⟩)
                · exact ⟨r1, r2, r3, Or.inl r4⟩
                · rw [show l / 256 * 256 + l % 256 = l by omega]
                  exact ⟨hl, hfl, ⟨t, c, o⟩, Or.inr ⟨rfl, rfl, rfl⟩⟩
          · rw [J_ne (Or.inr (by omega)), hw i hi]
            congr 2
            unfold wS
            refine sm_congr fun f _ => sm_congr fun a' _ => iteP_c ?_
            constructor
            · rintro ⟨r1, r2, r3, r4⟩; exact ⟨r1, r2, r3, Or.inl r4⟩
            · rintro ⟨r1, r2, r3, r4 | ⟨-, r4, r5⟩⟩
              · exact ⟨r1, r2, r3, r4⟩
              · exact absurd (show i = fl * 256 + l % 256 by omega) e
        · refine NT_c (fun p => (sO_add q3 o).symm) ?_
          refine ⟨⟨m4 &&& trL A l, ?_, fun i hi => ?_, fun _ => Nat.lt_of_le_of_lt Nat.and_le_right htl⟩, ⟨m5 ||| trL A l, Nat.or_lt_two_pow k5 htl, ?_, fun i hi => ?_⟩, ⟨m6 ||| 2 ^ act, Nat.or_lt_two_pow (n := 7) k6 (Nat.pow_lt_pow_right (by omega) ha), ?_, fun i hi => ?_⟩, ⟨m7 ||| 2 ^ (l % 256 / 2 ^ cK A 1), Nat.or_lt_two_pow (n := 8) k7 (Nat.pow_lt_pow_right (by omega) (by rw [ei.2] at hrun; omega)), ?_, fun i hi => ?_⟩⟩
          · unfold keepS
            rw [I_ne (Or.inl (by omega)), I_ne (Or.inl (by omega)), I_ne (Or.inl (by omega)), I_at]
          · rw [Nat.testBit_and, Bool.and_eq_true, b4 i hi]
            constructor
            · rintro ⟨r1, r2⟩ (r3 | r3)
              · exact r1 r3
              · rw [r3] at r2; cases r2
            · intro r
              refine ⟨fun q => r (Or.inl q), ?_⟩
              cases e : (trL A l).testBit i with
              | true => rfl
              | false => exact absurd (Or.inr e) r
          · unfold keepS
            rw [I_ne (Or.inl (by omega)), I_ne (Or.inl (by omega)), I_at]
          · rw [Nat.testBit_or, Bool.or_eq_true, b5 i hi]
          · unfold keepS
            rw [I_ne (Or.inl (by omega)), I_at]
          · rw [tb_set, Bool.or_eq_true, b6 i hi, decide_eq_true_iff]
          · unfold keepS
            rw [I_at]
          · rw [tb_set, Bool.or_eq_true, b7 i hi, decide_eq_true_iff]
        · obtain ⟨g4, g5, g6, g7⟩ := hg g hgh
          unfold keepS
          refine ⟨?_, ?_, ?_, ?_⟩
          · rw [I_ne (Or.inl (by omega)), I_ne (Or.inl (by omega)), I_ne (Or.inl (by omega)), I_ne (Or.inr hgh), I_setJ]; exact g4
          · rw [I_ne (Or.inl (by omega)), I_ne (Or.inl (by omega)), I_ne (Or.inr hgh), I_ne (Or.inl (by omega)), I_setJ]; exact g5
          · rw [I_ne (Or.inl (by omega)), I_ne (Or.inr hgh), I_ne (Or.inl (by omega)), I_ne (Or.inl (by omega)), I_setJ]; exact g6
          · rw [I_ne (Or.inr hgh), I_ne (Or.inl (by omega)), I_ne (Or.inl (by omega)), I_ne (Or.inl (by omega)), I_setJ]; exact g7
    · refine ⟨s, ?_, JK_c (fun a' l' f' t' c' _ _ _ o' => ⟨fun q => Or.inl q, fun q => q.resolve_right ?_⟩) j⟩
      · unfold f_X2_meet_70 KK
        simp (disch := omega) only [bind_s, bd2_s, rdT_ok, ixR_ok, wrT_none, pfI_s, pfJ_s, pfZ_0, pfZ_1, zr_b2, nl_n, nl_s, nI_add, nI_mul, nI_sub, nI_shlm, nI_shrd, nI_or8, nI_or8r, nI_or5r, nI_and255, nI_and31, nI_and7, nI_and1, nI_andK, nI_clr, Nat.one_mul, nI_eqz, nI_eqq, nI_ltq, nI_ltz, nI_zlt, nI_nm1, nI_m2, m1_z, m1_lt0, m1_m1, b2_z, nI1_z, nI0_z, tb_0, tb_1, ite_nI, I_at, I_ne, J_at, J_ne, J_setI, I_setJ, ↓reduceIte, ltN_T, ltN_F, eqN_T, eqN_F, pow8, pow5, b2_f0, b2_t0, reduceCtorEq, Bool.false_eq_true, Bool.true_eq_false, eq_self, false_and, true_and, and_false, and_true, not_false_eq_true, not_true_eq_false]
        rw [rdI_ok hix2 (by decide), hrow]
        simp (disch := omega) only [bind_s, bd2_s, rdT_ok, ixR_ok, wrT_none, pfI_s, pfJ_s, pfZ_0, pfZ_1, zr_b2, nl_n, nl_s, nI_add, nI_mul, nI_sub, nI_shlm, nI_shrd, nI_or8, nI_or8r, nI_or5r, nI_and255, nI_and31, nI_and7, nI_and1, nI_andK, nI_clr, Nat.one_mul, nI_eqz, nI_eqq, nI_ltq, nI_ltz, nI_zlt, nI_nm1, nI_m2, m1_z, m1_lt0, m1_m1, b2_z, nI1_z, nI0_z, tb_0, tb_1, ite_nI, I_at, I_ne, J_at, J_ne, J_setI, I_setJ, ↓reduceIte, ltN_T, ltN_F, eqN_T, eqN_F, pow8, pow5, b2_f0, b2_t0, reduceCtorEq, Bool.false_eq_true, Bool.true_eq_false, eq_self, false_and, true_and, and_false, and_true, not_false_eq_true, not_true_eq_false]
        have hne : ¬ CK A S x (h + 1) (t / 256 * 256 + lwc A t) = FP A S x h (stc A (l % 256) fl) + c := fun q => o (hCK.mp q)
        simp (disch := omega) only [bind_s, bd2_s, rdI_ok, rdJ_ok, rdT_ok, ixR_ok, wrI_ok, wrJ_ok, wrT_none, pfI_s, pfJ_s, pfZ_0, pfZ_1, zr_b2, nl_n, nl_s, nI_add, nI_mul, nI_sub, nI_shlm, nI_shrd, nI_or8, nI_or8r, nI_or5r, nI_and255, nI_and31, nI_and7, nI_and1, nI_andK, nI_clr, Nat.one_mul, nI_eqz, nI_eqq, nI_ltq, nI_ltz, nI_zlt, nI_nm1, nI_m2, m1_z, m1_lt0, m1_m1, b2_z, nI1_z, nI0_z, tb_0, tb_1, ite_nI, I_at, I_ne, J_at, J_ne, J_setI, I_setJ, ↓reduceIte, ltN_T, ltN_F, eqN_T, eqN_F, pow8, pow5, b2_f0, b2_t0, reduceCtorEq, Bool.false_eq_true, Bool.true_eq_false, eq_self, false_and, true_and, and_false, and_true, not_false_eq_true, not_true_eq_false, hne]
      · rintro ⟨rfl, rfl, rfl⟩
        refine o ?_
        have e2 : edc A S x h (l' % 256) f' (l' / 256) a' = some (t', c') := ((Op_p (EG_ok a) (EG_v a) hh).mpr o').1
        rw [he] at e2
        cases e2
        exact o'
end
