section
/-! ===== in how many hours: the class's sets of numbers ===== -/
variable {A : AW} {σ : ST} {d S h : Nat} {x : Nat × Nat}
/-- whether a step counts: a thing is so, or (from 10 on) a happening happens -/
def mkb (A : AW) (b act l : Nat) : Bool := if b < 10 then (trL A l).testBit b else decide (b = 10 + act)
def mk2 (A : AW) (b : Nat) (_h s f act : Nat) : Bool := mkb A b act (f * 256 + lwc A s)
noncomputable def CCx (A : AW) (S : Nat) (x : Nat × Nat) (b p j s n : Nat) : Prop := Cc (Op (EG A S x) (2 ^ cK A 1) (glS A S)) (KPc A S x) (mk2 A b) p j s n
/-- the numbers an hour later, by the steps done -/
def nO (A : AW) (S : Nat) (x : Nat × Nat) (b p j : Nat) (lk : List Nat) (V : Nat → Nat → Nat → Prop) (i n : Nat) : Prop := ∃ act l fl t c m, (act < 7 ∧ l ∈ lk ∧ fl < 2 ^ nS A S) ∧ OpL A S x (p + j) act l fl t c ∧ V act l fl ∧ t / 256 * 256 + lwc A t = i ∧ CCx A S x b p j (stc A (l % 256) fl) m ∧ n = m + (if mkb A b act l = true then 1 else 0)
def JT (d : Nat) (A : AW) (S : Nat) (x : Nat × Nat) (b p j : Nat) (C : Nat → Nat → Nat) (lk : List Nat) (σ : ST) (V : Nat → Nat → Nat → Prop) (s : ST) : Prop :=
  (BS d A S x (p + j) C s ∧ ∀ i, i < lk.length → s.1 (d + 3) i = nI (lk.getD i 0)) ∧ Fr (fun y => d + 2 ≤ y ∧ y ≤ d + 3) σ s ∧ (∀ k, k < 1024 → s.2.1 (d + 2) ((p + j) % 2 * 1024 + k) = σ.2.1 (d + 2) ((p + j) % 2 * 1024 + k)) ∧ ∀ i, i < nSt A S → ∃ m, m < 2 ^ (j + 2) ∧ s.2.1 (d + 2) ((p + j + 1) % 2 * 1024 + i) = lN m ∧ ∀ n, m.testBit n = true ↔ nO A S x b p j lk V i n
theorem JT_c {b p j : Nat} {C : Nat → Nat → Nat} {lk : List Nat} {V V' : Nat → Nat → Nat → Prop} {s : ST} (e : ∀ act l fl t c, act < 7 → l ∈ lk → fl < 2 ^ nS A S → OpL A S x (p + j) act l fl t c → (V act l fl ↔ V' act l fl)) (q : JT d A S x b p j C lk σ V s) : JT d A S x b p j C lk σ V' s := by
  obtain ⟨j1, j2, j3, j4⟩ := q
  refine ⟨j1, j2, j3, fun i hi => ?_⟩
  obtain ⟨m, m1, m2, m3⟩ := j4 i hi
  refine ⟨m, m1, m2, fun n => (m3 n).trans ?_⟩
  constructor
  · rintro ⟨act, l, fl, t, c, k, q, o, v, z⟩; exact ⟨act, l, fl, t, c, k, q, o, (e act l fl t c q.1 q.2.1 q.2.2 o).mp v, z⟩
  · rintro ⟨act, l, fl, t, c, k, q, o, v, z⟩; exact ⟨act, l, fl, t, c, k, q, o, (e act l fl t c q.1 q.2.1 q.2.2 o).mpr v, z⟩
theorem lN_shl1 (n : Nat) : lN n <<< ((nI 1).toInt64 &&& 63) = lN (n * 2) := by
  have e : (nI 1).toInt64 &&& 63 = (1 : Int64) := by decide
  rw [e]
  apply Int64.toBitVec_inj.mp
  show (BitVec.ofNat 64 n) <<< ((1 : Int64).toBitVec.smod 64) = BitVec.ofNat 64 (n * 2)
  have e2 : (1 : Int64).toBitVec.smod 64 = 1#64 := by decide
  rw [e2]
  apply BitVec.eq_of_toNat_eq
  rw [BitVec.shiftLeft_eq', BitVec.toNat_shiftLeft, BitVec.toNat_ofNat, BitVec.toNat_ofNat]
  show (n % 2 ^ 64) <<< 1 % 2 ^ 64 = n * 2 % 2 ^ 64
  rw [Nat.shiftLeft_eq]
  omega
theorem tb_dbl (m n : Nat) : (m * 2).testBit n = (decide (0 < n) && m.testBit (n - 1)) := by
  have h := Nat.testBit_mul_two_pow m n 1
  rw [Nat.pow_one] at h
  rw [h]
  cases n with
  | zero => simp
  | succ n => simp
theorem t_addTally (hh : h < 12) {i j b l act m1 m2 : Nat} (hi : i < 1024) (hj : j < 1024) (hb : b < 16) (ha : act < 7) (htr : trL A l < 2 ^ 17) (w1 : σ.2.1 (d + 2) (h % 2 * 1024 + i) = lN m1) (w2 : σ.2.1 (d + 2) ((h + 1) % 2 * 1024 + j) = lN m2) (f11 : σ.1 d 11 = nI b) : f_X2_addTally d (nI h) (nI i) (nI j) (nI (trL A l)) (nI act) σ = some (setJ σ (d + 2) ((h + 1) % 2 * 1024 + j) (lN (m2 ||| (if mkb A b act l = true then m1 * 2 else m1)))) := by
  have z0 : f_X2_addTally_46 d (nI h) (nI i) (nI j) (nI 0) σ = some (setJ σ (d + 2) ((h + 1) % 2 * 1024 + j) (lN (m2 ||| m1))) := by
    unfold f_X2_addTally_46 f_X2_layerOf
    simp (disch := omega) only [bind_s, bd2_s, rdI_ok, rdJ_ok, rdT_ok, ixR_ok, wrI_ok, wrJ_ok, wrT_none, pfI_s, pfJ_s, pfZ_0, pfZ_1, zr_b2, nl_n, nl_s, nI_add, nI_mul, nI_sub, nI_shlm, nI_shrd, nI_or8, nI_or8r, nI_or5r, nI_and255, nI_and31, nI_and7, nI_and1, nI_andK, nI_clr, Nat.one_mul, nI_eqz, nI_eqq, nI_ltq, nI_ltz, nI_zlt, nI_nm1, nI_m2, m1_z, m1_lt0, m1_m1, b2_z, nI1_z, nI0_z, tb_0, tb_1, ite_nI, I_at, I_ne, J_at, J_ne, J_setI, I_setJ, ↓reduceIte, ltN_T, ltN_F, eqN_T, eqN_F, pow8, pow5, b2_f0, b2_t0, reduceCtorEq, Bool.false_eq_true, Bool.true_eq_false, eq_self, false_and, true_and, and_false, and_true, not_false_eq_true, not_true_eq_false, w1, w2, lN_or]
  have z1 : f_X2_addTally_46 d (nI h) (nI i) (nI j) (nI 1) σ = some (setJ σ (d + 2) ((h + 1) % 2 * 1024 + j) (lN (m2 ||| m1 * 2))) := by
    unfold f_X2_addTally_46 f_X2_layerOf
    simp (disch := omega) only [bind_s, bd2_s, rdI_ok, rdJ_ok, rdT_ok, ixR_ok, wrI_ok, wrJ_ok, wrT_none, pfI_s, pfJ_s, pfZ_0, pfZ_1, zr_b2, nl_n, nl_s, nI_add, nI_mul, nI_sub, nI_shlm, nI_shrd, nI_or8, nI_or8r, nI_or5r, nI_and255, nI_and31, nI_and7, nI_and1, nI_andK, nI_clr, Nat.one_mul, nI_eqz, nI_eqq, nI_ltq, nI_ltz, nI_zlt, nI_nm1, nI_m2, m1_z, m1_lt0, m1_m1, b2_z, nI1_z, nI0_z, tb_0, tb_1, ite_nI, I_at, I_ne, J_at, J_ne, J_setI, I_setJ, ↓reduceIte, ltN_T, ltN_F, eqN_T, eqN_F, pow8, pow5, b2_f0, b2_t0, reduceCtorEq, Bool.false_eq_true, Bool.true_eq_false, eq_self, false_and, true_and, and_false, and_true, not_false_eq_true, not_true_eq_false, w1, w2, lN_shl1, lN_or]
  unfold f_X2_addTally mkb
  by_cases hb10 : b < 10
  · simp (disch := omega) only [bind_s, bd2_s, rdI_ok, rdJ_ok, rdT_ok, ixR_ok, wrI_ok, wrJ_ok, wrT_none, pfI_s, pfJ_s, pfZ_0, pfZ_1, zr_b2, nl_n, nl_s, nI_add, nI_mul, nI_sub, nI_shlm, nI_shrd, nI_or8, nI_or8r, nI_or5r, nI_and255, nI_and31, nI_and7, nI_and1, nI_andK, nI_clr, Nat.one_mul, nI_eqz, nI_eqq, nI_ltq, nI_ltz, nI_zlt, nI_nm1, nI_m2, m1_z, m1_lt0, m1_m1, b2_z, nI1_z, nI0_z, tb_0, tb_1, ite_nI, I_at, I_ne, J_at, J_ne, J_setI, I_setJ, ↓reduceIte, ltN_T, ltN_F, eqN_T, eqN_F, pow8, pow5, b2_f0, b2_t0, reduceCtorEq, Bool.false_eq_true, Bool.true_eq_false, eq_self, false_and, true_and, and_false, and_true, not_false_eq_true, not_true_eq_false, f11, hb10]
    cases e : (trL A l).testBit b with
    | false => simp (disch := omega) only [bind_s, bd2_s, rdI_ok, rdJ_ok, rdT_ok, ixR_ok, wrI_ok, wrJ_ok, wrT_none, pfI_s, pfJ_s, pfZ_0, pfZ_1, zr_b2, nl_n, nl_s, nI_add, nI_mul, nI_sub, nI_shlm, nI_shrd, nI_or8, nI_or8r, nI_or5r, nI_and255, nI_and31, nI_and7, nI_and1, nI_andK, nI_clr, Nat.one_mul, nI_eqz, nI_eqq, nI_ltq, nI_ltz, nI_zlt, nI_nm1, nI_m2, m1_z, m1_lt0, m1_m1, b2_z, nI1_z, nI0_z, tb_0, tb_1, ite_nI, I_at, I_ne, J_at, J_ne, J_setI, I_setJ, ↓reduceIte, ltN_T, ltN_F, eqN_T, eqN_F, pow8, pow5, b2_f0, b2_t0, reduceCtorEq, Bool.false_eq_true, Bool.true_eq_false, eq_self, false_and, true_and, and_false, and_true, not_false_eq_true, not_true_eq_false, z0]
    | true => simp (disch := omega) only [bind_s, bd2_s, rdI_ok, rdJ_ok, rdT_ok, ixR_ok, wrI_ok, wrJ_ok, wrT_none, pfI_s, pfJ_s, pfZ_0, pfZ_1, zr_b2, nl_n, nl_s, nI_add, nI_mul, nI_sub, nI_shlm, nI_shrd, nI_or8, nI_or8r, nI_or5r, nI_and255, nI_and31, nI_and7, nI_and1, nI_andK, nI_clr, Nat.one_mul, nI_eqz, nI_eqq, nI_ltq, nI_ltz, nI_zlt, nI_nm1, nI_m2, m1_z, m1_lt0, m1_m1, b2_z, nI1_z, nI0_z, tb_0, tb_1, ite_nI, I_at, I_ne, J_at, J_ne, J_setI, I_setJ, ↓reduceIte, ltN_T, ltN_F, eqN_T, eqN_F, pow8, pow5, b2_f0, b2_t0, reduceCtorEq, Bool.false_eq_true, Bool.true_eq_false, eq_self, false_and, true_and, and_false, and_true, not_false_eq_true, not_true_eq_false, z1]
  · by_cases e : b = 10 + act
    · simp (disch := omega) only [bind_s, bd2_s, rdI_ok, rdJ_ok, rdT_ok, ixR_ok, wrI_ok, wrJ_ok, wrT_none, pfI_s, pfJ_s, pfZ_0, pfZ_1, zr_b2, nl_n, nl_s, nI_add, nI_mul, nI_sub, nI_shlm, nI_shrd, nI_or8, nI_or8r, nI_or5r, nI_and255, nI_and31, nI_and7, nI_and1, nI_andK, nI_clr, Nat.one_mul, nI_eqz, nI_eqq, nI_ltq, nI_ltz, nI_zlt, nI_nm1, nI_m2, m1_z, m1_lt0, m1_m1, b2_z, nI1_z, nI0_z, tb_0, tb_1, ite_nI, I_at, I_ne, J_at, J_ne, J_setI, I_setJ, ↓reduceIte, ltN_T, ltN_F, eqN_T, eqN_F, pow8, pow5, b2_f0, b2_t0, reduceCtorEq, Bool.false_eq_true, Bool.true_eq_false, eq_self, false_and, true_and, and_false, and_true, not_false_eq_true, not_true_eq_false, f11, hb10, e, z1, decide_true]
    · simp (disch := omega) only [bind_s, bd2_s, rdI_ok, rdJ_ok, rdT_ok, ixR_ok, wrI_ok, wrJ_ok, wrT_none, pfI_s, pfJ_s, pfZ_0, pfZ_1, zr_b2, nl_n, nl_s, nI_add, nI_mul, nI_sub, nI_shlm, nI_shrd, nI_or8, nI_or8r, nI_or5r, nI_and255, nI_and31, nI_and7, nI_and1, nI_andK, nI_clr, Nat.one_mul, nI_eqz, nI_eqq, nI_ltq, nI_ltz, nI_zlt, nI_nm1, nI_m2, m1_z, m1_lt0, m1_m1, b2_z, nI1_z, nI0_z, tb_0, tb_1, ite_nI, I_at, I_ne, J_at, J_ne, J_setI, I_setJ, ↓reduceIte, ltN_T, ltN_F, eqN_T, eqN_F, pow8, pow5, b2_f0, b2_t0, reduceCtorEq, Bool.false_eq_true, Bool.true_eq_false, eq_self, false_and, true_and, and_false, and_true, not_false_eq_true, not_true_eq_false, f11, hb10, e, z0, decide_false]
theorem WOK_T (a : AOK A) (hd : d = 197 ∨ d = 213) {b p j : Nat} (hb : b < 16) (hh : p + j < 12) {lk : List Nat} (hlk : ∀ l, l ∈ lk → l / 256 < 2 ^ cK A 0 ∧ l % 256 < LW A ∧ okB A S (p + j) (l / 256) (l % 256 % 2 ^ cK A 1) (l % 256 / 2 ^ cK A 1) = true) (f11 : σ.1 d 11 = nI b) (hc1 : ∀ i, i < nSt A S → σ.1 (d + 1) ((p + j + 1) * 1024 + i) = nI (CK A S x (p + j + 1) i)) (hw1 : ∀ i, i < nSt A S → i % 256 < LW A → ∃ m, m < 2 ^ (j + 1) ∧ σ.2.1 (d + 2) ((p + j) % 2 * 1024 + i) = lN m ∧ ∀ n, m.testBit n = true ↔ CCx A S x b p j (stc A (i % 256) (i / 256)) n) : WOK d A S x (p + j) (fun fl low => CK A S x (p + j) (fl * 256 + low)) 2 lk (JT d A S x b p j (fun fl low => CK A S x (p + j) (fl * 256 + low)) lk σ) := by
  have hs4 := S4 (S := S) a
  have hLW := LW_256 a
  have hF4 := F4 a
  have opk : ∀ {act l fl t c : Nat}, l ∈ lk → fl < 2 ^ nS A S → OpL A S x (p + j) act l fl t c → KPc A S x (p + j) (stc A (l % 256) fl) ∧ CK A S x (p + j) (fl * 256 + l % 256) = FP A S x (p + j) (stc A (l % 256) fl) := by
    intro act l fl t c hl hfl o
    obtain ⟨l1, l2, l3⟩ := hlk l hl
    have k : KPc A S x (p + j) (stc A (l % 256) fl) := (Op_kp (EG_ok a) hh o).1
    have e := lk_at (f := fl) (show l % 256 < 256 from Nat.lt_of_lt_of_le l2 hLW)
    refine ⟨k, ?_⟩
    have w : (fl * 256 + l % 256) % 256 < LW A ∧ KPc A S x (p + j) (stc A ((fl * 256 + l % 256) % 256) ((fl * 256 + l % 256) / 256)) := by
      rw [e.1, e.2]; exact ⟨l2, k⟩
    rw [CK_t w, e.1, e.2]
  refine ⟨fun V s q => q.1, fun V V' s e q => JT_c (fun act l fl t c h1 h2 h3 o => e act l fl h1 h2 h3 ?_) q, fun V s act l fl t c ha hl hfl he hc hnV q => ?_⟩
  · obtain ⟨k, ek⟩ := opk h2 h3 o
    have := (KP_FP a (by omega) k).2
    refine ⟨t, c, ((Op_p (EG_ok a) (EG_v a) hh).mpr o).1, ?_⟩
    show CK A S x (p + j) (fl * 256 + l % 256) < 1048576
    rw [ek]
    omega
  · obtain ⟨l1, l2, l3⟩ := hlk l hl
    obtain ⟨v1, v2, v3⟩ := edc_v a he l2 hfl
    obtain ⟨w1, w2⟩ := lwc_lt a v1
    have hix := ix_lt v2 w1
    have hixn := nSt_le (S := S) a
    have hj1 : t / 256 * 256 + lwc A t < 1024 := Nat.lt_of_lt_of_le hix hixn
    have hi1 : fl * 256 + l % 256 < 1024 := Nat.lt_of_lt_of_le (ix_lt hfl l2) hixn
    have hix2 : (p + j + 1) * 1024 + (t / 256 * 256 + lwc A t) < 13312 := ix13 hh hj1
    have hll : l < 1024 := l_lt (Nat.lt_of_lt_of_le l1 hF4)
    have ei := lk_at (f := fl) (show l % 256 < 256 from Nat.lt_of_lt_of_le l2 hLW)
    have ej := lk_at (f := t / 256) (show lwc A t < 256 from Nat.lt_of_lt_of_le w1 hLW)
    have hcK : KPc A S x (p + j) (stc A (l % 256) fl) ∧ CK A S x (p + j) (fl * 256 + l % 256) = FP A S x (p + j) (stc A (l % 256) fl) := by
      have hc' : CK A S x (p + j) (fl * 256 + l % 256) < 1048576 := hc
      by_cases w : (fl * 256 + l % 256) % 256 < LW A ∧ KPc A S x (p + j) (stc A ((fl * 256 + l % 256) % 256) ((fl * 256 + l % 256) / 256))
      · have w' := w
        rw [ei.1, ei.2] at w'
        refine ⟨w'.2, ?_⟩
        rw [CK_t w, ei.1, ei.2]
      · rw [CK_f w] at hc'
        exact absurd hc' (Nat.lt_irrefl _)
    have hFP := KP_FP a (by omega) hcK.1
    have hrow : s.1 (d + 1) ((p + j + 1) * 1024 + (t / 256 * 256 + lwc A t)) = nI (CK A S x (p + j + 1) (t / 256 * 256 + lwc A t)) := by
      rw [q.2.1.I (by omega)]; exact hc1 _ hix
    have hCK : CK A S x (p + j + 1) (t / 256 * 256 + lwc A t) = FP A S x (p + j) (stc A (l % 256) fl) + c ↔ OpL A S x (p + j) act l fl t c := by
      unfold OpL
      rw [← Op_p (EG_ok a) (EG_v a) hh]
      constructor
      · intro q
        by_cases w : (t / 256 * 256 + lwc A t) % 256 < LW A ∧ KPc A S x (p + j + 1) (stc A ((t / 256 * 256 + lwc A t) % 256) ((t / 256 * 256 + lwc A t) / 256))
        · rw [CK_t w] at q
          rw [ej.1, ej.2, w2] at w q
          exact ⟨he, hFP.1, w.2, q⟩
        · rw [CK_f w] at q
          omega
      · rintro ⟨_, _, p3, p4⟩
        have w : (t / 256 * 256 + lwc A t) % 256 < LW A ∧ KPc A S x (p + j + 1) (stc A ((t / 256 * 256 + lwc A t) % 256) ((t / 256 * 256 + lwc A t) / 256)) := by
          rw [ej.1, ej.2, w2]; exact ⟨w1, p3⟩
        rw [CK_t w, ej.1, ej.2, w2]
        exact p4
    have hCK2 : CK A S x (p + j + 1) (t / 256 * 256 + lwc A t) ≤ 1048576 := by
      by_cases w : (t / 256 * 256 + lwc A t) % 256 < LW A ∧ KPc A S x (p + j + 1) (stc A ((t / 256 * 256 + lwc A t) % 256) ((t / 256 * 256 + lwc A t) / 256))
      · rw [CK_t w]
        have := (KP_FP a (by omega) w.2).2
        omega
      · rw [CK_f w]; omega
    have hFPc : FP A S x (p + j) (stc A (l % 256) fl) + c < 100000 := by
      have := hFP.2
      omega
    show ∃ s', f_X2_meet_70 d KK (nI 2) (nI (p + j)) (nI l) (nI (lwc A t)) (nI act) (nI c) (nI (l % 256)) (nI fl) (nI (fl * 256 + l % 256)) (nI (CK A S x (p + j) (fl * 256 + l % 256) + c)) (nI (t / 256)) s = some s' ∧ _
    rw [hcK.2]
    by_cases o : OpL A S x (p + j) act l fl t c
    · obtain ⟨⟨bs, bl⟩, hF, ho, hv⟩ := id q
      obtain ⟨m1, k1, e1, b1⟩ := hw1 _ (ix_lt hfl l2) (by rw [ei.2]; exact l2)
      rw [ei.1, ei.2] at b1
      have e1' : s.2.1 (d + 2) ((p + j) % 2 * 1024 + (fl * 256 + l % 256)) = lN m1 := by rw [ho _ hi1]; exact e1
      obtain ⟨m2, k2, e2, b2⟩ := hv _ hix
      have etr := (TB_tr a bs.2.1 l1 l2).1
      rw [show l / 256 * 256 + l % 256 = l by omega] at etr
      have htl := trL_lt a l
      have g11 : s.1 d 11 = nI b := by rw [hF.I (by omega)]; exact f11
      have ta := t_addTally (d := d) (A := A) (i := fl * 256 + l % 256) (j := t / 256 * 256 + lwc A t) (l := l) hh hi1 hj1 hb ha htl e1' e2 g11
      have FS : Fr (fun y => y = d + 2) s (setJ s (d + 2) ((p + j + 1) % 2 * 1024 + (t / 256 * 256 + lwc A t)) (lN (m2 ||| (if mkb A b act l = true then m1 * 2 else m1)))) := Fr_setJ rfl
      refine ⟨setJ s (d + 2) ((p + j + 1) % 2 * 1024 + (t / 256 * 256 + lwc A t)) (lN (m2 ||| (if mkb A b act l = true then m1 * 2 else m1))), ?_, ⟨BS_fr a hd bs FS (fun y hy => by omega), fun i hi => by rw [I_setJ]; exact bl i hi⟩, hF.tr (FS.mono (fun y hy => by omega)), fun k hk => by rw [J_ne (Or.inr (by omega))]; exact ho k hk, fun i hi => ?_⟩
      · unfold f_X2_meet_70 KK
        simp (disch := omega) only [bind_s, bd2_s, rdT_ok, ixR_ok, wrT_none, pfI_s, pfJ_s, pfZ_0, pfZ_1, zr_b2, nl_n, nl_s, nI_add, nI_mul, nI_sub, nI_shlm, nI_shrd, nI_or8, nI_or8r, nI_or5r, nI_and255, nI_and31, nI_and7, nI_and1, nI_andK, nI_clr, Nat.one_mul, nI_eqz, nI_eqq, nI_ltq, nI_ltz, nI_zlt, nI_nm1, nI_m2, m1_z, m1_lt0, m1_m1, b2_z, nI1_z, nI0_z, tb_0, tb_1, ite_nI, I_at, I_ne, J_at, J_ne, J_setI, I_setJ, ↓reduceIte, ltN_T, ltN_F, eqN_T, eqN_F, pow8, pow5, b2_f0, b2_t0, reduceCtorEq, Bool.false_eq_true, Bool.true_eq_false, eq_self, false_and, true_and, and_false, and_true, not_false_eq_true, not_true_eq_false]
        rw [rdI_ok hix2 (by decide), hrow, hCK.mpr o]
        simp (disch := omega) only [bind_s, bd2_s, rdT_ok, ixR_ok, wrT_none, pfI_s, pfJ_s, pfZ_0, pfZ_1, zr_b2, nl_n, nl_s, nI_add, nI_mul, nI_sub, nI_shlm, nI_shrd, nI_or8, nI_or8r, nI_or5r, nI_and255, nI_and31, nI_and7, nI_and1, nI_andK, nI_clr, Nat.one_mul, nI_eqz, nI_eqq, nI_ltq, nI_ltz, nI_zlt, nI_nm1, nI_m2, m1_z, m1_lt0, m1_m1, b2_z, nI1_z, nI0_z, tb_0, tb_1, ite_nI, I_at, I_ne, J_at, J_ne, J_setI, I_setJ, ↓reduceIte, ltN_T, ltN_F, eqN_T, eqN_F, pow8, pow5, b2_f0, b2_t0, reduceCtorEq, Bool.false_eq_true, Bool.true_eq_false, eq_self, false_and, true_and, and_false, and_true, not_false_eq_true, not_true_eq_false]
        rw [rdI_ok hll (by decide), etr]
        simp (disch := omega) only [bind_s, bd2_s, rdT_ok, ixR_ok, wrT_none, pfI_s, pfJ_s, pfZ_0, pfZ_1, zr_b2, nl_n, nl_s, nI_add, nI_mul, nI_sub, nI_shlm, nI_shrd, nI_or8, nI_or8r, nI_or5r, nI_and255, nI_and31, nI_and7, nI_and1, nI_andK, nI_clr, Nat.one_mul, nI_eqz, nI_eqq, nI_ltq, nI_ltz, nI_zlt, nI_nm1, nI_m2, m1_z, m1_lt0, m1_m1, b2_z, nI1_z, nI0_z, tb_0, tb_1, ite_nI, I_at, I_ne, J_at, J_ne, J_setI, I_setJ, ↓reduceIte, ltN_T, ltN_F, eqN_T, eqN_F, pow8, pow5, b2_f0, b2_t0, reduceCtorEq, Bool.false_eq_true, Bool.true_eq_false, eq_self, false_and, true_and, and_false, and_true, not_false_eq_true, not_true_eq_false, ta]
      · by_cases e : i = t / 256 * 256 + lwc A t
        · subst e
          refine ⟨_, Nat.or_lt_two_pow k2 ?_, by rw [J_at], fun n => ?_⟩
          · have h2 : 2 ^ (j + 2) = 2 ^ (j + 1) * 2 := Nat.pow_succ ..
            split <;> omega
          · rw [Nat.testBit_or, Bool.or_eq_true, b2 n]
            have key : (if mkb A b act l = true then m1 * 2 else m1).testBit n = true ↔ ∃ m, CCx A S x b p j (stc A (l % 256) fl) m ∧ n = m + (if mkb A b act l = true then 1 else 0) := by
              cases hm : mkb A b act l with
              | true =>
                rw [if_pos rfl, if_pos rfl, tb_dbl, Bool.and_eq_true, decide_eq_true_iff]
                constructor
                · rintro ⟨r1, r2⟩; exact ⟨n - 1, (b1 _).mp r2, by omega⟩
                · rintro ⟨m, r1, rfl⟩; exact ⟨by omega, (b1 _).mpr r1⟩
              | false =>
                rw [if_neg (by simp), if_neg (by simp)]
                constructor
                · intro r; exact ⟨n, (b1 _).mp r, rfl⟩
                · rintro ⟨m, r1, rfl⟩; exact (b1 _).mpr r1
            rw [key]
            constructor
            · rintro (⟨a', l', f', t', c', m, r1, r2, r3, r4⟩ | ⟨m, r1, r2⟩)
              · exact ⟨a', l', f', t', c', m, r1, r2, Or.inl r3, r4⟩
              · exact ⟨act, l, fl, t, c, m, ⟨ha, hl, hfl⟩, o, Or.inr ⟨rfl, rfl, rfl⟩, rfl, r1, r2⟩
            · rintro ⟨a', l', f', t', c', m, r1, r2, r3 | ⟨rfl, rfl, rfl⟩, r4⟩
              · exact Or.inl ⟨a', l', f', t', c', m, r1, r2, r3, r4⟩
              · exact Or.inr ⟨m, r4.2⟩
        · obtain ⟨m, k, em, bm⟩ := hv i hi
          refine ⟨m, k, by rw [J_ne (Or.inr (by omega))]; exact em, fun n => (bm n).trans ?_⟩
          constructor
          · rintro ⟨a', l', f', t', c', m, r1, r2, r3, r4⟩
            exact ⟨a', l', f', t', c', m, r1, r2, Or.inl r3, r4⟩
          · rintro ⟨a', l', f', t', c', m, r1, r2, r3 | ⟨rfl, rfl, rfl⟩, r4⟩
            · exact ⟨a', l', f', t', c', m, r1, r2, r3, r4⟩
            · have e2 := r2.1.symm.trans o.1
              cases e2
              exact absurd r4.1.symm e
    · refine ⟨s, ?_, JT_c (fun a' l' f' t' c' _ _ _ o' => ⟨fun q => Or.inl q, fun q => q.resolve_right ?_⟩) q⟩
      · unfold f_X2_meet_70 KK
        simp (disch := omega) only [bind_s, bd2_s, rdT_ok, ixR_ok, wrT_none, pfI_s, pfJ_s, pfZ_0, pfZ_1, zr_b2, nl_n, nl_s, nI_add, nI_mul, nI_sub, nI_shlm, nI_shrd, nI_or8, nI_or8r, nI_or5r, nI_and255, nI_and31, nI_and7, nI_and1, nI_andK, nI_clr, Nat.one_mul, nI_eqz, nI_eqq, nI_ltq, nI_ltz, nI_zlt, nI_nm1, nI_m2, m1_z, m1_lt0, m1_m1, b2_z, nI1_z, nI0_z, tb_0, tb_1, ite_nI, I_at, I_ne, J_at, J_ne, J_setI, I_setJ, ↓reduceIte, ltN_T, ltN_F, eqN_T, eqN_F, pow8, pow5, b2_f0, b2_t0, reduceCtorEq, Bool.false_eq_true, Bool.true_eq_false, eq_self, false_and, true_and, and_false, and_true, not_false_eq_true, not_true_eq_false]
        rw [rdI_ok hix2 (by decide), hrow]
        simp (disch := omega) only [bind_s, bd2_s, rdT_ok, ixR_ok, wrT_none, pfI_s, pfJ_s, pfZ_0, pfZ_1, zr_b2, nl_n, nl_s, nI_add, nI_mul, nI_sub, nI_shlm, nI_shrd, nI_or8, nI_or8r, nI_or5r, nI_and255, nI_and31, nI_and7, nI_and1, nI_andK, nI_clr, Nat.one_mul, nI_eqz, nI_eqq, nI_ltq, nI_ltz, nI_zlt, nI_nm1, nI_m2, m1_z, m1_lt0, m1_m1, b2_z, nI1_z, nI0_z, tb_0, tb_1, ite_nI, I_at, I_ne, J_at, J_ne, J_setI, I_setJ, ↓reduceIte, ltN_T, ltN_F, eqN_T, eqN_F, pow8, pow5, b2_f0, b2_t0, reduceCtorEq, Bool.false_eq_true, Bool.true_eq_false, eq_self, false_and, true_and, and_false, and_true, not_false_eq_true, not_true_eq_false]
        have hne : ¬ CK A S x (p + j + 1) (t / 256 * 256 + lwc A t) = FP A S x (p + j) (stc A (l % 256) fl) + c := fun q => o (hCK.mp q)
        simp (disch := omega) only [bind_s, bd2_s, rdI_ok, rdJ_ok, rdT_ok, ixR_ok, wrI_ok, wrJ_ok, wrT_none, pfI_s, pfJ_s, pfZ_0, pfZ_1, zr_b2, nl_n, nl_s, nI_add, nI_mul, nI_sub, nI_shlm, nI_shrd, nI_or8, nI_or8r, nI_or5r, nI_and255, nI_and31, nI_and7, nI_and1, nI_andK, nI_clr, Nat.one_mul, nI_eqz, nI_eqq, nI_ltq, nI_ltz, nI_zlt, nI_nm1, nI_m2, m1_z, m1_lt0, m1_m1, b2_z, nI1_z, nI0_z, tb_0, tb_1, ite_nI, I_at, I_ne, J_at, J_ne, J_setI, I_setJ, ↓reduceIte, ltN_T, ltN_F, eqN_T, eqN_F, pow8, pow5, b2_f0, b2_t0, reduceCtorEq, Bool.false_eq_true, Bool.true_eq_false, eq_self, false_and, true_and, and_false, and_true, not_false_eq_true, not_true_eq_false, hne]
      · rintro ⟨rfl, rfl, rfl⟩
        refine o ?_
        have e2 : edc A S x (p + j) (l' % 256) f' (l' / 256) a' = some (t', c') := ((Op_p (EG_ok a) (EG_v a) hh).mpr o').1
        rw [he] at e2
        cases e2
        exact o'
end
