section
/-! ===== the class keeps the cheapest ways: one step ===== -/
variable {A : AW} {σ : ST} {d S h : Nat} {x : Nat × Nat}
def cap (n : Nat) : Nat := if 1000000000000000000 < n then 1000000000000000000 else n
theorem cap_le (n : Nat) : cap n ≤ 1000000000000000000 := by unfold cap; split <;> omega
theorem cap_add (a b : Nat) : cap (cap a + cap b) = cap (a + b) := by unfold cap; split <;> split <;> (try split) <;> (try split) <;> omega
theorem cap_z (n : Nat) : cap n = 0 ↔ n = 0 := by unfold cap; split <;> omega
theorem lN_or (a b : Nat) : lN a ||| lN b = lN (a ||| b) := by
  apply Int64.toBitVec_inj.mp
  show BitVec.ofNat 64 a ||| BitVec.ofNat 64 b = BitVec.ofNat 64 (a ||| b)
  apply BitVec.eq_of_toNat_eq
  simp only [BitVec.toNat_or, BitVec.toNat_ofNat, Nat.or_mod_two_pow]
theorem lN_cap {a b : Nat} (ha : a ≤ 1000000000000000000) (hb : b ≤ 1000000000000000000) : (if (1000000000000000000 : Int64) < lN a + lN b then 1000000000000000000 else lN a + lN b) = lN (cap (a + b)) := by
  rw [lN_add, show (1000000000000000000 : Int64) = lN 1000000000000000000 from rfl]
  unfold cap
  by_cases w : 1000000000000000000 < a + b
  · rw [if_pos ((pk_lLT (by omega) (by omega)).mpr w), if_pos w]
  · rw [if_neg (fun q => w ((pk_lLT (by omega) (by omega)).mp q)), if_neg w]
def keepS (d h i n m4 m5 m6 m7 st act r : Nat) (s : ST) : ST := setI (setI (setI (setI (setJ s (d + 2) (h % 2 * 1024 + i) (lN n)) (d + 4) h (nI (m4 &&& st))) (d + 5) h (nI (m5 ||| st))) (d + 6) h (nI (m6 ||| 2 ^ act))) (d + 7) h (nI (m7 ||| 2 ^ r))
theorem t_keep (hh : h < 12) {i j st act K n1 n2 m4 m5 m6 m7 : Nat} (hi : i < 1024) (hj : j < 1024) (ha : act < 7) (hK : K ≤ 5) (hr : i % 256 / 2 ^ K < 8) (l1 : n1 ≤ 1000000000000000000) (l2 : n2 ≤ 1000000000000000000) (w1 : σ.2.1 (d + 2) (h % 2 * 1024 + i) = lN n1) (w2 : σ.2.1 (d + 2) ((h + 1) % 2 * 1024 + j) = lN n2) (e4 : σ.1 (d + 4) h = nI m4) (e5 : σ.1 (d + 5) h = nI m5) (e6 : σ.1 (d + 6) h = nI m6) (e7 : σ.1 (d + 7) h = nI m7) (f7 : σ.1 d 7 = nI K) : f_X2_keep d (nI h) (nI i) (nI j) (nI st) (nI act) σ = some (keepS d h i (cap (n1 + n2)) m4 m5 m6 m7 st act (i % 256 / 2 ^ K) σ) := by
  have a4 : nI m4 &&& nI st = nI (m4 &&& st) := nI_and _ _
  have o5 : nI m5 ||| nI st = nI (m5 ||| st) := nI_or _ _
  have o6 : nI m6 ||| nI (2 ^ act) = nI (m6 ||| 2 ^ act) := nI_or _ _
  have o7 : nI m7 ||| nI (2 ^ (i % 256 / 2 ^ K)) = nI (m7 ||| 2 ^ (i % 256 / 2 ^ K)) := nI_or _ _
  have hc := lN_cap l1 l2
  unfold f_X2_keep f_X2_layerOf keepS
  simp (disch := omega) only [bind_s, bd2_s, rdI_ok, rdJ_ok, rdT_ok, ixR_ok, wrI_ok, wrJ_ok, wrT_none, pfI_s, pfJ_s, pfZ_0, pfZ_1, zr_b2, nl_n, nl_s, nI_add, nI_mul, nI_sub, nI_shlm, nI_shrd, nI_or8, nI_or8r, nI_or5r, nI_and255, nI_and31, nI_and7, nI_and1, nI_andK, nI_clr, Nat.one_mul, nI_eqz, nI_eqq, nI_ltq, nI_ltz, nI_zlt, nI_nm1, nI_m2, m1_z, m1_lt0, m1_m1, b2_z, nI1_z, nI0_z, tb_0, tb_1, ite_nI, I_at, I_ne, J_at, J_ne, J_setI, I_setJ, ↓reduceIte, ltN_T, ltN_F, eqN_T, eqN_F, pow8, pow5, b2_f0, b2_t0, reduceCtorEq, Bool.false_eq_true, Bool.true_eq_false, eq_self, false_and, true_and, and_false, and_true, not_false_eq_true, not_true_eq_false, w1, w2, hc, e4, e5, e6, e7, f7, a4, o5, o6, o7]
/-! sums where one step comes in -/
noncomputable def iteP (p : Prop) (n : Nat) : Nat := @ite _ p (Classical.propDecidable _) n 0
theorem iteP_t {p : Prop} {n : Nat} (h : p) : iteP p n = n := if_pos h
theorem iteP_f {p : Prop} {n : Nat} (h : ¬ p) : iteP p n = 0 := if_neg h
theorem iteP_c {p q : Prop} {n : Nat} (h : p ↔ q) : iteP p n = iteP q n := by rw [propext h]
theorem sm2_upd {P Q : Nat → Nat → Prop} {g : Nat → Nat → Nat} {f0 a0 : Nat} (hf : f0 < 4) (ha : a0 < 7) (hP : ¬ P f0 a0) (hQ : ∀ f a, Q f a ↔ P f a ∨ (f = f0 ∧ a = a0)) : (sm 4 fun f => sm 7 fun a => iteP (Q f a) (g f a)) = (sm 4 fun f => sm 7 fun a => iteP (P f a) (g f a)) + g f0 a0 := by
  have inner : (sm 7 fun a => iteP (Q f0 a) (g f0 a)) + iteP (P f0 a0) (g f0 a0) = (sm 7 fun a => iteP (P f0 a) (g f0 a)) + iteP (Q f0 a0) (g f0 a0) := sm_upd ha (fun a _ hne => iteP_c ((hQ f0 a).trans ⟨fun q => q.elim id (fun q => absurd q.2 hne), Or.inl⟩))
  have outer := sm_upd (g := fun f => sm 7 fun a => iteP (P f a) (g f a)) (k := fun f => sm 7 fun a => iteP (Q f a) (g f a)) hf (fun f _ hne => sm_congr (fun a _ => iteP_c ((hQ f a).trans ⟨fun q => q.elim id (fun q => absurd q.1 hne), Or.inl⟩)))
  rw [iteP_f hP, iteP_t ((hQ f0 a0).mpr (Or.inr ⟨rfl, rfl⟩))] at inner
  omega
end
