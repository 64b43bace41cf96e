section
/-! ===== the reference's questions: in how many hours, the end ===== -/
variable {A : AW} {σ : ST} {S h b p q : Nat} {x : Nat × Nat}
theorem often53_ok {k : Int32 → Int32 → Int32 → Int32 → Int32 → ST → Option (Int32 × ST)} {x1 x2 x3 x4 : Int32} {i : Nat} (hi : i < 1024) (z : Bool) {v : Int32} : f_X12_often_53 k x1 x2 x3 x4 (nI i) (b2 z) (nI i) v σ = k x1 x2 x3 x4 (nI (i + 1)) (setI (setI σ 282 i v) 283 i (if z = true then nI 0 else -1)) := by
  unfold f_X12_often_53
  rw [wrI_ok hi (by decide)]
  simp only [bind_s]
  cases z with
  | true =>
    rw [if_neg (show ¬ b2 true = 0 by decide), wrI_ok hi (by decide), if_pos rfl]
    simp only [bind_s]
    rw [nI_add]
  | false =>
    rw [if_pos (show b2 false = 0 by decide), wrI_ok hi (by decide), if_neg (by decide)]
    simp only [bind_s]
    rw [nI_add]
theorem t_often3 (a : AOK A) (v : SV A S x σ) {x1 x2 x3 x4 : Int32} {k : Int32 → Int32 → Int32 → Int32 → ST → Option (Int32 × ST)} : ∃ u, f_X12_often_3 k FU x1 x2 x3 x4 (nI 0) σ = k x1 x2 x3 x4 u ∧ Fr (fun y => y = 282 ∨ y = 283) σ u ∧ ∀ s, s < 1024 → MM (Rq A S x b p q 0 s) (u.1 282 s) (u.1 283 s) := by
  have hK := K32 a
  refine Exists.elim (loopE (fun n i u => f_X12_often_3 k n x1 x2 x3 x4 (nI i) u) 1024 (fun i u => Fr (fun y => y = 282 ∨ y = 283) σ u ∧ ∀ s, s < i → MM (Rq A S x b p q 0 s) (u.1 282 s) (u.1 283 s)) (fun u => k x1 x2 x3 x4 u) ?_ ?_ FU 0 σ (by rw [FU_eq]; omega) (by omega) ⟨Fr.rf _ _, fun t ht => by omega⟩) ?_
  · rintro n i u hi ⟨hF, hm⟩ Q hQ
    have ew : u.1 276 i = nI (FW A S x 0 i) := by
      rw [hF.I (by omega)]
      have := v.2.1 0 i (by omega) hi
      rwa [Nat.mul_zero, Nat.zero_add] at this
    have hfw : FW A S x 0 i = if i < 2 ^ cK A 1 then 0 else 100000000 := rfl
    show ∃ y, f_X12_often_3 k (n + 1) x1 x2 x3 x4 (nI i) u = f_X12_often_3 k n x1 x2 x3 x4 (nI (i + 1)) y ∧ _
    rw [f_X12_often_3, if_pos (lt1024 hi), rdI_ok (show i < 13312 by omega) (by decide), ew]
    simp only [bind_s]
    have key : ∀ z, (z = true ↔ i < 2 ^ cK A 1) → MM (Rq A S x b p q 0 i) (if z = true then nI 0 else nI 100000000) (if z = true then nI 0 else -1) := by
      intro z hz
      cases z with
      | true =>
        have hi' := hz.mp rfl
        refine Or.inr ⟨0, 0, rfl, rfl, by omega, by omega, ⟨hi', rfl⟩, ⟨hi', rfl⟩, fun n hn => ?_⟩
        have : n = 0 := hn.2
        omega
      | false =>
        refine Or.inl ⟨rfl, rfl, fun n hn => ?_⟩
        have := hz.mpr hn.1
        cases this
    have fin : ∀ z, (z = true ↔ i < 2 ^ cK A 1) → Q (setI (setI u 282 i (if z = true then nI 0 else nI 100000000)) 283 i (if z = true then nI 0 else -1)) := by
      intro z hz
      refine hQ _ ⟨(hF.tr (Fr_setI (Or.inl rfl))).tr (Fr_setI (Or.inr rfl)), fun t ht => ?_⟩
      by_cases c : t = i
      · subst c
        rw [I_ne (Or.inl (by decide)), I_at, I_at]; exact key z hz
      · rw [I_ne (Or.inl (by decide)), I_ne (Or.inr c), I_ne (Or.inr c), I_ne (Or.inl (by decide))]
        exact hm t (by omega)
    have e1 : f_X12_often_32 (f_X12_often_3 k n) x1 x2 x3 x4 (nI i) u = f_X12_often_3 k n x1 x2 x3 x4 (nI (i + 1)) (setI (setI u 282 i (nI 100000000)) 283 i (-1)) := by
      unfold f_X12_often_32 f_X12_often_33
      rw [if_pos (show nI 0 = 0 by decide)]
      exact often53_ok hi false
    have e2 : f_X12_often_33 (f_X12_often_3 k n) x1 x2 x3 x4 (nI i) (nI 1) u = f_X12_often_3 k n x1 x2 x3 x4 (nI (i + 1)) (setI (setI u 282 i (nI 0)) 283 i (nI 0)) := by
      unfold f_X12_often_33
      rw [if_neg (show ¬ nI 1 = 0 by decide)]
      exact often53_ok hi true
    by_cases c : i < 2 ^ cK A 1
    · rw [hfw, if_pos c, if_pos (show nI 0 = 0 by decide), if_pos ((nI_ltI (by omega) (by decide)).mpr (show i < 32 by omega)), e2]
      exact ⟨_, rfl, fin true ⟨fun _ => c, fun _ => rfl⟩⟩
    · rw [hfw, if_neg c, if_neg (show ¬ nI 100000000 = 0 by decide), e1]
      exact ⟨_, rfl, fin false ⟨fun w => (by cases w), fun w => absurd w c⟩⟩
  · rintro n u -
    show f_X12_often_3 k (n + 1) _ _ _ _ (nI 1024) u = _
    rw [f_X12_often_3, if_neg (fun w => Nat.lt_irrefl _ ((nI_ltI (by omega) (by omega)).mp w))]
  · rintro u ⟨e, h1, h2⟩
    exact ⟨u, e, h1, h2⟩
theorem mq6 : ∀ a : Fin 14, ¬ nI 100000000 < nI a.1 := by decide
theorem mq7 : ∀ a : Fin 14, ¬ nI a.1 < -1 := by decide
theorem MM_or {P Q R : Nat → Prop} {v w v1 w1 : Int32} (mP : MM P v w) (mQ : MM Q v1 w1) (hR : ∀ n, R n ↔ P n ∨ Q n) : MM R (if v1 < v then v1 else v) (if w < w1 then w1 else w) := by
  rcases id mQ with ⟨rfl, rfl, q⟩ | ⟨lo1, hi1, e1, e2, b1, b2, b3, b4, b5⟩
  · have e : MM R v w := MM_same mP fun n => (hR n).trans ⟨fun r => r.resolve_right (q n), Or.inl⟩
    rcases mP with ⟨rfl, rfl, -⟩ | ⟨lo, hi, rfl, rfl, a1, a2, -⟩
    · rw [if_neg (by decide), if_neg (by decide)]; exact e
    · rw [if_neg (mq6 ⟨lo, by omega⟩), if_neg (mq7 ⟨hi, by omega⟩)]; exact e
  · have z : ∀ v, v + nI 0 = v := fun v => by
      show v + 0 = v
      exact Int32.add_zero v
    have := MM_add (d := 0) mP mQ ⟨lo1, b3⟩ (fun m r => by have := b5 m r; omega) (R := R) (fun n => (hR n).trans (or_congr Iff.rfl ⟨fun r => ⟨n, r, rfl⟩, fun ⟨m, r, e⟩ => by rw [e]; exact r⟩))
    rw [z, z] at this
    exact this
theorem t_often405 (v : SV A S x σ) (a : AOK A) (mm : ∀ s, s < 1024 → MM (Rq A S x b p q 12 s) (σ.1 282 s) (σ.1 283 s)) : ∃ y : Int32 × Int32, f_X12_often_405 FU (nI 100000000) (-1) (nI 0) σ = some (nI 100 * y.2 + y.1, σ) ∧ MM (fun n => ∃ s, glS A S s = true ∧ Rq A S x b p q 12 s n) y.1 y.2 := by
  have h2 := nS_le (S := S) a
  have hP := Nat.two_pow_pos (nS A S)
  have hS4 := S4 (S := S) a
  have h36 : σ.1 247 36 = nI (nS A S) := v.1.2.1.2.1
  refine Exists.elim (loopE (A := Int32 × Int32) (fun n i y => f_X12_often_405 n y.1 y.2 (nI i) σ) 1024 (fun i y => MM (fun n => ∃ s, s < i ∧ glS A S s = true ∧ Rq A S x b p q 12 s n) y.1 y.2) (fun y => some (nI 100 * y.2 + y.1, σ)) ?_ ?_ FU 0 (nI 100000000, -1) (by rw [FU_eq]; omega) (by omega) (Or.inl ⟨rfl, rfl, fun n ⟨s, hs, _⟩ => by omega⟩)) ?_
  · rintro n i ⟨y1, y2⟩ hi hI Q hQ
    have sh : nI i >>> (nI 8 &&& 31) = nI (i / 256) := by rw [nI_shrd (by omega) (by omega)]
    have hI : MM (fun n => ∃ s, s < i ∧ glS A S s = true ∧ Rq A S x b p q 12 s n) y1 y2 := hI
    show ∃ y : Int32 × Int32, f_X12_often_405 (n + 1) y1 y2 (nI i) σ = f_X12_often_405 n y.1 y.2 (nI (i + 1)) σ ∧ _
    have e36 : ((nI 1) <<< ((σ.1 247 36) &&& 31)) - (nI 1) = nI (2 ^ nS A S - 1) := by simp (disch := omega) only [bind_s, bd2_s, rdT_ok, ixR_ok, wrT_none, pfI_s, pfJ_s, pfZ_0, pfZ_1, zr_b2, nl_n, nl_s, nI_add, nI_mul, nI_sub, nI_shlm, nI_shrd, nI_or8, nI_or8r, nI_or5r, nI_and255, nI_and31, nI_and7, nI_and1, nI_andK, nI_clr, Nat.one_mul, nI_eqz, nI_eqq, nI_ltq, nI_ltz, nI_zlt, nI_nm1, nI_m2, m1_z, m1_lt0, m1_m1, b2_z, nI1_z, nI0_z, tb_0, tb_1, ite_nI, I_at, I_ne, J_at, J_ne, J_setI, I_setJ, ↓reduceIte, ltN_T, ltN_F, eqN_T, eqN_F, pow8, pow5, b2_f0, b2_t0, reduceCtorEq, Bool.false_eq_true, Bool.true_eq_false, eq_self, false_and, true_and, and_false, and_true, not_false_eq_true, not_true_eq_false, h36]
    rw [f_X12_often_405, if_pos (lt1024 hi), sh, e36, nI_add]
    by_cases hg : i / 256 = 2 ^ nS A S - 1
    · have hg2 : glS A S i = true := by unfold glS; rw [decide_eq_true hg]
      rw [if_pos (congrArg nI hg), rdI_ok hi (by decide), rdI_ok hi (by decide)]
      simp only [bind_s]
      refine ⟨(_, _), rfl, hQ _ (MM_or hI (mm i hi) fun n => ?_)⟩
      constructor
      · rintro ⟨s, h1, h2, h3⟩
        by_cases e : s = i
        · subst e; exact Or.inr h3
        · exact Or.inl ⟨s, by omega, h2, h3⟩
      · rintro (⟨s, h1, h2, h3⟩ | h3)
        · exact ⟨s, by omega, h2, h3⟩
        · exact ⟨i, by omega, hg2, h3⟩
    · have hg2 : ¬ glS A S i = true := by unfold glS; rw [decide_eq_true_iff]; exact hg
      rw [if_neg (fun q => hg ((nI_eq (by omega) (by omega)).mp q))]
      refine ⟨(y1, y2), rfl, hQ _ (MM_same hI fun n => ?_)⟩
      constructor
      · rintro ⟨s, h1, h2, h3⟩
        by_cases e : s = i
        · subst e; exact absurd h2 hg2
        · exact ⟨s, by omega, h2, h3⟩
      · rintro ⟨s, h1, h2, h3⟩; exact ⟨s, by omega, h2, h3⟩
  · rintro n ⟨y1, y2⟩ -
    show f_X12_often_405 (n + 1) _ _ (nI 1024) σ = _
    rw [f_X12_often_405, if_neg (fun w => Nat.lt_irrefl _ ((nI_ltI (by omega) (by omega)).mp w))]
  · rintro y ⟨e, m⟩
    refine ⟨y, e, MM_same m fun n => ⟨?_, fun ⟨s, _, h1, h2⟩ => ⟨s, h1, h2⟩⟩⟩
    rintro ⟨s, h1, h2⟩
    have hlt := Rq_lt a (by omega) h2
    have := (FW_v (h := 12) (s := s) a hlt).2
    exact ⟨s, by omega, h1, h2⟩
theorem KP_Rc {E : GR} {I : Nat} {gl : Nat → Bool} {mk : Nat → Nat → Nat → Nat → Bool} (g : GOK E) : ∀ h, h ≤ 12 → ∀ s, KP E I gl h s → ∃ n, Rc (Op E I gl) I mk h s n := by
  intro h
  induction h with
  | zero =>
    intro _ s k
    refine ⟨0, ?_, rfl⟩
    by_cases c : s < I
    · exact c
    · exfalso
      have k1 := k.1
      have e : Fw E I 0 s = NV := if_neg c
      rw [e] at k1
      have := k.2
      rw [← k1] at this
      exact absurd this (Nat.not_lt.mpr (Nat.le_add_right _ _))
  | succ h ih =>
    intro hh t k
    obtain ⟨s, f, act, c, o⟩ := KP_in g (by omega) k
    obtain ⟨n, r⟩ := ih (by omega) s (Op_kp g (by omega) o).1
    exact ⟨_, s, f, act, c, n, o, r, rfl⟩
/-- so often, on some course -/
def OF (A : AW) (S : Nat) (x : Nat × Nat) (b p q n : Nat) : Prop := ∃ t, Cc (Op (EG A S x) (2 ^ cK A 1) (glS A S)) (KPm A S x) (fun _ s f act => mkr A b s f act) p (q + 1 - p) t n
theorem t_often (a : AOK A) (v : SV A S x σ) (hL : LE A S x < 100000000) (hpq : p ≤ q) (hq : q < 12) {x1 x2 : Int32} (hb : bArg b x1 x2) : ∃ u lo hi, f_X12_often x1 x2 (nI p) (nI q) σ = some (nI (100 * hi + lo), u) ∧ Fq F7 σ u ∧ lo ≤ 12 ∧ hi ≤ 12 ∧ OF A S x b p q lo ∧ OF A S x b p q hi ∧ ∀ n, OF A S x b p q n → lo ≤ n ∧ n ≤ hi := by
  have hp : p < 12 := by omega
  unfold f_X12_often
  obtain ⟨u1, e1, F1, m1⟩ := t_often3 (b := b) (p := p) (q := q) a v (x1 := x1) (x2 := x2) (x3 := nI p) (x4 := nI q) (k := fun x1_5 x2_6 x3_7 x4_8 s9 => f_X12_often_80 (fun s58 => f_X12_often_405 FU (nI 100000000) (-1) (nI 0) s58) FU x1_5 x2_6 x3_7 x4_8 (nI 0) s9)
  rw [e1]
  have G1 : Fq F7 σ u1 := ⟨F1.mono (fun y hy => by unfold F7; omega), fun k _ => F1.I (by omega) k⟩
  have v1 := SV_fq v G1 (fun y hy => hy.1)
  obtain ⟨u2, e2, F2, m2⟩ := t_often80 a v1 hL hp hq hb m1 (k := fun s58 => f_X12_often_405 FU (nI 100000000) (-1) (nI 0) s58)
  rw [e2]
  obtain ⟨⟨y1, y2⟩, e3, m3⟩ := t_often405 (SV_fq v1 F2 (fun y hy => hy.1)) a m2
  rw [e3]
  have hI : 2 ^ cK A 1 ≤ 1024 := by have := K32 a; omega
  have tq := fun n => tal_eq (mk := mkR A b p q) (mk2 := fun _ s f act => mkr A b s f act) (I := 2 ^ cK A 1) (gl := glS A S) (EG_ok (S := S) (x := x) a) (fun h s f a => rfl) hq hpq n
  have m4 : MM (OF A S x b p q) y1 y2 := MM_same m3 fun n => (tq n).symm
  rcases m4 with ⟨-, -, no⟩ | ⟨lo, hi, rfl, rfl, h1, h2, h3, h4, h5⟩
  · exfalso
    obtain ⟨s, k⟩ := KP_ex (show Le (EG A S x) (2 ^ cK A 1) (glS A S) < NV from hL)
    obtain ⟨n, r⟩ := KP_Rc (mk := mkR A b p q) (EG_ok a) 12 (by omega) s k
    exact no n ((tq n).mp ⟨s, ((KP_12 s).mp k).1, r⟩)
  · exact ⟨u2, lo, hi, by rw [nI_mul, nI_add], G1.tr F2, h1, h2, h3, h4, h5⟩
end
