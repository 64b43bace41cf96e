section
/-! ===== the reference's questions: what some courses do in an hour ===== -/
variable {A : AW} {σ : ST} {S h : Nat} {x : Nat × Nat}
abbrev OpX (A : AW) (S : Nat) (x : Nat × Nat) (h s f act t c : Nat) : Prop := Op (EG A S x) (2 ^ cK A 1) (glS A S) h s f act t c
theorem SV_fe {s : ST} (v : SV A S x σ) (h : Fe σ s) : SV A S x s := by
  obtain ⟨v1, v2, v3, v4⟩ := v
  exact ⟨MB_fe v1 h, fun hh ss h1 h2 => by rw [h.I (by omega) (by omega)]; exact v2 hh ss h1 h2, by rw [h.2 39 (by omega)]; exact v3, fun q hh ss h1 h2 h3 => by rw [h.I (by omega) (by omega)]; exact v4 q hh ss h1 h2 h3⟩
theorem Fz_e {s : ST} (h : Fe σ s) : Fz σ s := ⟨h.1.mono (fun y q => by omega), fun k _ _ _ _ _ b => h.2 k b⟩
noncomputable def obX (A : AW) (S : Nat) (x : Nat × Nat) (h s f act : Nat) : Bool := ob (EG A S x) (2 ^ cK A 1) (glS A S) h s f act
theorem sum3_lt {a b c : Nat} (h1 : a ≤ 100000000) (h2 : b ≤ 100000000) (h3 : c ≤ 99) : a + c + b < 2 ^ 31 := by omega
theorem t_isLeast (a : AOK A) (v : SV A S x σ) (hL : LE A S x < 100000000) (hh : h < 12) {s0 e : Nat} (hs : s0 < 1024) (hw : FW A S x h s0 < 100000000) (ed : EdA A S x h s0 (EL A S x h s0) σ) (he : e < (EL A S x h s0).length) : f_X12_isLeast (nI h) (nI s0) (nI e) σ = some (b2 (obX A S x h s0 ((EL A S x h s0).getD e (0, 0)).1 ((EL A S x h s0).getD e (0, 0)).2), σ) := by
  have hlen := EL_len (S := S) (x := x) (h := h) (s := s0) a
  obtain ⟨-, -, e3, e4⟩ := ed.2 e he
  have hE := EL_at (S := S) (x := x) (h := h) (s := s0) a he
  have htg : TG A S x h s0 ((EL A S x h s0).getD e (0, 0)).1 ((EL A S x h s0).getD e (0, 0)).2 = tos A S h s0 ((EL A S x h s0).getD e (0, 0)).1 ((EL A S x h s0).getD e (0, 0)).2 := tg_of hE
  rw [htg] at e3
  generalize (EL A S x h s0).getD e (0, 0) = q at *
  have gE := EG_ok a h s0 _ _ _ _ hE
  have h99 := FW_99 a hw
  have hfw : FW A S x (h + 1) (tos A S h s0 q.1 q.2) < 100000000 := by
    have h3 : FW A S x (h + 1) (tos A S h s0 q.1 q.2) ≤ FW A S x h s0 + cst A S x h q.2 := Fw_step (I := 2 ^ cK A 1) hE hw
    have := gE.2.2.2.2
    omega
  have r1 := v.2.1 h s0 (by omega) hs
  have r2 := v.2.2.2 hL (h + 1) _ (by omega) gE.2.1 hfw
  rw [show 12 - (h + 1) = 11 - h by omega] at r2
  have r3 := v.2.2.1
  have hob : obX A S x h s0 q.1 q.2 = decide (FW A S x h s0 + cst A S x h q.2 + BK A S x (11 - h) (tos A S h s0 q.1 q.2) = LE A S x) := by
    unfold obX ob
    rw [hE]
    show (decide (FW A S x h s0 < NV) && (decide (FW A S x h s0 + cst A S x h q.2 + BK A S x (11 - h) (tos A S h s0 q.1 q.2) = LE A S x) && decide (LE A S x < NV))) = _
    rw [decide_eq_true (show FW A S x h s0 < NV from hw), decide_eq_true (show LE A S x < NV from hL)]
    simp
  rw [hob]
  have hb := BK_le (A := A) (S := S) (x := x) (11 - h) (tos A S h s0 q.1 q.2)
  have hsum := sum3_lt (FW_le (A := A) (S := S) (x := x) h s0) hb gE.2.2.2.2
  have hl31 : LE A S x < 2 ^ 31 := Nat.lt_trans hL (by decide)
  have hix : 1024 * h + s0 < 13312 := by omega
  have hix2 : 1024 * (h + 1) + tos A S h s0 q.1 q.2 < 13312 := by have := gE.2.1; omega
  have he28 : e < 28 := by omega
  clear hlen h99 hw hfw hE gE htg
  unfold f_X12_isLeast
  rw [nI_mul, nI_add, rdI_ok hix (by decide), r1]
  simp (disch := omega) only [bind_s, bd2_s, rdT_ok, ixR_ok, wrT_none, pfI_s, pfJ_s, pfZ_0, pfZ_1, zr_b2, nl_n, nl_s, nI_add, nI_mul, nI_sub, nI_shlm, nI_shrd, nI_or8, nI_or8r, nI_or5r, nI_and255, nI_and31, nI_and7, nI_and1, nI_andK, nI_clr, Nat.one_mul, nI_eqz, nI_eqq, nI_ltq, nI_ltz, nI_zlt, nI_nm1, nI_m2, m1_z, m1_lt0, m1_m1, b2_z, nI1_z, nI0_z, tb_0, tb_1, ite_nI, I_at, I_ne, J_at, J_ne, J_setI, I_setJ, ↓reduceIte, ltN_T, ltN_F, eqN_T, eqN_F, pow8, pow5, b2_f0, b2_t0, reduceCtorEq, Bool.false_eq_true, Bool.true_eq_false, eq_self, false_and, true_and, and_false, and_true, not_false_eq_true, not_true_eq_false, rdI_ok he28 (show 28 < 2 ^ 31 by decide), e3, e4]
  rw [rdI_ok hix2 (by decide), r2]
  simp only [bind_s, nI_add]
  rw [r3]
  by_cases w : FW A S x h s0 + cst A S x h q.2 + BK A S x (11 - h) (tos A S h s0 q.1 q.2) = LE A S x
  · rw [if_pos (congrArg nI w), decide_eq_true w]; rfl
  · rw [if_neg (fun q => w ((nI_eq hsum hl31).mp q)), decide_eq_false w]; rfl
/-- some step of a cheapest course, of those done -/
def EP (A : AW) (S : Nat) (x : Nat × Nat) (h s0 : Nat) (M : List (Nat × Nat)) (p : Nat → Nat → Nat → Prop) : Prop := ∃ s f act t c, OpX A S x h s f act t c ∧ p act f s ∧ (s < s0 ∨ (s = s0 ∧ (f, act) ∈ M))
theorem EP_step (a : AOK A) {s0 e : Nat} (he : e < (EL A S x h s0).length) (p : Nat → Nat → Nat → Prop) : EP A S x h s0 ((EL A S x h s0).take (e + 1)) p ↔ EP A S x h s0 ((EL A S x h s0).take e) p ∨ (obX A S x h s0 ((EL A S x h s0).getD e (0, 0)).1 ((EL A S x h s0).getD e (0, 0)).2 = true ∧ p ((EL A S x h s0).getD e (0, 0)).2 ((EL A S x h s0).getD e (0, 0)).1 s0) := by
  constructor
  · rintro ⟨s, f, act, t, c, o, q, r | ⟨rfl, r⟩⟩
    · exact Or.inl ⟨s, f, act, t, c, o, q, Or.inl r⟩
    · rcases (tk_mem (d := (0, 0)) he).mp r with r | r
      · exact Or.inl ⟨s, f, act, t, c, o, q, Or.inr ⟨rfl, r⟩⟩
      · right
        rw [← r]
        exact ⟨ob_iff.mpr ⟨t, c, o⟩, q⟩
  · rintro (⟨s, f, act, t, c, o, q, r | ⟨rfl, r⟩⟩ | ⟨o, q⟩)
    · exact ⟨s, f, act, t, c, o, q, Or.inl r⟩
    · exact ⟨s, f, act, t, c, o, q, Or.inr ⟨rfl, (tk_mem (d := (0, 0)) he).mpr (Or.inl r)⟩⟩
    · obtain ⟨t, c, o⟩ := ob_iff.mp o
      exact ⟨s0, _, _, t, c, o, q, Or.inr ⟨rfl, (tk_mem (d := (0, 0)) he).mpr (Or.inr rfl)⟩⟩
theorem EP_end (a : AOK A) {s0 : Nat} (p : Nat → Nat → Nat → Prop) : EP A S x h s0 ((EL A S x h s0).take (EL A S x h s0).length) p ↔ EP A S x h (s0 + 1) [] p := by
  rw [List.take_length]
  constructor
  · rintro ⟨s, f, act, t, c, o, q, r | ⟨rfl, r⟩⟩
    · exact ⟨s, f, act, t, c, o, q, Or.inl (by omega)⟩
    · exact ⟨s, f, act, t, c, o, q, Or.inl (by omega)⟩
  · rintro ⟨s, f, act, t, c, o, q, r | ⟨-, r⟩⟩
    · by_cases e : s = s0
      · subst e
        refine ⟨s, f, act, t, c, o, q, Or.inr ⟨rfl, ?_⟩⟩
        obtain ⟨-, rfl, rfl⟩ := EG_iff.mp o.1
        exact (EL_mem a).mpr o.1
      · exact ⟨s, f, act, t, c, o, q, Or.inl (by omega)⟩
    · cases r
theorem EP_skip {s0 : Nat} (hn : FW A S x h s0 = 100000000) (p : Nat → Nat → Nat → Prop) : EP A S x h (s0 + 1) [] p ↔ EP A S x h s0 [] p := by
  constructor
  · rintro ⟨s, f, act, t, c, o, q, r | ⟨-, r⟩⟩
    · by_cases e : s = s0
      · subst e
        have : FW A S x h s < 100000000 := o.2.1
        rw [hn] at this
        exact absurd this (Nat.lt_irrefl _)
      · exact ⟨s, f, act, t, c, o, q, Or.inl (by omega)⟩
    · cases r
  · rintro ⟨s, f, act, t, c, o, q, r | ⟨-, r⟩⟩
    · exact ⟨s, f, act, t, c, o, q, Or.inl (by omega)⟩
    · cases r
theorem EP_0 (p : Nat → Nat → Nat → Prop) : ¬ EP A S x h 0 [] p := by
  rintro ⟨s, f, act, t, c, o, q, r | ⟨-, r⟩⟩
  · omega
  · cases r
theorem EP_all (a : AOK A) (p : Nat → Nat → Nat → Prop) : EP A S x h 1024 [] p ↔ ∃ s f act t c, OpX A S x h s f act t c ∧ p act f s := by
  constructor
  · rintro ⟨s, f, act, t, c, o, q, -⟩; exact ⟨s, f, act, t, c, o, q⟩
  · rintro ⟨s, f, act, t, c, o, q⟩; exact ⟨s, f, act, t, c, o, q, Or.inl (EG_ok a _ _ _ _ _ _ o.1).1⟩
/-- bits of some steps -/
def bitsE (E : (Nat → Nat → Nat → Prop) → Prop) (n : Nat) (P : Nat → Nat → Nat → Nat → Prop) (m : Nat) : Prop := m < 2 ^ n ∧ ∀ j, j < n → (m.testBit j = true ↔ E (P j))
theorem t_doIn (a : AOK A) (v : SV A S x σ) (hL : LE A S x < 100000000) (hh : h < 12) {th : Nat} (hth : th < 10) : ∃ u m, f_X12_doIn (nI th) (nI h) σ = some (nI m, u) ∧ Fe σ u ∧ bitsE (EP A S x h 1024 []) 2 (fun j _ f s => (so A f (s % 32) (s / 32 % 8)).testBit th = decide (j = 1)) m := by
  unfold f_X12_doIn
  refine Exists.elim (loopE (A := Nat × ST) (fun n s0 y => f_X12_doIn_5 n (nI th) (nI h) (nI y.1) (nI s0) y.2) 1024 (fun s0 y => Fe σ y.2 ∧ bitsE (EP A S x h s0 []) 2 (fun j _ f s => (so A f (s % 32) (s / 32 % 8)).testBit th = decide (j = 1)) y.1) (fun y => some (nI y.1, y.2)) ?_ ?_ FU 0 (0, σ) (by rw [FU_eq]; omega) (by omega) ⟨Fe.rf _, (show (0 : Nat) < 2 ^ 2 by decide), fun j _ => ⟨fun q => by simp at q, fun q => absurd q (EP_0 _)⟩⟩) ?_
  · rintro n s0 ⟨m, u⟩ hs ⟨hF, hm1, hm2⟩ Q hQ
    have v' := SV_fe v hF
    have ew := v'.2.1 h s0 (by omega) hs
    have hle := FW_le (A := A) (S := S) (x := x) h s0
    have hix : 1024 * h + s0 < 13312 := by omega
    show ∃ y : Nat × ST, f_X12_doIn_5 (n + 1) (nI th) (nI h) (nI m) (nI s0) u = f_X12_doIn_5 n (nI th) (nI h) (nI y.1) (nI (s0 + 1)) y.2 ∧ _
    rw [f_X12_doIn_5]
    simp (disch := omega) only [bind_s, bd2_s, rdT_ok, ixR_ok, wrT_none, pfI_s, pfJ_s, pfZ_0, pfZ_1, zr_b2, nl_n, nl_s, nI_add, nI_mul, nI_sub, nI_shlm, nI_shrd, nI_or8, nI_or8r, nI_or5r, nI_and255, nI_and31, nI_and7, nI_and1, nI_andK, nI_clr, Nat.one_mul, nI_eqz, nI_eqq, nI_ltq, nI_ltz, nI_zlt, nI_nm1, nI_m2, m1_z, m1_lt0, m1_m1, b2_z, nI1_z, nI0_z, tb_0, tb_1, ite_nI, I_at, I_ne, J_at, J_ne, J_setI, I_setJ, ↓reduceIte, ltN_T, ltN_F, eqN_T, eqN_F, pow8, pow5, b2_f0, b2_t0, reduceCtorEq, Bool.false_eq_true, Bool.true_eq_false, eq_self, false_and, true_and, and_false, and_true, not_false_eq_true, not_true_eq_false]
    rw [rdI_ok hix (by decide), ew]
    by_cases hn : FW A S x h s0 = 100000000
    · simp (disch := omega) only [bind_s, bd2_s, rdT_ok, ixR_ok, wrT_none, pfI_s, pfJ_s, pfZ_0, pfZ_1, zr_b2, nl_n, nl_s, nI_add, nI_mul, nI_sub, nI_shlm, nI_shrd, nI_or8, nI_or8r, nI_or5r, nI_and255, nI_and31, nI_and7, nI_and1, nI_andK, nI_clr, Nat.one_mul, nI_eqz, nI_eqq, nI_ltq, nI_ltz, nI_zlt, nI_nm1, nI_m2, m1_z, m1_lt0, m1_m1, b2_z, nI1_z, nI0_z, tb_0, tb_1, ite_nI, I_at, I_ne, J_at, J_ne, J_setI, I_setJ, ↓reduceIte, ltN_T, ltN_F, eqN_T, eqN_F, pow8, pow5, b2_f0, b2_t0, reduceCtorEq, Bool.false_eq_true, Bool.true_eq_false, eq_self, false_and, true_and, and_false, and_true, not_false_eq_true, not_true_eq_false, hn]
      exact ⟨(m, u), rfl, hQ _ ⟨hF, hm1, fun j hj => (hm2 j hj).trans (EP_skip hn _).symm⟩⟩
    · have hlt : FW A S x h s0 < 100000000 := by omega
      obtain ⟨vs, hfl⟩ := FW_v a hlt
      obtain ⟨w, e1, F1, d1⟩ := t_edgesOf a v'.1 hh vs hfl hs
      have v1 := SV_fe v' F1
      simp (disch := omega) only [bind_s, bd2_s, rdT_ok, ixR_ok, wrT_none, pfI_s, pfJ_s, pfZ_0, pfZ_1, zr_b2, nl_n, nl_s, nI_add, nI_mul, nI_sub, nI_shlm, nI_shrd, nI_or8, nI_or8r, nI_or5r, nI_and255, nI_and31, nI_and7, nI_and1, nI_andK, nI_clr, Nat.one_mul, nI_eqz, nI_eqq, nI_ltq, nI_ltz, nI_zlt, nI_nm1, nI_m2, m1_z, m1_lt0, m1_m1, b2_z, nI1_z, nI0_z, tb_0, tb_1, ite_nI, I_at, I_ne, J_at, J_ne, J_setI, I_setJ, ↓reduceIte, ltN_T, ltN_F, eqN_T, eqN_F, pow8, pow5, b2_f0, b2_t0, reduceCtorEq, Bool.false_eq_true, Bool.true_eq_false, eq_self, false_and, true_and, and_false, and_true, not_false_eq_true, not_true_eq_false, hn, e1]
      have L := loopE (fun k e (m : Nat) => f_X12_doIn_45 (fun x1_7 x2_8 x3_9 x4_10 s11 => f_X12_doIn_5 n x1_7 x2_8 x3_9 (x4_10 + nI 1) s11) k (nI th) (nI h) (nI m) (nI s0) (nI e) w) (EL A S x h s0).length (fun e m => bitsE (EP A S x h s0 ((EL A S x h s0).take e)) 2 (fun j _ f s => (so A f (s % 32) (s / 32 % 8)).testBit th = decide (j = 1)) m) (fun m => f_X12_doIn_5 n (nI th) (nI h) (nI m) (nI s0 + nI 1) w) ?_ ?_ FU 0 m (by have := EL_len (S := S) (x := x) (h := h) (s := s0) a; rw [FU_eq]; omega) (Nat.zero_le _) ⟨hm1, hm2⟩
      · obtain ⟨m', e2, hm1', hm2'⟩ := L
        rw [e2]
        simp (disch := omega) only [bind_s, bd2_s, rdT_ok, ixR_ok, wrT_none, pfI_s, pfJ_s, pfZ_0, pfZ_1, zr_b2, nl_n, nl_s, nI_add, nI_mul, nI_sub, nI_shlm, nI_shrd, nI_or8, nI_or8r, nI_or5r, nI_and255, nI_and31, nI_and7, nI_and1, nI_andK, nI_clr, Nat.one_mul, nI_eqz, nI_eqq, nI_ltq, nI_ltz, nI_zlt, nI_nm1, nI_m2, m1_z, m1_lt0, m1_m1, b2_z, nI1_z, nI0_z, tb_0, tb_1, ite_nI, I_at, I_ne, J_at, J_ne, J_setI, I_setJ, ↓reduceIte, ltN_T, ltN_F, eqN_T, eqN_F, pow8, pow5, b2_f0, b2_t0, reduceCtorEq, Bool.false_eq_true, Bool.true_eq_false, eq_self, false_and, true_and, and_false, and_true, not_false_eq_true, not_true_eq_false]
        exact ⟨(m', w), rfl, hQ _ ⟨hF.tr F1, hm1', fun j hj => (hm2' j hj).trans (EP_end a _)⟩⟩
      · rintro k e m he ⟨hm1, hm2⟩ Q hQ
        have hl28 := EL_len (S := S) (x := x) (h := h) (s := s0) a
        have hil := t_isLeast a v1 hL hh hs hlt d1 he
        have e40 := d1.1
        have e40' : w.1 247 40 = nI (EL A S x h s0).length := e40
        obtain ⟨q1, -, -, -⟩ := d1.2 e he
        have hst := fun p => EP_step (p := p) a he
        have hE := EL_at (S := S) (x := x) (h := h) (s := s0) a he
        have q1' : w.1 278 e = nI (((EL A S x h s0).getD e (0, 0)).1 * 256 + s0 % 256) := q1
        generalize (EL A S x h s0).getD e (0, 0) = q at *
        have gE := (EG_iff.mp hE).1
        have hf4 := F4 a
        have hqf : q.1 < 4 := Nat.lt_of_lt_of_le gE.2.1.1 hf4
        have hmm : (q.1 * 256 + s0 % 256) % 32 = s0 % 32 ∧ (q.1 * 256 + s0 % 256) / 32 % 8 = s0 / 32 % 8 ∧ (q.1 * 256 + s0 % 256) / 256 = q.1 := by omega
        have hvm : VM A (q.1 * 256 + s0 % 256) := by
          unfold VM
          rw [hmm.1, hmm.2.1, hmm.2.2]
          exact ⟨vs.1, gE.2.1.1, vs.2⟩
        have hsm : q.1 * 256 + s0 % 256 < 1024 := by omega
        have tb := ((v1.1.2.2.1 _ hsm).2 hvm).1
        have hso : som A (q.1 * 256 + s0 % 256) = so A q.1 (s0 % 32) (s0 / 32 % 8) := by unfold som; rw [hmm.1, hmm.2.1, hmm.2.2]
        rw [hso] at tb
        have hsl : so A q.1 (s0 % 32) (s0 / 32 % 8) < 1024 := so_lt a
        show ∃ y, f_X12_doIn_45 _ (k + 1) (nI th) (nI h) (nI m) (nI s0) (nI e) w = f_X12_doIn_45 _ k (nI th) (nI h) (nI y) (nI s0) (nI (e + 1)) w ∧ _
        rw [f_X12_doIn_45]
        cases hob : obX A S x h s0 q.1 q.2 with
        | false =>
          rw [hob] at hil
          simp (disch := omega) only [bind_s, bd2_s, rdT_ok, ixR_ok, wrT_none, pfI_s, pfJ_s, pfZ_0, pfZ_1, zr_b2, nl_n, nl_s, nI_add, nI_mul, nI_sub, nI_shlm, nI_shrd, nI_or8, nI_or8r, nI_or5r, nI_and255, nI_and31, nI_and7, nI_and1, nI_andK, nI_clr, Nat.one_mul, nI_eqz, nI_eqq, nI_ltq, nI_ltz, nI_zlt, nI_nm1, nI_m2, m1_z, m1_lt0, m1_m1, b2_z, nI1_z, nI0_z, tb_0, tb_1, ite_nI, I_at, I_ne, J_at, J_ne, J_setI, I_setJ, ↓reduceIte, ltN_T, ltN_F, eqN_T, eqN_F, pow8, pow5, b2_f0, b2_t0, reduceCtorEq, Bool.false_eq_true, Bool.true_eq_false, eq_self, false_and, true_and, and_false, and_true, not_false_eq_true, not_true_eq_false, e40', hil]
          exact ⟨m, rfl, hQ _ ⟨hm1, fun j hj => (hm2 j hj).trans ((hst _).trans ⟨fun r => r.resolve_right (fun r => by rw [hob] at r; cases r.1), Or.inl⟩).symm⟩⟩
        | true =>
          rw [hob] at hil
          simp (disch := omega) only [bind_s, bd2_s, rdT_ok, ixR_ok, wrT_none, pfI_s, pfJ_s, pfZ_0, pfZ_1, zr_b2, nl_n, nl_s, nI_add, nI_mul, nI_sub, nI_shlm, nI_shrd, nI_or8, nI_or8r, nI_or5r, nI_and255, nI_and31, nI_and7, nI_and1, nI_andK, nI_clr, Nat.one_mul, nI_eqz, nI_eqq, nI_ltq, nI_ltz, nI_zlt, nI_nm1, nI_m2, m1_z, m1_lt0, m1_m1, b2_z, nI1_z, nI0_z, tb_0, tb_1, ite_nI, I_at, I_ne, J_at, J_ne, J_setI, I_setJ, ↓reduceIte, ltN_T, ltN_F, eqN_T, eqN_F, pow8, pow5, b2_f0, b2_t0, reduceCtorEq, Bool.false_eq_true, Bool.true_eq_false, eq_self, false_and, true_and, and_false, and_true, not_false_eq_true, not_true_eq_false, e40', hil, rdI_ok (show e < 28 by omega) (show 28 < 2 ^ 31 by decide), q1', rdI_ok hsm (show 1024 < 2 ^ 31 by decide), tb]
          cases hbit : (so A q.1 (s0 % 32) (s0 / 32 % 8)).testBit th with
          | true =>
            have o2 : nI m ||| nI 2 = nI (m ||| 2 ^ 1) := nI_or _ _
            simp (disch := omega) only [bind_s, bd2_s, rdT_ok, ixR_ok, wrT_none, pfI_s, pfJ_s, pfZ_0, pfZ_1, zr_b2, nl_n, nl_s, nI_add, nI_mul, nI_sub, nI_shlm, nI_shrd, nI_or8, nI_or8r, nI_or5r, nI_and255, nI_and31, nI_and7, nI_and1, nI_andK, nI_clr, Nat.one_mul, nI_eqz, nI_eqq, nI_ltq, nI_ltz, nI_zlt, nI_nm1, nI_m2, m1_z, m1_lt0, m1_m1, b2_z, nI1_z, nI0_z, tb_0, tb_1, ite_nI, I_at, I_ne, J_at, J_ne, J_setI, I_setJ, ↓reduceIte, ltN_T, ltN_F, eqN_T, eqN_F, pow8, pow5, b2_f0, b2_t0, reduceCtorEq, Bool.false_eq_true, Bool.true_eq_false, eq_self, false_and, true_and, and_false, and_true, not_false_eq_true, not_true_eq_false, o2]
            refine ⟨_, rfl, hQ _ ⟨Nat.or_lt_two_pow hm1 (by decide), fun j hj => ?_⟩⟩
            rw [tb_set, Bool.or_eq_true, hm2 j hj, hst, decide_eq_true_iff]
            refine or_congr Iff.rfl ⟨fun r => ⟨hob, by show (so A q.1 (s0 % 32) (s0 / 32 % 8)).testBit th = decide (j = 1); rw [hbit, ← r]; rfl⟩, fun r => ?_⟩
            have : (so A q.1 (s0 % 32) (s0 / 32 % 8)).testBit th = decide (j = 1) := r.2
            rw [hbit] at this
            exact (of_decide_eq_true this.symm).symm
          | false =>
            have o1 : nI m ||| nI 1 = nI (m ||| 2 ^ 0) := nI_or _ _
            simp (disch := omega) only [bind_s, bd2_s, rdT_ok, ixR_ok, wrT_none, pfI_s, pfJ_s, pfZ_0, pfZ_1, zr_b2, nl_n, nl_s, nI_add, nI_mul, nI_sub, nI_shlm, nI_shrd, nI_or8, nI_or8r, nI_or5r, nI_and255, nI_and31, nI_and7, nI_and1, nI_andK, nI_clr, Nat.one_mul, nI_eqz, nI_eqq, nI_ltq, nI_ltz, nI_zlt, nI_nm1, nI_m2, m1_z, m1_lt0, m1_m1, b2_z, nI1_z, nI0_z, tb_0, tb_1, ite_nI, I_at, I_ne, J_at, J_ne, J_setI, I_setJ, ↓reduceIte, ltN_T, ltN_F, eqN_T, eqN_F, pow8, pow5, b2_f0, b2_t0, reduceCtorEq, Bool.false_eq_true, Bool.true_eq_false, eq_self, false_and, true_and, and_false, and_true, not_false_eq_true, not_true_eq_false, o1]
            refine ⟨_, rfl, hQ _ ⟨Nat.or_lt_two_pow hm1 (by decide), fun j hj => ?_⟩⟩
            rw [tb_set, Bool.or_eq_true, hm2 j hj, hst, decide_eq_true_iff]
            refine or_congr Iff.rfl ⟨fun r => ⟨hob, by show (so A q.1 (s0 % 32) (s0 / 32 % 8)).testBit th = decide (j = 1); rw [hbit, ← r]; rfl⟩, fun r => ?_⟩
            have : (so A q.1 (s0 % 32) (s0 / 32 % 8)).testBit th = decide (j = 1) := r.2
            rw [hbit] at this
            have := of_decide_eq_false this.symm
            omega
      · intro k m _
        have e40' : w.1 247 40 = nI (EL A S x h s0).length := d1.1
        have hl28 := EL_len (S := S) (x := x) (h := h) (s := s0) a
        show f_X12_doIn_45 _ (k + 1) _ _ _ _ (nI (EL A S x h s0).length) w = _
        rw [f_X12_doIn_45]
        simp (disch := omega) only [bind_s, bd2_s, rdT_ok, ixR_ok, wrT_none, pfI_s, pfJ_s, pfZ_0, pfZ_1, zr_b2, nl_n, nl_s, nI_add, nI_mul, nI_sub, nI_shlm, nI_shrd, nI_or8, nI_or8r, nI_or5r, nI_and255, nI_and31, nI_and7, nI_and1, nI_andK, nI_clr, Nat.one_mul, nI_eqz, nI_eqq, nI_ltq, nI_ltz, nI_zlt, nI_nm1, nI_m2, m1_z, m1_lt0, m1_m1, b2_z, nI1_z, nI0_z, tb_0, tb_1, ite_nI, I_at, I_ne, J_at, J_ne, J_setI, I_setJ, ↓reduceIte, ltN_T, ltN_F, eqN_T, eqN_F, pow8, pow5, b2_f0, b2_t0, reduceCtorEq, Bool.false_eq_true, Bool.true_eq_false, eq_self, false_and, true_and, and_false, and_true, not_false_eq_true, not_true_eq_false, e40']
  · rintro n ⟨m, u⟩ -
    show f_X12_doIn_5 (n + 1) _ _ _ (nI 1024) u = _
    rw [f_X12_doIn_5]
    simp (disch := omega) only [bind_s, bd2_s, rdT_ok, ixR_ok, wrT_none, pfI_s, pfJ_s, pfZ_0, pfZ_1, zr_b2, nl_n, nl_s, nI_add, nI_mul, nI_sub, nI_shlm, nI_shrd, nI_or8, nI_or8r, nI_or5r, nI_and255, nI_and31, nI_and7, nI_and1, nI_andK, nI_clr, Nat.one_mul, nI_eqz, nI_eqq, nI_ltq, nI_ltz, nI_zlt, nI_nm1, nI_m2, m1_z, m1_lt0, m1_m1, b2_z, nI1_z, nI0_z, tb_0, tb_1, ite_nI, I_at, I_ne, J_at, J_ne, J_setI, I_setJ, ↓reduceIte, ltN_T, ltN_F, eqN_T, eqN_F, pow8, pow5, b2_f0, b2_t0, reduceCtorEq, Bool.false_eq_true, Bool.true_eq_false, eq_self, false_and, true_and, and_false, and_true, not_false_eq_true, not_true_eq_false]
  · rintro ⟨m, u⟩ ⟨e, h1, h2⟩
    exact ⟨u, m, e, h1, h2⟩
end
