section
/-! ===== the class's calls: value; what fits none ===== -/
variable {A : AW} {σ : ST} {S h : Nat} {x : Nat × Nat}
theorem run_lw (a : AOK A) {s : Nat} (v : vst A s) : lwc A s / 2 ^ cK A 1 = s / 32 % 8 := by
  obtain ⟨h1, h2⟩ := lwc_lt a v
  obtain ⟨-, g2, -⟩ := stc_at (fl := s / 256) a h1
  rw [h2] at g2
  exact g2.symm
theorem c_val (a : AOK A) {j : Nat} (hh : h < 12) : (eO A S x h fun _ l _ => l % 256 / 2 ^ cK A 1 = j) ↔ ∃ s, s < 1024 ∧ KPm A S x h s ∧ s / 32 % 8 = j := by
  have hI : 2 ^ cK A 1 ≤ 1024 := by have := K32 a; omega
  have l := LW_256 a
  constructor
  · rintro ⟨s, f, act, t, c, o, q⟩
    have v := (EG_iff.mp o.1).1.1.1
    have l2 := (lwc_lt a v).1
    have k := (Op_kp (EG_ok a) hh o).1
    have q : (f * 256 + lwc A s) % 256 / 2 ^ cK A 1 = j := q
    rw [(lk_at (f := f) (show lwc A s < 256 by omega)).2, run_lw a v] at q
    exact ⟨s, KP_lt (EG_ok a) hI k, k, q⟩
  · rintro ⟨s, hs, k, q⟩
    obtain ⟨f, act, t, c, o⟩ := KP_out (EG_ok a) hh k
    have v := (EG_iff.mp o.1).1.1.1
    have l2 := (lwc_lt a v).1
    refine ⟨s, f, act, t, c, o, ?_⟩
    show (f * 256 + lwc A s) % 256 / 2 ^ cK A 1 = j
    rw [(lk_at (f := f) (show lwc A s < 256 by omega)).2, run_lw a v]
    exact q
theorem JD_VaS {m lo hi mx mi : Nat} (hm : m < 256) (hb : ∀ j, j < 8 → (m.testBit j = true ↔ ∃ s, s < 1024 ∧ KPm A S x h s ∧ s / 32 % 8 = j)) (o : VaS A S x h 1024 lo hi) (d : JD m 0 mx mi) : mx = hi ∧ mi = lo := by
  obtain ⟨l1, l2, h3, h1, h2⟩ := o
  have lt : ∀ j, m.testBit j = true → j < 8 := fun j q => Classical.byContradiction fun w => by
    rw [tb_lt (n := 8) hm (by omega)] at q
    cases q
  have b1 := (hb lo l1).mpr h1
  have b2 := (hb hi l2).mpr h2
  rcases d with ⟨-, -, q3⟩ | ⟨-, -, q2, q3, q4⟩
  · rw [q3 lo (Nat.zero_le _)] at b1
    cases b1
  · obtain ⟨s1, w1, w2, w3⟩ := (hb mx (lt _ q2)).mp q2
    obtain ⟨s2, z1, z2, z3⟩ := (hb mi (lt _ q3)).mp q3
    have e1 := h3 s1 w1 w2
    have e2 := h3 s2 z1 z2
    have e3 := q4 _ (Nat.zero_le _) b1
    have e4 := q4 _ (Nat.zero_le _) b2
    omega
def isR (A : AW) (y : Int32) : Bool := inR y (nT A) && decide (kd A y.toNatClampNeg = 3)
theorem c_isRunning (a : AOK A) (c : CR 2 A σ) (y : Int32) : f_X11_isRunning y σ = some (b2 (isR A y), σ) := by
  have hT := nT10 a
  unfold f_X11_isRunning isR
  rw [c_isThing c, bd2_s]
  cases e : inR y (nT A) with
  | false => rw [if_pos b2f0]; rfl
  | true =>
    obtain ⟨t, ht, rfl⟩ := inR_of e (by omega)
    have hk := a.2.1 t ht
    rw [if_neg b2t0, rdI_ok (show t < 10 by omega) (by decide), (c.2.1 t ht).1, nI_cl (by omega)]
    simp only [bind_s]
    by_cases w : kd A t = 3
    · rw [if_pos (congrArg nI w), decide_eq_true w]; rfl
    · rw [if_neg (fun q => w ((nI_eq (by omega) (by omega)).mp q)), decide_eq_false w]; rfl
theorem isR_t {t : Nat} (ht : t < nT A) (hT : nT A ≤ 10) (hk : kd A t = 3) : isR A (nI t) = true := by
  unfold isR
  rw [guardT ht (by omega), nI_cl (by omega), decide_eq_true hk]
  rfl
theorem c_value (a : AOK A) (c : CR 2 A σ) (i : CI A σ) {t h lo hi : Nat} (ht : t < nT A) (hk : kd A t = 3) (hh : h < 12) (o : LE A (AL A) X0 < 100000000 → VaS A (AL A) X0 h 1024 lo hi) : ∃ u, f_X11_value (nI t) (nI h) σ = some (if LE A (AL A) X0 < 100000000 then nI (10 * hi + lo) else -1, u) ∧ Fc σ u ∧ CI A u := by
  have hT := nT10 a
  obtain ⟨u, e, F, h11, h12, tb, n⟩ := t_current a c i
  refine ⟨u, ?_, F, CI_of h11 tb n⟩
  unfold f_X11_value
  rw [c_isRunning a c, isR_t ht hT hk, bd2_s, if_neg b2t0, c_isHour, guardT hh (by decide), bd2_s, if_neg b2t0, e]
  simp only [bind_s]
  by_cases w : LE A (AL A) X0 < 100000000
  · obtain ⟨-, -, -, e12, nt, -⟩ := n.1 w
    obtain ⟨-, -, -, ⟨m7, l7, o1, o2⟩⟩ := nt h (by omega) hh
    rw [if_pos w, e12, if_neg (LE_ne w), rdI_ok (show h < 12 from hh) (by decide), o1]
    simp only [bind_s]
    obtain ⟨mx, mi, e2, d⟩ := t_joined (σ := u) (show m7 < 2 ^ 13 by omega) 10
    obtain ⟨rfl, rfl⟩ := JD_VaS l7 (fun j hj => (o2 j hj).trans (c_val a hh)) (o w) d
    rw [e2, bd2_s]
  · rw [if_neg w, (n.2 w).1, if_pos rfl]
theorem c_value_no (a : AOK A) (c : CR 2 A σ) {x y : Int32} (h : inR x (nT A) = false ∨ (∃ t, t < nT A ∧ x = nI t ∧ kd A t ≠ 3) ∨ inR y 12 = false) : f_X11_value x y σ = some (-1, σ) := by
  have hT := nT10 a
  unfold f_X11_value
  rw [c_isRunning a c, bd2_s]
  cases e : isR A x with
  | false => rw [if_pos b2f0]
  | true =>
    rw [if_neg b2t0, c_isHour, bd2_s]
    rcases h with h | ⟨t, h1, rfl, h3⟩ | h
    · unfold isR at e; rw [h] at e; cases e
    · unfold isR at e
      rw [nI_cl (by omega), decide_eq_false h3, Bool.and_false] at e
      cases e
    · rw [h, if_pos b2f0]
theorem c_must_no (c : CR 2 A σ) {x y z : Int32} (h : (inR x (nH A) && inHH y z) = false) : f_X11_must x y z σ = some (-1, σ) := by
  unfold f_X11_must
  rw [c_isHappening c, bd2_s]
  cases e : inR x (nH A) with
  | false => rw [if_pos b2f0]
  | true =>
    rw [e] at h
    have h' : inHH y z = false := h
    rw [if_neg b2t0, c_areHours, h', bd2_s, if_pos b2f0]
theorem c_ever_no (c : CR 2 A σ) {x y z : Int32} (h : (inR x (nT A) && inHH y z) = false) : f_X11_ever x y z σ = some (-1, σ) := by
  unfold f_X11_ever
  rw [c_isThing c, bd2_s]
  cases e : inR x (nT A) with
  | false => rw [if_pos b2f0]
  | true =>
    rw [e] at h
    have h' : inHH y z = false := h
    rw [if_neg b2t0, c_areHours, h', bd2_s, if_pos b2f0]
theorem c_howLong_no (c : CR 2 A σ) {x y z : Int32} (h : (inR x (nT A) && inHH y z) = false) : f_X11_howLong x y z σ = some (-1, σ) := by
  unfold f_X11_howLong
  rw [c_isThing c, bd2_s]
  cases e : inR x (nT A) with
  | false => rw [if_pos b2f0]
  | true =>
    rw [e] at h
    have h' : inHH y z = false := h
    rw [if_neg b2t0, c_areHours, h', bd2_s, if_pos b2f0]
end
