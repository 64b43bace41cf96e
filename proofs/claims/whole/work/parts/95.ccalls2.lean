section
/-! ===== the class's calls: is ===== -/
variable {A : AW} {σ : ST} {S h : Nat} {x : Nat × Nat}
theorem EP_ex (a : AOK A) (hL : LE A S x < 100000000) (hh : h < 12) : EP A S x h 1024 [] (fun _ _ _ => True) := by
  obtain ⟨s, k⟩ := KP_all (EG_ok a) (show Le (EG A S x) (2 ^ cK A 1) (glS A S) < NV from hL) (12 - h) (by omega)
  rw [show 12 - (12 - h) = h by omega] at k
  obtain ⟨f, act, t, c, o⟩ := KP_out (EG_ok a) hh k
  exact (EP_all a _).mpr ⟨s, f, act, t, c, o, trivial⟩
theorem EP_mono {P R : Nat → Nat → Nat → Prop} (e : ∀ act f s, P act f s → R act f s) (p : EP A S x h 1024 [] P) : EP A S x h 1024 [] R := by
  obtain ⟨s, f, act, t, c, o, q, r⟩ := p
  exact ⟨s, f, act, t, c, o, e _ _ _ q, r⟩
theorem LE_ne (hL : LE A S x < 100000000) : ¬ nI (LE A S x) = -1 := fun q => by
  rw [show (-1 : Int32) = nI 4294967295 from rfl] at q
  have e : (nI (LE A S x)).toInt = (nI 4294967295).toInt := by rw [q]
  have h0 : ¬ nI (LE A S x) < 0 := fun w => absurd ((nI_ltI (b := 0) (by omega) (by decide)).mp w) (Nat.not_lt_zero _)
  rw [q] at h0
  exact h0 (by decide)
theorem t_soOf (a : AOK A) {d first : Nat} (kp : KPT d A S x first σ) (hf : first ≤ h) (hL : LE A S x < 100000000) (hh : h < 12) {t : Nat} (ht : t < 10) : f_X2_soOf d (nI t) (nI h) σ = some (nI (isv A S x h t), σ) := by
  obtain ⟨-, -, -, e12, nt, -⟩ := kp
  obtain ⟨⟨m4, n1, n2, n3⟩, ⟨m5, l5, o1, o2⟩, -⟩ := nt h (by omega) hh
  have ex := EP_ex (h := h) a hL hh
  have l4 : m4 < 2 ^ 17 := n3 ((eO_EP a (R := fun _ _ _ => True) (fun _ _ _ _ => Iff.rfl)).mpr ex)
  have b4 := n2 t (by omega)
  have b5 := o2 t (by omega)
  rw [c_bits a ht] at b4 b5
  unfold f_X2_soOf f_X2_surely isv
  rw [e12, if_neg (LE_ne hL), rdI_ok (show h < 12 from hh) (by decide), n1]
  simp only [bind_s]
  cases c4 : m4.testBit t with
  | true =>
    have p0 := b4.mp c4
    rw [if_neg (fun q => by have := (bit_q m4 (show t < 31 by omega) (by omega)).mp q; rw [c4] at this; cases this), bd2_s, if_neg (show ¬ nI 1 = 0 by decide)]
    have p1 : EP A S x h 1024 [] (fun _ f s => (so A f (s % 32) (s / 32 % 8)).testBit t = true) := by
      obtain ⟨s, f, act, t', c, o, -, r⟩ := ex
      cases w : (so A f (s % 32) (s / 32 % 8)).testBit t with
      | true => exact ⟨s, f, act, t', c, o, w, r⟩
      | false => exact absurd ⟨s, f, act, t', c, o, w, r⟩ p0
    rw [cif_t p1, cif_f p0]
  | false =>
    have p0 : EP A S x h 1024 [] (fun _ f s => (so A f (s % 32) (s / 32 % 8)).testBit t = false) := Classical.byContradiction fun q => by
      have := b4.mpr q
      rw [c4] at this
      cases this
    rw [if_pos ((bit_q m4 (by omega) (by omega)).mpr c4), bd2_s, if_pos (show nI 0 = 0 by decide), rdI_ok (show h < 12 from hh) (by decide), o1]
    simp only [bind_s]
    cases c5 : m5.testBit t with
    | true =>
      rw [if_neg (fun q => by have := (bit_q m5 (show t < 31 by omega) (by omega)).mp q; rw [c5] at this; cases this), cif_t (b5.mp c5), cif_t p0]
    | false =>
      rw [if_pos ((bit_q m5 (by omega) (by omega)).mpr c5), cif_f (fun q => by have := b5.mpr q; rw [c5] at this; cases this)]
theorem c_is (a : AOK A) (c : CR 2 A σ) (i : CI A σ) {t h : Nat} (ht : t < nT A) (hh : h < 12) : ∃ u, f_X11_is (nI t) (nI h) σ = some (isA A (AL A) X0 t h, u) ∧ Fc σ u ∧ CI A u := by
  have hT := nT10 a
  obtain ⟨u, e, F, h11, h12, tb, n⟩ := t_current a c i
  refine ⟨u, ?_, F, CI_of h11 tb n⟩
  unfold f_X11_is isA
  rw [c_isThing c, guardT ht (by omega), bd2_s, if_neg b2t0, c_isHour, guardT hh (by decide), bd2_s, if_neg b2t0, e]
  simp only [bind_s]
  by_cases w : LE A (AL A) X0 < 100000000
  · rw [if_pos w, t_soOf a (n.1 w) (Nat.zero_le _) w hh (show t < 10 by omega), bd2_s]
  · rw [if_neg w]
    unfold f_X2_soOf
    rw [(n.2 w).1, if_pos rfl, bd2_s]
end
