section
/-! ===== the class's calls: could; what fits none ===== -/
variable {A : AW} {σ : ST}
theorem bitsE_un {E : (Nat → Nat → Nat → Prop) → Prop} {n : Nat} {P : Nat → Nat → Nat → Nat → Prop} {m w : Nat} (h : bitsE E n P m) (g : bitsE E n P w) : m = w := by
  apply Nat.eq_of_testBit_eq
  intro j
  by_cases c : j < n
  · have e := (h.2 j c).trans (g.2 j c).symm
    cases q : m.testBit j with
    | true => exact (e.mp q).symm
    | false =>
      cases r : w.testBit j with
      | true => have := e.mpr r; rw [q] at this; cases this
      | false => rfl
  · rw [Nat.testBit_lt_two_pow (Nat.lt_of_lt_of_le h.1 (Nat.pow_le_pow_right (by decide) (by omega))), Nat.testBit_lt_two_pow (Nat.lt_of_lt_of_le g.1 (Nat.pow_le_pow_right (by decide) (by omega)))]
theorem c_is_no (c : CR 2 A σ) {x y : Int32} (h : (inR x (nT A) && inR y 12) = false) : f_X11_is x y σ = some (-1, σ) := by
  unfold f_X11_is
  rw [c_isThing c, bd2_s]
  cases q : inR x (nT A) with
  | false => rw [if_pos b2f0]
  | true =>
    rw [q] at h
    have h' : inR y 12 = false := h
    rw [if_neg b2t0, c_isHour, h', bd2_s, if_pos b2f0]
theorem c_could_ok (a : AOK A) (c : CR 2 A σ) (i : CI A σ) {h : Nat} (hh : h < 12) : ∃ u mm, f_X11_could (nI h) σ = some (if LE A (AL A) X0 < 100000000 then nI mm else -1, u) ∧ Fc σ u ∧ CI A u ∧ (LE A (AL A) X0 < 100000000 → bitsE (EP A (AL A) X0 h 1024 []) 7 (fun j act _ _ => act = j) mm) := by
  obtain ⟨u, e, F, h11, h12, tb, n⟩ := t_current a c i
  unfold f_X11_could
  rw [c_isHour, guardT hh (by decide), bd2_s, if_neg b2t0, e]
  simp only [bind_s]
  by_cases w : LE A (AL A) X0 < 100000000
  · obtain ⟨-, -, -, e12, nt, -⟩ := n.1 w
    obtain ⟨-, -, ⟨m6, l6, o1, o2⟩, -⟩ := nt h (by omega) hh
    refine ⟨u, m6, ?_, F, CI_of h11 tb n, fun _ => ⟨l6, fun j hj => (o2 j hj).trans (c_could a j)⟩⟩
    rw [if_pos w, e12, if_neg (LE_ne w), rdI_ok (show h < 12 from hh) (by decide), o1]
    simp only [bind_s]
  · refine ⟨u, 0, ?_, F, CI_of h11 tb n, fun q => absurd q w⟩
    rw [if_neg w, (n.2 w).1, if_pos rfl]
theorem c_could_no {x : Int32} (h : inR x 12 = false) : f_X11_could x σ = some (-1, σ) := by
  unfold f_X11_could
  rw [c_isHour, h, bd2_s, if_pos b2f0]
end
