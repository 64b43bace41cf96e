section
/-! ===== the class's calls: least, courses; its guards ===== -/
variable {A : AW} {σ : ST}
theorem c_isThing (c : CR 2 A σ) (x : Int32) : f_X11_isThing x σ = some (b2 (inR x (nT A)), σ) := by
  unfold f_X11_isThing
  rw [c.1.1, in_g, b2_g]
theorem c_isHappening (c : CR 2 A σ) (x : Int32) : f_X11_isHappening x σ = some (b2 (inR x (nH A)), σ) := by
  unfold f_X11_isHappening
  rw [c.1.2.1, in_g, b2_g]
theorem c_isMouth (x : Int32) : f_X11_isMouth x σ = some (b2 (inR x 6), σ) := by
  unfold f_X11_isMouth
  rw [in_g, b2_g]
theorem c_isHour (x : Int32) : f_X11_isHour x σ = some (b2 (inR x 12), σ) := by
  unfold f_X11_isHour
  rw [in_g, b2_g]
theorem c_areHours (x y : Int32) : f_X11_areHours x y σ = some (b2 (inHH x y), σ) := by
  unfold f_X11_areHours inHH
  rw [c_isHour, bd2_s]
  cases inR x 12 with
  | false => rfl
  | true =>
    rw [if_neg b2t0, c_isHour, bd2_s]
    cases inR y 12 with
    | false => rfl
    | true =>
      rw [if_neg b2t0]
      by_cases c : y < x
      · rw [if_pos c, decide_eq_true c]; rfl
      · rw [if_neg c, decide_eq_false c]; rfl
theorem NW_12 {u : ST} (n : NW A u) : u.1 197 12 = if LE A (AL A) X0 < 100000000 then nI (LE A (AL A) X0) else -1 := by
  by_cases c : LE A (AL A) X0 < 100000000
  · rw [if_pos c]; exact (n.1 c).2.2.2.1
  · rw [if_neg c]; exact (n.2 c).1
theorem c_least (a : AOK A) (c : CR 2 A σ) (i : CI A σ) : ∃ u, f_X11_least σ = some (if LE A (AL A) X0 < 100000000 then nI (LE A (AL A) X0) else -1, u) ∧ Fc σ u ∧ CI A u := by
  obtain ⟨u, e, F, h11, h12, t, n⟩ := t_current a c i
  refine ⟨u, ?_, F, CI_of h11 t n⟩
  unfold f_X11_least
  rw [e]
  simp only [bind_s]
  rw [NW_12 n]
theorem c_courses (a : AOK A) (c : CR 2 A σ) (i : CI A σ) : ∃ u, f_X11_courses σ = some (if LE A (AL A) X0 < 100000000 then lN (cap (sm 1024 (NB A (AL A) X0 12))) else 0, u) ∧ Fc σ u ∧ CI A u := by
  obtain ⟨u, e, F, h11, h12, t, n⟩ := t_current a c i
  refine ⟨u, ?_, F, CI_of h11 t n⟩
  unfold f_X11_courses
  rw [e]
  simp only [bind_s]
  by_cases w : LE A (AL A) X0 < 100000000
  · rw [if_pos w, (n.1 w).2.2.2.2.2 rfl]
  · rw [if_neg w, (n.2 w).2]
end
