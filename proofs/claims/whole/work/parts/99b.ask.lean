section
/-! ===== the questions, both sides ===== -/
variable {X : XS} {σ : ST}
theorem q_least (h : XR X σ) : OUT f_X11_least f_X12_least σ := by
  obtain ⟨s, e, F, i2⟩ := c_least h.1.1 h.2.1.1 h.2.1.2.1
  exact OUT_q h e (Fxd_c F) i2 (fun m1 => m_least h.1.1 m1)
theorem q_courses (h : XR X σ) : OUT f_X11_courses f_X12_courses σ := by
  obtain ⟨s, e, F, i2⟩ := c_courses h.1.1 h.2.1.1 h.2.1.2.1
  exact OUT_q h e (Fxd_c F) i2 (fun m1 => m_courses h.1.1 m1)
theorem q_quarrel (h : XR X σ) : OUT f_X11_quarrel f_X12_quarrel σ := by
  obtain ⟨s, e, F, i2⟩ := c_quarrel h.1.1 h.2.1.1 h.2.1.2.1
  exact OUT_q h e F i2 (fun m1 => m_quarrel h.1.1 m1)
theorem q_out (h : XR X σ) : OUT f_X11_out f_X12_out σ := by
  obtain ⟨s, e, F, i2⟩ := c_out h.1.1 h.2.1.1 h.2.1.2.1
  exact OUT_q h e F i2 (fun m1 => m_out h.1.1 m1)
theorem q_is (h : XR X σ) (x y : Int32) : OUT (f_X11_is x y) (f_X12_is x y) σ := by
  have a := h.1.1
  have c := h.2.1.1
  have i := h.2.1.2.1
  have m := h.2.2.1
  have hT := a.1.1
  have hH := a.1.2.1
  cases g : (inR x (nT X.1) && inR y 12) with
  | false => exact OUT_same h (c_is_no c g) (m_is_no m g)
  | true =>
    rw [Bool.and_eq_true] at g
    obtain ⟨t, ht, rfl⟩ := inR_of g.1 (by omega)
    obtain ⟨k, hk, rfl⟩ := inR_of g.2 (by omega)
    obtain ⟨s, e, F, i2⟩ := c_is a c i ht hk
    exact OUT_q h e (Fxd_c F) i2 (fun m1 => m_is a m1 ht hk)
theorem q_why (h : XR X σ) (x y : Int32) : OUT (f_X11_why x y) (f_X12_why x y) σ := by
  have a := h.1.1
  have c := h.2.1.1
  have i := h.2.1.2.1
  have m := h.2.2.1
  have hT := a.1.1
  have hH := a.1.2.1
  cases g : (inR x (nT X.1) && inR y 12) with
  | false => exact OUT_same h (c_why_no c g) (m_why_no m g)
  | true =>
    rw [Bool.and_eq_true] at g
    obtain ⟨t, ht, rfl⟩ := inR_of g.1 (by omega)
    obtain ⟨k, hk, rfl⟩ := inR_of g.2 (by omega)
    obtain ⟨s, e, F, i2⟩ := c_why a c i ht hk
    exact OUT_q h e F i2 (fun m1 => m_why a m1 ht hk)
theorem q_since (h : XR X σ) (x y : Int32) : OUT (f_X11_since x y) (f_X12_since x y) σ := by
  have a := h.1.1
  have c := h.2.1.1
  have i := h.2.1.2.1
  have m := h.2.2.1
  have hT := a.1.1
  have hH := a.1.2.1
  cases g : (inR x (nT X.1) && inR y 12) with
  | false => exact OUT_same h (c_since_no c g) (m_since_no m g)
  | true =>
    rw [Bool.and_eq_true] at g
    obtain ⟨t, ht, rfl⟩ := inR_of g.1 (by omega)
    obtain ⟨k, hk, rfl⟩ := inR_of g.2 (by omega)
    obtain ⟨s, e, F, i2⟩ := c_since a c i ht hk
    exact OUT_q h e (Fxd_c F) i2 (fun m1 => m_since a m1 ht hk)
theorem q_must (h : XR X σ) (x y z : Int32) : OUT (f_X11_must x y z) (f_X12_must x y z) σ := by
  have a := h.1.1
  have c := h.2.1.1
  have i := h.2.1.2.1
  have m := h.2.2.1
  have hT := a.1.1
  have hH := a.1.2.1
  cases g : (inR x (nH X.1) && inHH y z) with
  | false => exact OUT_same h (c_must_no c g) (m_must_no m g)
  | true =>
    rw [Bool.and_eq_true] at g
    obtain ⟨g1, g2⟩ := g
    obtain ⟨t, ht, rfl⟩ := inR_of g1 (by omega)
    obtain ⟨p, q, hpq, hq, rfl, rfl⟩ := inHH_of g2
    obtain ⟨-, lo, hi, -, -, o⟩ := m_must a m ht hpq hq g2
    obtain ⟨s, e, F, i2⟩ := c_must a c i ht hpq hq g2 o
    refine OUT_q h e (Fxd_c F) i2 (fun m1 => ?_)
    obtain ⟨u, lo', hi', e2, F2, o2⟩ := m_must a m1 ht hpq hq g2
    refine ⟨u, ?_, F2⟩
    rw [e2]
    by_cases w : LE X.1 (AL X.1) X0 < 100000000
    · obtain ⟨rfl, rfl⟩ := OFs_un (o w) (o2 w)
      rfl
    · rw [if_neg w, if_neg w]
theorem q_ever (h : XR X σ) (x y z : Int32) : OUT (f_X11_ever x y z) (f_X12_ever x y z) σ := by
  have a := h.1.1
  have c := h.2.1.1
  have i := h.2.1.2.1
  have m := h.2.2.1
  have hT := a.1.1
  have hH := a.1.2.1
  cases g : (inR x (nT X.1) && inHH y z) with
  | false => exact OUT_same h (c_ever_no c g) (m_ever_no m g)
  | true =>
    rw [Bool.and_eq_true] at g
    obtain ⟨g1, g2⟩ := g
    obtain ⟨t, ht, rfl⟩ := inR_of g1 (by omega)
    obtain ⟨p, q, hpq, hq, rfl, rfl⟩ := inHH_of g2
    obtain ⟨-, lo, hi, -, -, o⟩ := m_ever a m ht hpq hq g2
    obtain ⟨s, e, F, i2⟩ := c_ever a c i ht hpq hq g2 o
    refine OUT_q h e (Fxd_c F) i2 (fun m1 => ?_)
    obtain ⟨u, lo', hi', e2, F2, o2⟩ := m_ever a m1 ht hpq hq g2
    refine ⟨u, ?_, F2⟩
    rw [e2]
    by_cases w : LE X.1 (AL X.1) X0 < 100000000
    · obtain ⟨rfl, rfl⟩ := OFs_un (o w) (o2 w)
      rfl
    · rw [if_neg w, if_neg w]
theorem q_howLong (h : XR X σ) (x y z : Int32) : OUT (f_X11_howLong x y z) (f_X12_howLong x y z) σ := by
  have a := h.1.1
  have c := h.2.1.1
  have i := h.2.1.2.1
  have m := h.2.2.1
  have hT := a.1.1
  have hH := a.1.2.1
  cases g : (inR x (nT X.1) && inHH y z) with
  | false => exact OUT_same h (c_howLong_no c g) (m_howLong_no m g)
  | true =>
    rw [Bool.and_eq_true] at g
    obtain ⟨g1, g2⟩ := g
    obtain ⟨t, ht, rfl⟩ := inR_of g1 (by omega)
    obtain ⟨p, q, hpq, hq, rfl, rfl⟩ := inHH_of g2
    obtain ⟨-, lo, hi, -, -, o⟩ := m_howLong a m ht hpq hq g2
    obtain ⟨s, e, F, i2⟩ := c_howLong a c i ht hpq hq g2 o
    refine OUT_q h e (Fxd_c F) i2 (fun m1 => ?_)
    obtain ⟨u, lo', hi', e2, F2, o2⟩ := m_howLong a m1 ht hpq hq g2
    refine ⟨u, ?_, F2⟩
    rw [e2]
    by_cases w : LE X.1 (AL X.1) X0 < 100000000
    · obtain ⟨rfl, rfl⟩ := OFs_un (o w) (o2 w)
      rfl
    · rw [if_neg w, if_neg w]
theorem q_could (h : XR X σ) (x : Int32) : OUT (f_X11_could x) (f_X12_could x) σ := by
  have a := h.1.1
  have c := h.2.1.1
  have i := h.2.1.2.1
  have m := h.2.2.1
  have hT := a.1.1
  have hH := a.1.2.1
  cases g : inR x 12 with
  | false => exact OUT_same h (c_could_no g) (m_could_no g)
  | true =>
    obtain ⟨k, hk, rfl⟩ := inR_of g (by omega)
    obtain ⟨s, mm, e, F, i2, b⟩ := c_could_ok a c i hk
    refine OUT_q h e (Fxd_c F) i2 (fun m1 => ?_)
    obtain ⟨u, mm', e2, F2, b2⟩ := m_could a m1 hk
    refine ⟨u, ?_, F2⟩
    rw [e2]
    by_cases w : LE X.1 (AL X.1) X0 < 100000000
    · rw [bitsE_un (b w) (b2 w)]
    · rw [if_neg w, if_neg w]
theorem VaS_un {A : AW} {S h N lo hi lo' hi' : Nat} {x : Nat × Nat} (p : VaS A S x h N lo hi) (q : VaS A S x h N lo' hi') : lo = lo' ∧ hi = hi' := by
  obtain ⟨-, -, p3, ⟨s1, p4, p5, p6⟩, ⟨s2, p7, p8, p9⟩⟩ := p
  obtain ⟨-, -, q3, ⟨t1, q4, q5, q6⟩, ⟨t2, q7, q8, q9⟩⟩ := q
  have e1 := q3 s1 p4 p5
  have e2 := q3 s2 p7 p8
  have e3 := p3 t1 q4 q5
  have e4 := p3 t2 q7 q8
  omega
theorem q_value (h : XR X σ) (x y : Int32) : OUT (f_X11_value x y) (f_X12_value x y) σ := by
  have a := h.1.1
  have c := h.2.1.1
  have i := h.2.1.2.1
  have m := h.2.2.1
  have hT := a.1.1
  have hH := a.1.2.1
  by_cases g : inR x (nT X.1) = false ∨ (∃ t, t < nT X.1 ∧ x = nI t ∧ kd X.1 t ≠ 3) ∨ inR y 12 = false
  · exact OUT_same h (c_value_no a c g) (m_value_no a m g)
  · have g1 : inR x (nT X.1) = true := by
      cases z : inR x (nT X.1) with
      | true => rfl
      | false => exact absurd (Or.inl z) g
    have g2 : inR y 12 = true := by
      cases z : inR y 12 with
      | true => rfl
      | false => exact absurd (Or.inr (Or.inr z)) g
    obtain ⟨t, ht, rfl⟩ := inR_of g1 (by omega)
    obtain ⟨k, hk, rfl⟩ := inR_of g2 (by omega)
    have g3 : kd X.1 t = 3 := Classical.byContradiction fun w => g (Or.inr (Or.inl ⟨t, ht, rfl, w⟩))
    obtain ⟨-, lo, hi, -, -, o⟩ := m_value a m ht g3 hk
    obtain ⟨s, e, F, i2⟩ := c_value a c i ht g3 hk o
    refine OUT_q h e (Fxd_c F) i2 (fun m1 => ?_)
    obtain ⟨u, lo', hi', e2, F2, o2⟩ := m_value a m1 ht g3 hk
    refine ⟨u, ?_, F2⟩
    rw [e2]
    by_cases w : LE X.1 (AL X.1) X0 < 100000000
    · obtain ⟨rfl, rfl⟩ := VaS_un (o w) (o2 w)
      rfl
    · rw [if_neg w, if_neg w]
theorem q_plan (h : XR X σ) (x y z : Int32) : OUT (f_X11_plan x y z) (f_X12_plan x y z) σ := by
  have a := h.1.1
  have c := h.2.1.1
  have i := h.2.1.2.1
  have m := h.2.2.1
  have hT := a.1.1
  have hH := a.1.2.1
  cases g : (inR x (nT X.1) && inHH y z) with
  | false =>
    refine OUT_same h (c_plan_no c g) (m_plan_no m ?_)
    cases g1 : inR x (nT X.1) with
    | false => rfl
    | true =>
      rw [g1] at g
      have g : inHH y z = false := g
      unfold inHH at g
      cases g2 : inR y 12 with
      | false => rfl
      | true =>
        cases g3 : inR z 12 with
        | false => rfl
        | true =>
          rw [g2, g3] at g
          have g : (!decide (z < y)) = false := g
          obtain ⟨p, hp, rfl⟩ := inR_of g2 (by omega)
          obtain ⟨q, hq, rfl⟩ := inR_of g3 (by omega)
          have gz : nI q < nI p := by
            cases w : decide (nI q < nI p) with
            | true => exact of_decide_eq_true w
            | false => rw [w] at g; cases g
          have := (nI_ltI (by omega) (by omega)).mp gz
          show decide (nI p < nI q) = false
          exact decide_eq_false (fun w => by have := (nI_ltI (by omega) (by omega)).mp w; omega)
  | true =>
    rw [Bool.and_eq_true] at g
    obtain ⟨g1, g2⟩ := g
    obtain ⟨t, ht, rfl⟩ := inR_of g1 (by omega)
    obtain ⟨p, q, hpq, hq, rfl, rfl⟩ := inHH_of g2
    obtain ⟨s, r, e, F, i2, pa, pn⟩ := c_plan a c i ht hpq hq g2
    refine OUT_q h e F i2 (fun m1 => ?_)
    by_cases w : p < q
    · obtain ⟨u, r', e2, F2, pa2, pn2⟩ := m_plan a m1 ht w hq
      refine ⟨u, ?_, F2⟩
      rw [e2]
      by_cases l : LE X.1 (AL X.1) X0 < 100000000
      · rw [plA_un (pa l) (pa2 l)]
      · rw [pn l, pn2 l]
    · have e : p = q := by omega
      subst e
      have er : r = -1 := by
        by_cases l : LE X.1 (AL X.1) X0 < 100000000
        · exact plA_eq (pa l)
        · exact pn l
      rw [er]
      refine ⟨s, m_plan_no m1 ?_, Fz.rf _⟩
      rw [decide_eq_false (show ¬ nI p < nI p from fun w => Nat.lt_irrefl _ ((nI_ltI (by omega) (by omega)).mp w))]
      simp
theorem q_seemed (h : XR X σ) (x y z w : Int32) : OUT (f_X11_seemed x y z w) (f_X12_seemed x y z w) σ := by
  have a := h.1.1
  have c := h.2.1.1
  have i := h.2.1.2.1
  have m := h.2.2.1
  have hT := a.1.1
  have hH := a.1.2.1
  cases g : (inR x 6 && (inR y 12 && (inR z (nT X.1) && inR w 12))) with
  | false => exact OUT_same h (c_seemed_no c g) (m_seemed_no m g)
  | true =>
    rw [Bool.and_eq_true, Bool.and_eq_true, Bool.and_eq_true] at g
    obtain ⟨g1, g2, g3, g4⟩ := g
    obtain ⟨mo, hmo, rfl⟩ := inR_of g1 (by omega)
    obtain ⟨b, hb, rfl⟩ := inR_of g2 (by omega)
    obtain ⟨t, ht, rfl⟩ := inR_of g3 (by omega)
    obtain ⟨k, hk, rfl⟩ := inR_of g4 (by omega)
    obtain ⟨s, e, F, i2⟩ := c_seemed a c i hmo hb ht hk
    exact OUT_q h e F i2 (fun m1 => m_seemed a m1 hmo hb ht hk)
end
