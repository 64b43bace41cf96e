section
/-! ===== what a count says ===== -/
variable {A : AW} {σ : ST} {S b p q : Nat} {x : Nat × Nat}
theorem OFs_un {lo hi lo' hi' : Nat} (h : OFs A S x b p q lo hi) (g : OFs A S x b p q lo' hi') : lo = lo' ∧ hi = hi' := by
  obtain ⟨-, -, h1, h2, h3⟩ := h
  obtain ⟨-, -, g1, g2, g3⟩ := g
  have e1 := h3 _ g1
  have e2 := h3 _ g2
  have e3 := g3 _ h1
  have e4 := g3 _ h2
  omega
theorem t_inSome {m lo hi : Nat} (hm : m < 2 ^ 14) (hb : ∀ n, m.testBit n = true ↔ OF A S x b p q n) (o : OFs A S x b p q lo hi) : f_X11_inSome (nI m) σ = some (nI (if hi = 0 then 0 else if 0 < lo then 1 else 2), σ) := by
  obtain ⟨l1, l2, h1, h2, h3⟩ := o
  have hne : m ≠ 0 := fun e => by
    have := (hb lo).mpr h1
    rw [e] at this
    simp at this
  have h0 : ¬ nI m = 0 := fun w => hne ((nI_eq (b := 0) (by omega) (by omega)).mp w)
  have ea : nI m &&& nI 1 = nI (m % 2) := by
    have : nI m &&& nI 1 = nI (m &&& 1) := nI_and _ _
    rw [this, Nat.and_one_is_mod]
  have t0 : m.testBit 0 = decide (m % 2 = 1) := Nat.testBit_zero m
  unfold f_X11_inSome
  rw [if_neg h0, ea]
  by_cases c : m % 2 = 0
  · have n0 : ¬ OF A S x b p q 0 := fun w => by
      have := (hb 0).mpr w
      rw [t0, decide_eq_true_iff] at this
      omega
    have c1 : 0 < lo := Nat.pos_of_ne_zero fun e => n0 (e ▸ h1)
    have c2 := (h3 lo h1).2
    rw [if_pos (show nI (m % 2) = 0 by rw [c]; rfl), if_neg (show ¬ hi = 0 by omega), if_pos c1]
  · have c0 : OF A S x b p q 0 := (hb 0).mp (by rw [t0, decide_eq_true_iff]; omega)
    have c1 : lo = 0 := by have := (h3 0 c0).1; omega
    have d0 : ¬ nI (m % 2) = 0 := fun w => c ((nI_eq (b := 0) (by omega) (by omega)).mp w)
    rw [if_neg d0]
    by_cases e : hi = 0
    · have m1 : m = 1 := by
        apply Nat.eq_of_testBit_eq
        intro j
        cases w : m.testBit j with
        | true =>
          have := (h3 j ((hb j).mp w)).2
          have : j = 0 := by omega
          rw [this]; rfl
        | false =>
          cases j with
          | zero => rw [(hb 0).mpr c0] at w; cases w
          | succ j => simp [Nat.testBit_succ]
      rw [if_pos (congrArg nI m1), if_pos e]
    · have m1 : ¬ m = 1 := fun w => by
        have := (hb hi).mpr h2
        rw [w] at this
        cases hi with
        | zero => exact e rfl
        | succ j => simp [Nat.testBit_succ] at this
      rw [if_neg (fun w => m1 ((nI_eq (by omega) (by omega)).mp w)), if_neg e, if_neg (show ¬ 0 < lo by omega)]
end
