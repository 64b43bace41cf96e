section
/-! ===== the class's calls: howLong ===== -/
variable {A : AW} {σ : ST}
theorem JD_OFs {S b p q m lo hi mx mi : Nat} {x : Nat × Nat} (hb : ∀ n, m.testBit n = true ↔ OF A S x b p q n) (o : OFs A S x b p q lo hi) (d : JD m 0 mx mi) : mx = hi ∧ mi = lo := by
  obtain ⟨-, -, h1, h2, h3⟩ := o
  rcases d with ⟨-, -, q3⟩ | ⟨-, -, q2, q3, q4⟩
  · have := (hb lo).mpr h1
    rw [q3 lo (Nat.zero_le _)] at this
    cases this
  · have e1 := h3 _ ((hb mx).mp q2)
    have e2 := h3 _ ((hb mi).mp q3)
    have e3 := q4 _ (Nat.zero_le _) ((hb lo).mpr h1)
    have e4 := q4 _ (Nat.zero_le _) ((hb hi).mpr h2)
    omega
theorem c_howLong (a : AOK A) (c : CR 2 A σ) (i : CI A σ) {t p q lo hi : Nat} (ht : t < nT A) (hpq : p ≤ q) (hq : q < 12) (hin : inHH (nI p) (nI q) = true) (o : LE A (AL A) X0 < 100000000 → OFs A (AL A) X0 t p q lo hi) : ∃ u, f_X11_howLong (nI t) (nI p) (nI q) σ = some (if LE A (AL A) X0 < 100000000 then nI (100 * hi + lo) else -1, u) ∧ Fc σ u ∧ CI A u := by
  have hT := nT10 a
  obtain ⟨u, e, F, h11, h12, tb, n⟩ := t_current a c i
  unfold f_X11_howLong
  rw [c_isThing c, guardT ht (by omega), bd2_s, if_neg b2t0, c_areHours, hin, bd2_s, if_neg b2t0, e]
  simp only [bind_s]
  by_cases w : LE A (AL A) X0 < 100000000
  · obtain ⟨u1, m, e1, F1, i1, hm, hb⟩ := t_ask a (CR_fc a c F) tb h11 n (show t < 16 by omega) hpq hq w
    have ow := o w
    have hne : ¬ nI m = 0 := fun z => by
      have z0 : m = 0 := (nI_eq (b := 0) (by omega) (by omega)).mp z
      have := (hb lo).mpr ow.2.2.1
      rw [z0] at this
      simp at this
    have h13 : m < 2 ^ 13 := by
      have e13 : m.testBit 13 = false := by
        cases z : m.testBit 13 with
        | false => rfl
        | true =>
          have := (ow.2.2.2.2 13 ((hb 13).mp z)).2
          have := ow.2.1
          omega
      apply Nat.lt_pow_two_of_testBit
      intro j hj
      by_cases w : j = 13
      · rw [w]; exact e13
      · exact Nat.testBit_lt_two_pow (Nat.lt_of_lt_of_le hm (Nat.pow_le_pow_right (by decide) (by omega)))
    obtain ⟨mx, mi, e2, d⟩ := t_joined (σ := u1) h13 100
    obtain ⟨rfl, rfl⟩ := JD_OFs hb ow d
    refine ⟨u1, ?_, F.tr F1, i1⟩
    rw [e1, bd2_s, if_neg hne, e2, bd2_s, if_pos w]
  · refine ⟨u, ?_, F, CI_of h11 tb n⟩
    rw [tally_no (n.2 w).1, bd2_s, if_neg w, if_pos (show nI 0 = 0 by decide)]
end
