section
/-! ===== most and fewest of a set ===== -/
variable {σ : ST}
def JD (m k mx mi : Nat) : Prop := (mx = 0 ∧ mi = 0 ∧ ∀ j, k ≤ j → m.testBit j = false) ∨ (mx < 13 ∧ mi < 13 ∧ m.testBit mx = true ∧ m.testBit mi = true ∧ ∀ j, k ≤ j → m.testBit j = true → mi ≤ j ∧ j ≤ mx)
theorem mxk : ∀ a k : Fin 13, (if nI a.1 < nI k.1 then nI k.1 else nI a.1) = nI (if a.1 < k.1 then k.1 else a.1) := by decide
theorem t_joined8 {m : Nat} (hm : m < 2 ^ 31) (b : Nat) : ∀ k, k ≤ 13 → ∀ n, k < n → ∀ mx mi, mx < 13 → mi < 13 → JD m k mx mi → ∃ hi lo, f_X11_joined_8 n (nI m) (nI b) (nI mx) (nI mi) (hI k) σ = some (nI (b * hi + lo), σ) ∧ JD m 0 hi lo := by
  intro k
  induction k with
  | zero =>
    intro _ n hn mx mi _ _ d
    obtain ⟨n, rfl⟩ : ∃ j, n = j + 1 := ⟨n - 1, by omega⟩
    rw [f_X11_joined_8, if_pos (show hI 0 < 0 by decide), nI_mul, nI_add]
    exact ⟨mx, mi, rfl, d⟩
  | succ k ih =>
    intro hk n hn mx mi h1 h2 d
    obtain ⟨n, rfl⟩ : ∃ j, n = j + 1 := ⟨n - 1, by omega⟩
    have e : hI (k + 1) = nI k := rfl
    rw [f_X11_joined_8, e, if_neg (nnI (show k < 13 by omega)), hI_dec (show k < 2 ^ 31 by omega)]
    cases c : m.testBit k with
    | false =>
      rw [if_pos ((bit_q m (by omega) hm).mpr c)]
      refine ih (by omega) n (by omega) mx mi h1 h2 ?_
      rcases d with ⟨q1, q2, q3⟩ | ⟨q0, q1, q2, q3, q4⟩
      · refine Or.inl ⟨q1, q2, fun j hj => ?_⟩
        by_cases w : j = k
        · rw [w]; exact c
        · exact q3 j (by omega)
      · refine Or.inr ⟨q0, q1, q2, q3, fun j hj hb => ?_⟩
        by_cases w : j = k
        · rw [w, c] at hb; cases hb
        · exact q4 j (by omega) hb
    | true =>
      rw [if_neg (fun q => by have := (bit_q m (show k < 31 by omega) hm).mp q; rw [c] at this; cases this), mxk ⟨mx, h1⟩ ⟨k, by omega⟩]
      refine ih (by omega) n (by omega) (if mx < k then k else mx) k (by split <;> omega) (by omega) (Or.inr ⟨by split <;> omega, by omega, ?_, c, fun j hj hb => ?_⟩)
      · rcases d with ⟨q1, q2, q3⟩ | ⟨q0, q1, q2, q3, q4⟩
        · by_cases w : mx < k
          · rw [if_pos w]; exact c
          · rw [if_neg w, show mx = k by omega]; exact c
        · by_cases w : mx < k
          · rw [if_pos w]; exact c
          · rw [if_neg w]; exact q2
      · refine ⟨hj, ?_⟩
        by_cases w : j = k
        · subst w; split <;> omega
        · rcases d with ⟨q1, q2, q3⟩ | ⟨q0, q1, q2, q3, q4⟩
          · have := q3 j (by omega)
            rw [this] at hb
            cases hb
          · have := (q4 j (by omega) hb).2
            split <;> omega
theorem t_joined {m : Nat} (hm : m < 2 ^ 13) (b : Nat) : ∃ hi lo, f_X11_joined (nI m) (nI b) σ = some (nI (b * hi + lo), σ) ∧ JD m 0 hi lo := by
  unfold f_X11_joined
  exact t_joined8 (by omega) b 13 (by omega) FU (by rw [FU_eq]; omega) 0 0 (by omega) (by omega) (Or.inl ⟨rfl, rfl, fun j hj => Nat.testBit_lt_two_pow (Nat.lt_of_lt_of_le hm (Nat.pow_le_pow_right (by decide) hj))⟩)
end
