section
/-! ===== the reference's calls: out ===== -/
variable {A : AW} {σ : ST}
def ouB (A : AW) (k : Nat) : Option Nat → Bool
  | none => true
  | some b => decide (wt A (pm A k) < wt A (pm A b))
noncomputable def ouN (A : AW) : Nat → Option Nat
  | 0 => none
  | k + 1 => if (AL A).testBit k = true ∧ ouB A k (ouN A k) = true ∧ LE A (clr (AL A) k) X0 < 100000000 then some k else ouN A k
theorem ouN_lt : ∀ k b, ouN A k = some b → b < k := by
  intro k
  induction k with
  | zero => intro b h; cases h
  | succ k ih =>
    intro b h
    rw [ouN] at h
    split at h
    · cases h; omega
    · have := ih b h; omega
def ouI : Option Nat → Int32
  | none => -1
  | some b => nI b
theorem m5_of (m : MR A σ) {i : Nat} (hi : i < nP A) : σ.1 260 i = nI (pm A i) := (m.2.2.2.1 i hi).2.2.2.2.2.1
theorem mnn16 : ∀ a : Fin 16, ¬ nI a.1 < 0 := by decide
theorem mnn {b : Nat} (h : b < 16) : ¬ nI b < 0 := mnn16 ⟨b, h⟩
theorem t_out21 (a : AOK A) (m : MR A σ) : ∃ u, f_X12_out_21 FU (nI (AL A)) (-1) (nI 0) σ = some (ouI (ouN A (nP A)), u) ∧ Fz σ u := by
  have hP := a.1.2.2
  have h0 := AL_lt a
  refine Exists.elim (loopE (A := Int32 × ST) (fun n i y => f_X12_out_21 n (nI (AL A)) y.1 (nI i) y.2) (nP A) (fun i y => y.1 = ouI (ouN A i) ∧ Fz σ y.2) (fun y => some (y.1, y.2)) ?_ ?_ FU 0 (-1, σ) (by rw [FU_eq]; omega) (Nat.zero_le _) ⟨rfl, Fz.rf _⟩) ?_
  · rintro n i ⟨y, u⟩ hi ⟨e, F⟩ Q hQ
    have e : y = ouI (ouN A i) := e
    have F : Fz σ u := F
    subst e
    have mu := MR_fz m F
    have hs : ouN A (i + 1) = if (AL A).testBit i = true ∧ ouB A i (ouN A i) = true ∧ LE A (clr (AL A) i) X0 < 100000000 then some i else ouN A i := rfl
    have hlt := ouN_lt (A := A) i
    generalize ouN A i = w at *
    have stay : ∀ u1, Fz σ u1 → ¬ ((AL A).testBit i = true ∧ ouB A i w = true ∧ LE A (clr (AL A) i) X0 < 100000000) → Q (ouI w, u1) := fun u1 F1 q => hQ (_, u1) ⟨(congrArg ouI (hs.trans (if_neg q))).symm, F1⟩
    have go : ouB A i w = true → (AL A).testBit i = true → ∃ y : Int32 × ST, f_X12_out_69 (f_X12_out_21 n) (nI (AL A)) (ouI w) (nI i) u = f_X12_out_21 n (nI (AL A)) y.1 (nI (i + 1)) y.2 ∧ Q y := by
      intro c1 c2
      unfold f_X12_out_69
      rw [nI_clq (AL A) (show i < 32 by omega), nI_add]
      obtain ⟨u1, e1, F1, v1⟩ := t_solve (x := X0) a mu (Nat.lt_of_le_of_lt (clq_le (AL A) i) h0) (by decide)
      rw [e1, bd2_s]
      by_cases c : LE A (clr (AL A) i) X0 < 100000000
      · rw [decide_eq_true c, if_neg b2t0]
        exact ⟨(nI i, u1), rfl, hQ (nI i, u1) ⟨(congrArg ouI (hs.trans (if_pos ⟨c2, c1, c⟩))).symm, F.tr F1⟩⟩
      · rw [decide_eq_false c, if_pos b2f0]
        exact ⟨(ouI w, u1), rfl, stay u1 (F.tr F1) (fun q => c q.2.2)⟩
    show ∃ y : Int32 × ST, f_X12_out_21 (n + 1) (nI (AL A)) (ouI w) (nI i) u = f_X12_out_21 n (nI (AL A)) y.1 (nI (i + 1)) y.2 ∧ _
    rw [f_X12_out_21, mu.1.2.2, if_pos ((nI_ltI (by omega) (by omega)).mpr hi)]
    cases hb : (AL A).testBit i with
    | false =>
      rw [if_pos ((bit_q (AL A) (by omega) (by omega)).mpr hb), nI_add]
      exact ⟨(_, u), rfl, stay u F (fun q => by rw [hb] at q; cases q.1)⟩
    | true =>
      rw [if_neg (fun q => by have := (bit_q (AL A) (show i < 31 by omega) (by omega)).mp q; rw [hb] at this; cases this)]
      cases w with
      | none =>
        rw [if_pos (show ouI none < 0 by decide)]
        exact go rfl hb
      | some b =>
        have hbi := hlt b rfl
        have m5 := (m5_of mu (show i < nP A from hi))
        have m5b := (m5_of mu (show b < nP A by omega))
        have p5 := (a.2.2.2.2.1 i hi).2.2.2.2.1
        have p5b := (a.2.2.2.2.1 b (by omega)).2.2.2.2.1
        have w1 := mu.2.2.2.2 _ p5
        have w2 := mu.2.2.2.2 _ p5b
        have q1 := a.2.2.2.2.2.2 _ p5
        have q2 := a.2.2.2.2.2.2 _ p5b
        rw [if_neg (show ¬ ouI (some b) < 0 from mnn (show b < 16 by omega)), rdI_ok (show i < 16 by omega) (by decide), m5]
        simp only [bind_s]
        rw [rdI_ok p5 (by decide), w1]
        simp only [bind_s]
        rw [show ouI (some b) = nI b from rfl, rdI_ok (show b < 16 by omega) (by decide), m5b]
        simp only [bind_s]
        rw [rdI_ok p5b (by decide), w2]
        simp only [bind_s]
        by_cases c : wt A (pm A i) < wt A (pm A b)
        · rw [if_pos ((nI_ltI (by omega) (by omega)).mpr c)]
          exact go (decide_eq_true c) hb
        · rw [if_neg (fun q => c ((nI_ltI (by omega) (by omega)).mp q)), nI_add]
          exact ⟨(_, u), rfl, stay u F (fun q => c (of_decide_eq_true q.2.1))⟩
  · rintro n ⟨y, u⟩ ⟨e, F⟩
    have F : Fz σ u := F
    show f_X12_out_21 (n + 1) _ y (nI (nP A)) u = _
    rw [f_X12_out_21, (MR_fz m F).1.2.2, if_neg (fun w => Nat.lt_irrefl _ ((nI_ltI (by omega) (by omega)).mp w))]
  · rintro ⟨y, u⟩ ⟨e, e1, F⟩
    have e1 : y = ouI (ouN A (nP A)) := e1
    exact ⟨u, by rw [e, e1], F⟩
theorem m_out (a : AOK A) (m : MR A σ) : ∃ u, f_X12_out σ = some (if LE A (AL A) X0 < 100000000 then -1 else ouI (ouN A (nP A)), u) ∧ Fz σ u := by
  obtain ⟨u, e, F, v⟩ := t_solve (x := X0) a m (AL_lt a) (by decide)
  unfold f_X12_out
  rw [t_mall a m, bd2_s, e, bd2_s]
  by_cases c : LE A (AL A) X0 < 100000000
  · rw [decide_eq_true c, if_neg b2t0, if_pos c]
    exact ⟨u, rfl, F⟩
  · rw [decide_eq_false c, if_pos b2f0, if_neg c]
    obtain ⟨u1, e1, F1⟩ := t_out21 a (MR_fz m F)
    exact ⟨u1, e1, F.tr F1⟩
end
