section
/-! ===== the class's calls: must, ever ===== -/
variable {A : AW} {σ : ST}
theorem c_must (a : AOK A) (c : CR 2 A σ) (i : CI A σ) {act p q lo hi : Nat} (ha : act < nH A) (hpq : p ≤ q) (hq : q < 12) (hin : inHH (nI p) (nI q) = true) (o : LE A (AL A) X0 < 100000000 → OFs A (AL A) X0 (10 + act) p q lo hi) : ∃ u, f_X11_must (nI act) (nI p) (nI q) σ = some (if LE A (AL A) X0 < 100000000 then nI (if hi = 0 then 0 else if 0 < lo then 1 else 2) else -1, u) ∧ Fc σ u ∧ CI A u := by
  have hH := a.1.2.1
  obtain ⟨u, e, F, h11, h12, tb, n⟩ := t_current a c i
  unfold f_X11_must
  rw [c_isHappening c, guardT ha (by omega), bd2_s, if_neg b2t0, c_areHours, hin, bd2_s, if_neg b2t0, e]
  simp only [bind_s]
  rw [nI_add]
  by_cases w : LE A (AL A) X0 < 100000000
  · obtain ⟨u1, m, e1, F1, i1, hm, hb⟩ := t_ask a (CR_fc a c F) tb h11 n (show 10 + act < 16 by omega) hpq hq w
    refine ⟨u1, ?_, F.tr F1, i1⟩
    rw [e1, bd2_s, t_inSome hm hb (o w), bd2_s, if_pos w]
  · refine ⟨u, ?_, F, CI_of h11 tb n⟩
    rw [tally_no (n.2 w).1, bd2_s, if_neg w]
    unfold f_X11_inSome
    rw [if_pos (show nI 0 = 0 by decide), bd2_s]
theorem c_ever (a : AOK A) (c : CR 2 A σ) (i : CI A σ) {t p q lo hi : Nat} (ht : t < nT A) (hpq : p ≤ q) (hq : q < 12) (hin : inHH (nI p) (nI q) = true) (o : LE A (AL A) X0 < 100000000 → OFs A (AL A) X0 t p q lo hi) : ∃ u, f_X11_ever (nI t) (nI p) (nI q) σ = some (if LE A (AL A) X0 < 100000000 then nI (if hi = 0 then 0 else if 0 < lo then 1 else 2) else -1, u) ∧ Fc σ u ∧ CI A u := by
  have hT := nT10 a
  obtain ⟨u, e, F, h11, h12, tb, n⟩ := t_current a c i
  unfold f_X11_ever
  rw [c_isThing c, guardT ht (by omega), bd2_s, if_neg b2t0, c_areHours, hin, bd2_s, if_neg b2t0, e]
  simp only [bind_s]
  by_cases w : LE A (AL A) X0 < 100000000
  · obtain ⟨u1, m, e1, F1, i1, hm, hb⟩ := t_ask a (CR_fc a c F) tb h11 n (show t < 16 by omega) hpq hq w
    refine ⟨u1, ?_, F.tr F1, i1⟩
    rw [e1, bd2_s, t_inSome hm hb (o w), bd2_s, if_pos w]
  · refine ⟨u, ?_, F, CI_of h11 tb n⟩
    rw [tally_no (n.2 w).1, bd2_s, if_neg w]
    unfold f_X11_inSome
    rw [if_pos (show nI 0 = 0 by decide), bd2_s]
end
