section
/-! ===== the class tries a set of pieces ===== -/
variable {A : AW} {σ : ST} {S h : Nat} {x : Nat × Nat}
/-- only the trial's cells change -/
def Ft (σ s : ST) : Prop := Fr (fun y => 213 ≤ y ∧ y ≤ 228) σ s
theorem Ft.rf (σ : ST) : Ft σ σ := Fr.rf _ _
theorem Ft.tr {σ s u : ST} (h : Ft σ s) (g : Ft s u) : Ft σ u := Fr.tr h g
/-- what stays where the class asks and tries -/
def Fd (σ s : ST) : Prop := Fr (fun y => y = 0 ∨ (195 ≤ y ∧ y ≤ 228)) σ s ∧ (∀ k, k ≠ 11 → k ≠ 12 → s.1 0 k = σ.1 0 k) ∧ s.2.1 0 = σ.2.1 0 ∧ s.2.2.1 0 = σ.2.2.1 0
theorem Fd.rf (σ : ST) : Fd σ σ := ⟨Fr.rf _ _, fun _ _ _ => rfl, rfl, rfl⟩
theorem Fd.tr {σ s u : ST} (h : Fd σ s) (g : Fd s u) : Fd σ u := ⟨h.1.tr g.1, fun k a b => (g.2.1 k a b).trans (h.2.1 k a b), g.2.2.1.trans h.2.2.1, g.2.2.2.trans h.2.2.2⟩
theorem Fd_c {s : ST} (h : Fc σ s) : Fd σ s := ⟨h.1.mono (fun y q => by omega), h.2⟩
theorem Fd_t {s : ST} (h : Ft σ s) : Fd σ s := ⟨Fr.mono h (fun y q => Or.inr (by omega)), fun k _ _ => Fr.I h (by omega) k, (h.1 0 (by omega)).2.1, (h.1 0 (by omega)).2.2⟩
theorem CR_ft {s : ST} (a : AOK A) (c : CR 2 A σ) (h : Ft σ s) : CR 2 A s := CR_fr a c h (fun x hx => by omega)
theorem CR_fd {s : ST} (a : AOK A) (c : CR 2 A σ) (h : Fd σ s) : CR 2 A s := CR_fr a c h.1 (fun x hx => by omega)
theorem TB_ft {s : ST} (t : TB A σ) (h : Ft σ s) : TB A s := TB_fr t h (fun y hy => by omega)
theorem KPT_ft {s : ST} {first : Nat} (kp : KPT 197 A S x first σ) (hF : Ft σ s) : KPT 197 A S x first s := by
  obtain ⟨g, ⟨f7, f8, f9, f10⟩, hc, h12, nt, h13⟩ := kp
  refine ⟨GX_fr g hF (fun y hy => by omega), ⟨?_, ?_, ?_, ?_⟩, fun h i h1 h2 h3 => ?_, ?_, fun h h1 h2 => ?_, fun q => ?_⟩
  · rw [Fr.I hF (by omega)]; exact f7
  · rw [Fr.I hF (by omega)]; exact f8
  · rw [Fr.I hF (by omega)]; exact f9
  · rw [Fr.I hF (by omega)]; exact f10
  · rw [Fr.I hF (by omega)]; exact hc h i h1 h2 h3
  · rw [Fr.I hF (by omega)]; exact h12
  · exact NT_eq (nt h h1 h2) (Fr.I hF (by omega) _) (Fr.I hF (by omega) _) (Fr.I hF (by omega) _) (Fr.I hF (by omega) _)
  · rw [Fr.J hF (by omega)]; exact h13 q
theorem NW_ft {s : ST} (n : NW A σ) (hF : Ft σ s) : NW A s := ⟨fun w => KPT_ft (n.1 w) hF, fun w => ⟨by rw [Fr.I hF (by omega)]; exact (n.2 w).1, by rw [Fr.J hF (by omega)]; exact (n.2 w).2⟩⟩
theorem CI_ft {s : ST} (i : CI A σ) (hF : Ft σ s) : CI A s := by
  have e11 : s.1 0 11 = σ.1 0 11 := Fr.I hF (by omega) _
  have e12 : s.1 0 12 = σ.1 0 12 := Fr.I hF (by omega) _
  refine ⟨?_, ?_, ?_⟩
  · rw [e11, e12]; exact i.1
  · rw [e11]; exact fun q => TB_ft (i.2.1 q) hF
  · rw [e12]; exact fun q => NW_ft (i.2.2 q) hF
theorem t_findT (a : AOK A) (c : CR 2 A σ) (t : TB A σ) (hS : S < 2 ^ 16) : ∃ s, f_X2_find 213 (nI S) (-1) (-1) σ = some (b2 (decide (LE A S X0 < 100000000)), s) ∧ Ft σ s ∧ FND 213 A S X0 s := by
  obtain ⟨s, e, F, n⟩ := t_find (x := X0) a (Or.inr rfl) c t hS (by decide)
  exact ⟨s, e, Fr.mono F (fun y hy => by omega), n⟩
theorem t_seems (a : AOK A) (c : CR 2 A σ) (tb : TB A σ) (h11 : σ.1 0 11 = 0) (hS : S < 2 ^ 16) (hh : h < 12) {t : Nat} (ht : t < 10) : ∃ u, f_X11_seems (nI S) (nI t) (nI h) σ = some (isA A S X0 t h, u) ∧ Ft σ u := by
  obtain ⟨u, e, F, n⟩ := t_findT a c tb hS
  unfold f_X11_seems f_X11_freshenTruth isA
  rw [if_pos h11]
  simp only [bind_s]
  rw [e, bd2_s]
  by_cases w : LE A S X0 < 100000000
  · obtain ⟨u2, e2, F2, kp⟩ := t_keepBest (first := h) a (Or.inr rfl) (by omega) (CR_ft a c F) (TB_ft tb F) n w
    rw [decide_eq_true w, if_neg b2t0, e2, if_pos w]
    simp only [bind_s]
    rw [t_soOf a kp (Nat.le_refl _) w hh ht, bd2_s]
    exact ⟨u2, rfl, F.tr (Fr.mono F2 (fun y hy => by omega))⟩
  · rw [decide_eq_false w, if_pos b2f0, if_neg w]
    exact ⟨u, rfl, F⟩
theorem clr_same {w k : Nat} (hw : w < 2 ^ 16) : clr w k = w ↔ w.testBit k = false := by
  constructor
  · intro e
    have h := congrArg (fun z => z.testBit k) e
    unfold clr at h
    simp only [clr_tb (show w < 4294967296 by omega), decide_true, Bool.not_true, Bool.and_false] at h
    exact h.symm
  · intro e
    apply Nat.eq_of_testBit_eq
    intro j
    unfold clr
    rw [clr_tb (show w < 4294967296 by omega)]
    by_cases q : k = j
    · subst q; rw [e]; rfl
    · rw [decide_eq_false q]; simp
end
