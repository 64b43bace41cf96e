section
/-! ===== the class tries a set of pieces ===== -/
variable {A : AW} {σ : ST} {S h : Nat} {x : Nat × Nat}
theorem nI_n0 {a : Nat} (h : a ≠ 0) (h2 : a < 2 ^ 31) : ¬ nI a = 0 := fun q => h ((nI_eq (b := 0) h2 (by omega)).mp q)
/-- only the trial's cells change -/
def Ft (σ s : ST) : Prop := Fr (fun y => 213 ≤ y ∧ y ≤ 228) σ s
theorem Ft.rf (σ : ST) : Ft σ σ := Fr.rf _ _
theorem Ft.tr {σ s u : ST} (h : Ft σ s) (g : Ft s u) : Ft σ u := Fr.tr h g
/-- what stays where the class asks and tries -/
def Fxd (σ s : ST) : Prop := Fr (fun y => y = 0 ∨ (195 ≤ y ∧ y ≤ 228)) σ s ∧ (∀ k, k ≠ 11 → k ≠ 12 → s.1 0 k = σ.1 0 k) ∧ s.2.1 0 = σ.2.1 0 ∧ s.2.2.1 0 = σ.2.2.1 0
theorem Fxd.rf (σ : ST) : Fxd σ σ := ⟨Fr.rf _ _, fun _ _ _ => rfl, rfl, rfl⟩
theorem Fxd.tr {σ s u : ST} (h : Fxd σ s) (g : Fxd s u) : Fxd σ u := ⟨h.1.tr g.1, fun k a b => (g.2.1 k a b).trans (h.2.1 k a b), g.2.2.1.trans h.2.2.1, g.2.2.2.trans h.2.2.2⟩
theorem Fxd_c {s : ST} (h : Fc σ s) : Fxd σ s := ⟨h.1.mono (fun y q => by omega), h.2⟩
theorem Fxd_t {s : ST} (h : Ft σ s) : Fxd σ s := ⟨Fr.mono h (fun y q => Or.inr (by omega)), fun k _ _ => Fr.I h (by omega) k, (h.1 0 (by omega)).2.1, (h.1 0 (by omega)).2.2⟩
theorem CR_ft {s : ST} (a : AOK A) (c : CR 2 A σ) (h : Ft σ s) : CR 2 A s := CR_fr a c h (fun x hx => by omega)
theorem CR_fxd {s : ST} (a : AOK A) (c : CR 2 A σ) (h : Fxd σ s) : CR 2 A s := CR_fr a c h.1 (fun x hx => by omega)
theorem TB_ft {s : ST} (t : TB A σ) (h : Ft σ s) : TB A s := TB_fr t h (fun y hy => by omega)
theorem KPT_fw {W : Nat → Prop} {s : ST} {first : Nat} (kp : KPT 197 A S x first σ) (hF : Fr W σ s) (hW : ∀ y, W y → y < 197 ∨ 213 ≤ y) : KPT 197 A S x first s := by
  obtain ⟨g, ⟨f7, f8, f9, f10⟩, hc, h12, nt, h13⟩ := kp
  have o : ∀ y, 197 ≤ y → y ≤ 212 → ¬ W y := fun y h1 h2 q => by have := hW y q; omega
  refine ⟨GX_fr g hF (fun y hy => by have := hW y hy; omega), ⟨?_, ?_, ?_, ?_⟩, fun h i h1 h2 h3 => ?_, ?_, fun h h1 h2 => ?_, fun q => ?_⟩
  · rw [hF.I (o _ (by omega) (by omega))]; exact f7
  · rw [hF.I (o _ (by omega) (by omega))]; exact f8
  · rw [hF.I (o _ (by omega) (by omega))]; exact f9
  · rw [hF.I (o _ (by omega) (by omega))]; exact f10
  · rw [hF.I (o _ (by omega) (by omega))]; exact hc h i h1 h2 h3
  · rw [hF.I (o _ (by omega) (by omega))]; exact h12
  · exact NT_eq (nt h h1 h2) (hF.I (o _ (by omega) (by omega)) _) (hF.I (o _ (by omega) (by omega)) _) (hF.I (o _ (by omega) (by omega)) _) (hF.I (o _ (by omega) (by omega)) _)
  · rw [hF.J (o _ (by omega) (by omega))]; exact h13 q
theorem NW_fw {W : Nat → Prop} {s : ST} (n : NW A σ) (hF : Fr W σ s) (hW : ∀ y, W y → y < 197 ∨ 213 ≤ y) : NW A s := ⟨fun w => KPT_fw (n.1 w) hF hW, fun w => ⟨by rw [hF.I (fun q => by have := hW _ q; omega)]; exact (n.2 w).1, by rw [hF.J (fun q => by have := hW _ q; omega)]; exact (n.2 w).2⟩⟩
theorem CI_fw {W : Nat → Prop} {s : ST} (i : CI A σ) (hF : Fr W σ s) (hW : ∀ y, W y → (y ≠ 0 ∧ y < 195) ∨ 213 ≤ y) : CI A s := by
  have h0 : ¬ W 0 := fun q => by have := hW _ q; omega
  have e11 : s.1 0 11 = σ.1 0 11 := hF.I h0 _
  have e12 : s.1 0 12 = σ.1 0 12 := hF.I h0 _
  refine ⟨?_, ?_, ?_⟩
  · rw [e11, e12]; exact i.1
  · rw [e11]; exact fun q => TB_fr (i.2.1 q) hF (fun y hy => by have := hW y hy; omega)
  · rw [e12]; exact fun q => NW_fw (i.2.2 q) hF (fun y hy => by have := hW y hy; omega)
theorem NW_ft {s : ST} (n : NW A σ) (hF : Ft σ s) : NW A s := NW_fw n hF (fun y hy => by omega)
theorem CI_ft {s : ST} (i : CI A σ) (hF : Ft σ s) : CI A s := CI_fw i hF (fun y hy => by omega)
theorem t_findT (a : AOK A) (c : CR 2 A σ) (t : TB A σ) (hS : S < 2 ^ 16) : ∃ s, f_X2_find 213 (nI S) (-1) (-1) σ = some (b2 (decide (LE A S X0 < 100000000)), s) ∧ Ft σ s ∧ FND 213 A S X0 s := by
  obtain ⟨s, e, F, n⟩ := t_find (x := X0) a (Or.inr rfl) c t hS (by decide)
  exact ⟨s, e, Fr.mono F (fun y hy => by omega), n⟩
theorem t_seems (a : AOK A) (c : CR 2 A σ) (tb : TB A σ) (h11 : σ.1 0 11 = 0) (hS : S < 2 ^ 16) (hh : h < 12) {t : Nat} (ht : t < 10) : ∃ u, f_X11_seems (nI S) (nI t) (nI h) σ = some (isA A S X0 t h, u) ∧ Ft σ u := by
  obtain ⟨u, e, F, n⟩ := t_findT a c tb hS
  unfold f_X11_seems f_X11_freshenTruth isA
  rw [if_pos h11]
  simp only [bind_s]
  rw [e, bd2_s]
  by_cases w : LE A S X0 < 100000000
  · obtain ⟨u2, e2, F2, kp⟩ := t_keepBest (first := h) a (Or.inr rfl) (by omega) (CR_ft a c F) (TB_ft tb F) n w
    rw [decide_eq_true w, if_neg b2t0, e2, if_pos w]
    simp only [bind_s]
    rw [t_soOf a kp (Nat.le_refl _) w hh ht, bd2_s]
    exact ⟨u2, rfl, F.tr (Fr.mono F2 (fun y hy => by omega))⟩
  · rw [decide_eq_false w, if_pos b2f0, if_neg w]
    exact ⟨u, rfl, F⟩
theorem clr_same {w k : Nat} (hw : w < 2 ^ 16) : clr w k = w ↔ w.testBit k = false := by
  constructor
  · intro e
    have h := congrArg (fun z => z.testBit k) e
    unfold clr at h
    simp only [clr_tb (show w < 4294967296 by omega), decide_true, Bool.not_true, Bool.and_false] at h
    exact h.symm
  · intro e
    apply Nat.eq_of_testBit_eq
    intro j
    unfold clr
    rw [clr_tb (show w < 4294967296 by omega)]
    by_cases q : k = j
    · subst q; rw [e]; rfl
    · rw [decide_eq_false q]; simp
end
