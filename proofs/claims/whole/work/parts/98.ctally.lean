section
/-! ===== what a count leaves ===== -/
variable {A : AW} {σ : ST} {S d : Nat} {x : Nat × Nat}
theorem KPT_ty {s : ST} {first : Nat} (kp : KPT d A S x first σ) (hF : Fr (fun y => y = d ∨ y = d + 2 ∨ y = d + 3) σ s) (h0 : ∀ k, k ≠ 11 → s.1 d k = σ.1 d k) (hJ : s.2.1 d = σ.2.1 d) : KPT d A S x first s := by
  obtain ⟨g, ⟨f7, f8, f9, f10⟩, hc, h12, nt, h13⟩ := kp
  refine ⟨GX_fr g hF (fun y hy => by omega), ⟨?_, ?_, ?_, ?_⟩, fun h i h1 h2 h3 => ?_, ?_, fun h h1 h2 => ?_, fun q => ?_⟩
  · rw [h0 7 (by omega)]; exact f7
  · rw [h0 8 (by omega)]; exact f8
  · rw [h0 9 (by omega)]; exact f9
  · rw [h0 10 (by omega)]; exact f10
  · rw [hF.I (by omega)]; exact hc h i h1 h2 h3
  · rw [h0 12 (by omega)]; exact h12
  · exact NT_eq (nt h h1 h2) (hF.I (by omega) _) (hF.I (by omega) _) (hF.I (by omega) _) (hF.I (by omega) _)
  · rw [hJ]; exact h13 q
end
