section
/-! ===== the class's calls: must, ever ===== -/
variable {A : AW} {σ : ST}
theorem tally_no {b p q : Int32} (h : σ.1 197 12 = -1) : f_X2_tally 197 b p q σ = some (nI 0, σ) := by
  unfold f_X2_tally
  rw [h, if_pos rfl]
theorem Fc_ty {s : ST} (hF : Fr (fun y => y = 197 ∨ y = 197 + 2 ∨ y = 197 + 3) σ s) : Fc σ s := Fc_w hF (fun y hy => by omega)
theorem t_ask (a : AOK A) (c : CR 2 A σ) (tb : TB A σ) (h11 : σ.1 0 11 = 0) (n : NW A σ) {b p q : Nat} (hb : b < 16) (hpq : p ≤ q) (hq : q < 12) (w : LE A (AL A) X0 < 100000000) : ∃ u m, f_X2_tally 197 (nI b) (nI p) (nI q) σ = some (nI m, u) ∧ Fc σ u ∧ CI A u ∧ m < 2 ^ 14 ∧ ∀ k, m.testBit k = true ↔ OF A (AL A) X0 b p q k := by
  obtain ⟨u, m, e, F, f0, fJ, hm, hbits⟩ := t_tally a (Or.inl rfl) c tb (n.1 w) w hb hpq hq
  have G := Fc_ty F
  exact ⟨u, m, e, G, CI_of (by rw [F.I (by omega)]; exact h11) (TB_fr tb F (fun y hy => by omega)) ⟨fun _ => KPT_ty (n.1 w) F f0 fJ, fun q => absurd w q⟩, hm, fun k => (hbits k).trans (CCx_OF a)⟩
end
