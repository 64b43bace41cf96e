section
/-! ===== the class's steps are the reference's ===== -/
variable {A : AW} {σ : ST} {S h : Nat} {x : Nat × Nat}
theorem trL_s (a : AOK A) {f s : Nat} (v : vst A s) : trL A (f * 256 + lwc A s) = tr A f (s % 32) (s / 32 % 8) := by
  obtain ⟨h1, h2⟩ := lwc_lt a v
  have h3 := LW_256 a
  obtain ⟨g1, g2, -⟩ := stc_at (fl := s / 256) a h1
  rw [h2] at g1 g2
  obtain ⟨q1, q2⟩ := lk_at (f := f) (show lwc A s < 256 by omega)
  unfold trL
  rw [q1, q2, ← g1, ← g2]
theorem trL_lo (a : AOK A) {f s j : Nat} (v : vst A s) (hj : j < 10) : (trL A (f * 256 + lwc A s)).testBit j = (so A f (s % 32) (s / 32 % 8)).testBit j := by
  rw [trL_s a v]
  unfold tr
  rw [Nat.testBit_or, hmk_tb _ a.1.2.1, decide_eq_false (show ¬ j = 16 by omega), decide_eq_false (show ¬ (10 ≤ j ∧ j < 10 + nH A) by omega)]
  simp
theorem trL_hi (a : AOK A) {f s b : Nat} (v : vst A s) (hb : b < nH A) : (trL A (f * 256 + lwc A s)).testBit (10 + b) = hc A b (so A f (s % 32) (s / 32 % 8)) (s / 32 % 8) := by
  have hH := a.1.2.1
  rw [trL_s a v]
  unfold tr
  rw [Nat.testBit_or, hmk_tb _ a.1.2.1, decide_eq_false (show ¬ 10 + b = 16 by omega), decide_eq_true (show (10 ≤ 10 + b ∧ 10 + b < 10 + nH A) by omega), tb_lt (n := 10) (so_lt a) (by omega), show 10 + b - 10 = b by omega]
  simp
/-- both speak of the same steps -/
theorem eO_EP (a : AOK A) {P : Nat → Nat → Nat → Prop} {R : Nat → Nat → Nat → Prop} (e : ∀ s f act, vst A s → (P act (f * 256 + lwc A s) (s / 256) ↔ R act f s)) : eO A S x h P ↔ EP A S x h 1024 [] R := by
  rw [EP_all a]
  constructor
  · rintro ⟨s, f, act, t, c, o, q⟩
    exact ⟨s, f, act, t, c, o, (e s f act (EG_iff.mp o.1).1.1.1).mp q⟩
  · rintro ⟨s, f, act, t, c, o, q⟩
    exact ⟨s, f, act, t, c, o, (e s f act (EG_iff.mp o.1).1.1.1).mpr q⟩
theorem c_bits (a : AOK A) {t : Nat} (ht : t < 10) (z : Bool) : (eO A S x h fun _ l _ => (trL A l).testBit t = z) ↔ EP A S x h 1024 [] (fun _ f s => (so A f (s % 32) (s / 32 % 8)).testBit t = z) :=
  eO_EP a (P := fun _ l _ => (trL A l).testBit t = z) (R := fun _ f s => (so A f (s % 32) (s / 32 % 8)).testBit t = z) (fun s f act v => by
    show (trL A (f * 256 + lwc A s)).testBit t = z ↔ _
    rw [trL_lo a v ht])
theorem c_could (a : AOK A) (j : Nat) : (eO A S x h fun act _ _ => act = j) ↔ EP A S x h 1024 [] (fun act _ _ => act = j) := eO_EP a (fun s f act v => Iff.rfl)
theorem c_may (a : AOK A) {b : Nat} (hb : b < nH A) : (eO A S x h fun _ l _ => (trL A l).testBit (10 + b) = false) ↔ EP A S x h 1024 [] (fun _ f s => hc A b (so A f (s % 32) (s / 32 % 8)) (s / 32 % 8) = false) :=
  eO_EP a (P := fun _ l _ => (trL A l).testBit (10 + b) = false) (R := fun _ f s => hc A b (so A f (s % 32) (s / 32 % 8)) (s / 32 % 8) = false) (fun s f act v => by
    show (trL A (f * 256 + lwc A s)).testBit (10 + b) = false ↔ _
    rw [trL_hi a v hb])
end
