section
/-! ===== both sides count the same hours ===== -/
variable {A : AW} {S : Nat} {x : Nat × Nat}
theorem Cc_congr {O : Nat → Nat → Nat → Nat → Nat → Nat → Prop} {K : Nat → Nat → Prop} {mk mk' : Nat → Nat → Nat → Nat → Bool} {p : Nat} (e : ∀ h s f a t c, O h s f a t c → mk h s f a = mk' h s f a) : ∀ j t n, Cc O K mk p j t n ↔ Cc O K mk' p j t n := by
  intro j
  induction j with
  | zero => intro t n; exact Iff.rfl
  | succ j ih =>
    intro t n
    constructor
    · rintro ⟨s, f, a, c, m, o, r, q⟩
      exact ⟨s, f, a, c, m, o, (ih s m).mp r, by rw [← e _ _ _ _ _ _ o]; exact q⟩
    · rintro ⟨s, f, a, c, m, o, r, q⟩
      exact ⟨s, f, a, c, m, o, (ih s m).mpr r, by rw [e _ _ _ _ _ _ o]; exact q⟩
theorem mk2_r (a : AOK A) {b h s f act : Nat} (v : vst A s) : mk2 A b h s f act = mkr A b s f act := by
  unfold mk2 mkb mkr
  by_cases c : b < 10
  · rw [if_pos c, if_pos c, trL_lo a v c]
  · rw [if_neg c, if_neg c]
theorem CCx_OF (a : AOK A) {b p q n : Nat} : (∃ t, CCx A S x b p (q + 1 - p) t n) ↔ OF A S x b p q n := by
  unfold CCx OF
  have e := fun t => Cc_congr (K := KPm A S x) (p := p) (mk := mk2 A b) (mk' := fun _ s f act => mkr A b s f act) (O := Op (EG A S x) (2 ^ cK A 1) (glS A S)) (fun h s f act t c o => mk2_r a (EG_iff.mp o.1).1.1.1) (q + 1 - p) t n
  constructor
  · rintro ⟨t, r⟩; exact ⟨t, (e t).mp r⟩
  · rintro ⟨t, r⟩; exact ⟨t, (e t).mpr r⟩
end
