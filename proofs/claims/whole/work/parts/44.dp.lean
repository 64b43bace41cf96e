section
/-! ===== least values of sets ===== -/
def Mn (N : Nat) (P : Nat → Prop) (v : Nat) : Prop := v ≤ N ∧ (∀ x, P x → v ≤ x) ∧ (v < N → P v)
theorem Mn_un {N : Nat} {P : Nat → Prop} {v w : Nat} (h : Mn N P v) (g : Mn N P w) : v = w := by
  obtain ⟨a1, a2, a3⟩ := h
  obtain ⟨b1, b2, b3⟩ := g
  by_cases hv : v < N
  · have := b2 v (a3 hv)
    by_cases hw : w < N
    · have := a2 w (b3 hw); omega
    · omega
  · by_cases hw : w < N
    · have := a2 w (b3 hw); omega
    · omega
theorem Mn_emp {N : Nat} {P : Nat → Prop} (h : ∀ x, ¬ P x) : Mn N P N := ⟨Nat.le_refl _, fun x hx => (h x hx).elim, fun h => absurd h (Nat.lt_irrefl _)⟩
theorem Mn_add {N : Nat} {P Q : Nat → Prop} {v x : Nat} (h : Mn N P v) (hQ : ∀ y, Q y ↔ P y ∨ y = x) : Mn N Q (if x < v then x else v) := by
  obtain ⟨a1, a2, a3⟩ := h
  by_cases hx : x < v
  · rw [if_pos hx]
    refine ⟨by omega, fun y hy => ?_, fun _ => (hQ x).mpr (Or.inr rfl)⟩
    rcases (hQ y).mp hy with h | h
    · have := a2 y h; omega
    · omega
  · rw [if_neg hx]
    refine ⟨a1, fun y hy => ?_, fun h => (hQ v).mpr (Or.inl (a3 h))⟩
    rcases (hQ y).mp hy with h | h
    · exact a2 y h
    · omega
theorem Mn_same {N : Nat} {P Q : Nat → Prop} {v : Nat} (h : Mn N P v) (hQ : ∀ y, Q y ↔ P y) : Mn N Q v := ⟨h.1, fun x hx => h.2.1 x ((hQ x).mp hx), fun hv => (hQ v).mpr (h.2.2 hv)⟩
/-- a bound that is nearer -/
theorem Mn_cut {N M : Nat} {P : Nat → Prop} {v : Nat} (hM : M ≤ N) (h : Mn N P v) : Mn M P (if v < M then v else M) := by
  obtain ⟨a1, a2, a3⟩ := h
  by_cases hv : v < M
  · rw [if_pos hv]
    exact ⟨by omega, a2, fun _ => a3 (by omega)⟩
  · rw [if_neg hv]
    exact ⟨Nat.le_refl _, fun x hx => by have := a2 x hx; omega, fun h => absurd h (Nat.lt_irrefl _)⟩
theorem Mn_ex (N : Nat) (P : Nat → Prop) : ∃ v, Mn N P v := by
  have key : ∀ n, (∃ x, x ≤ n ∧ x < N ∧ P x) → ∃ v, Mn N P v := by
    intro n
    induction n with
    | zero =>
      rintro ⟨x, h1, h2, h3⟩
      have : x = 0 := by omega
      subst this
      exact ⟨0, by omega, fun y _ => by omega, fun _ => h3⟩
    | succ n ih =>
      rintro ⟨x, h1, h2, h3⟩
      by_cases h : ∃ x, x ≤ n ∧ x < N ∧ P x
      · exact ih h
      · refine ⟨x, by omega, fun y hy => ?_, fun _ => h3⟩
        by_cases e : y < x
        · exact absurd ⟨y, by omega, by omega, hy⟩ h
        · omega
  by_cases h : ∃ x, x < N ∧ P x
  · obtain ⟨x, h1, h2⟩ := h
    exact key x ⟨x, Nat.le_refl _, h1, h2⟩
  · refine ⟨N, Nat.le_refl _, fun x hx => ?_, fun h => absurd h (Nat.lt_irrefl _)⟩
    by_cases e : x < N
    · exact absurd ⟨x, e, hx⟩ h
    · omega
noncomputable def mn (N : Nat) (P : Nat → Prop) : Nat := Classical.choose (Mn_ex N P)
theorem mn_sp (N : Nat) (P : Nat → Prop) : Mn N P (mn N P) := Classical.choose_spec (Mn_ex N P)
theorem mn_eq {N : Nat} {P : Nat → Prop} {v : Nat} (h : Mn N P v) : mn N P = v := Mn_un (mn_sp N P) h
/-! ===== prices over hours: a graph's steps, cheapest ways ===== -/
def NV : Nat := 100000000
theorem NV_eq : NV = 100000000 := rfl
abbrev GR : Type := Nat → Nat → Nat → Nat → Option (Nat × Nat)
def GOK (E : GR) : Prop := ∀ h s f a t c, E h s f a = some (t, c) → s < 1024 ∧ t < 1024 ∧ f < 4 ∧ a < 7 ∧ c ≤ 99
noncomputable def Fw (E : GR) (I : Nat) : Nat → Nat → Nat
  | 0, s => if s < I then 0 else NV
  | h + 1, t => mn NV (fun y => ∃ s f a c, E h s f a = some (t, c) ∧ Fw E I h s < NV ∧ y = Fw E I h s + c)
/-- from hour 12 - k on -/
noncomputable def Bw (E : GR) (gl : Nat → Bool) : Nat → Nat → Nat
  | 0, s => if gl s = true then 0 else NV
  | k + 1, s => mn NV (fun y => ∃ f a t c, E (11 - k) s f a = some (t, c) ∧ Bw E gl k t < NV ∧ y = Bw E gl k t + c)
noncomputable def Le (E : GR) (I : Nat) (gl : Nat → Bool) : Nat := mn NV (fun y => ∃ s, gl s = true ∧ y = Fw E I 12 s)
/-- a step of a cheapest way -/
def Op (E : GR) (I : Nat) (gl : Nat → Bool) (h s f a t c : Nat) : Prop := E h s f a = some (t, c) ∧ Fw E I h s < NV ∧ Fw E I h s + c + Bw E gl (11 - h) t = Le E I gl ∧ Le E I gl < NV
/-- a state of a cheapest way -/
def KP (E : GR) (I : Nat) (gl : Nat → Bool) (h s : Nat) : Prop := Fw E I h s + Bw E gl (12 - h) s = Le E I gl ∧ Le E I gl < NV
section DP
variable {E : GR} {I : Nat} {gl : Nat → Bool}
theorem Fw_le (h : Nat) (s : Nat) : Fw E I h s ≤ NV := by
  cases h with
  | zero => unfold Fw; split <;> omega
  | succ h => unfold Fw; exact (mn_sp NV _).1
theorem Fw_step {h s f a t c : Nat} (e : E h s f a = some (t, c)) (hf : Fw E I h s < NV) : Fw E I (h + 1) t ≤ Fw E I h s + c := by
  show mn NV _ ≤ _
  exact (mn_sp NV _).2.1 _ ⟨s, f, a, c, e, hf, rfl⟩
theorem Fw_back {h t : Nat} (ht : Fw E I (h + 1) t < NV) : ∃ s f a c, E h s f a = some (t, c) ∧ Fw E I h s < NV ∧ Fw E I (h + 1) t = Fw E I h s + c := (mn_sp NV _).2.2 ht
theorem Bw_le (k : Nat) (s : Nat) : Bw E gl k s ≤ NV := by
  cases k with
  | zero => unfold Bw; split <;> omega
  | succ k => unfold Bw; exact (mn_sp NV _).1
theorem Bw_step {k s f a t c : Nat} (e : E (11 - k) s f a = some (t, c)) (hf : Bw E gl k t < NV) : Bw E gl (k + 1) s ≤ Bw E gl k t + c := by
  show mn NV _ ≤ _
  exact (mn_sp NV _).2.1 _ ⟨f, a, t, c, e, hf, rfl⟩
theorem Bw_on {k s : Nat} (hs : Bw E gl (k + 1) s < NV) : ∃ f a t c, E (11 - k) s f a = some (t, c) ∧ Bw E gl k t < NV ∧ Bw E gl (k + 1) s = Bw E gl k t + c := (mn_sp NV _).2.2 hs
theorem Fw_99 (g : GOK E) : ∀ h s, Fw E I h s < NV → Fw E I h s ≤ 99 * h := by
  intro h
  induction h with
  | zero => intro s hs; unfold Fw at hs ⊢; split at hs <;> simp_all
  | succ h ih =>
    intro s hs
    obtain ⟨s', f, a, c, e, h1, h2⟩ := Fw_back hs
    have := ih s' h1
    have := (g _ _ _ _ _ _ e).2.2.2.2
    omega
theorem Le_le : Le E I gl ≤ NV := (mn_sp NV _).1
theorem fb_ge (g : GOK E) : ∀ k, k ≤ 12 → ∀ s, Fw E I (12 - k) s < NV → Bw E gl k s < NV → Le E I gl ≤ Fw E I (12 - k) s + Bw E gl k s := by
  intro k
  induction k with
  | zero =>
    intro _ s h1 h2
    have hg : gl s = true := by
      unfold Bw at h2
      split at h2
      · assumption
      · omega
    have : Le E I gl ≤ Fw E I 12 s := (mn_sp NV _).2.1 _ ⟨s, hg, rfl⟩
    simpa using Nat.le_trans this (Nat.le_add_right _ _)
  | succ k ih =>
    intro hk s h1 h2
    obtain ⟨f, a, t, c, e, h3, h4⟩ := Bw_on h2
    have e12 : 12 - (k + 1) = 11 - k := by omega
    rw [e12] at h1 ⊢
    have h5 := Fw_step (I := I) e h1
    rw [show 11 - k + 1 = 12 - k by omega] at h5
    have h6 : Fw E I (12 - k) t < NV := by
      have := Fw_99 g _ _ h1
      have := (g _ _ _ _ _ _ e).2.2.2.2
      unfold NV at *
      omega
    have := ih (by omega) t h6 h3
    omega
theorem Op_kp (g : GOK E) {h s f a t c : Nat} (hh : h < 12) (o : Op E I gl h s f a t c) : KP E I gl h s ∧ KP E I gl (h + 1) t ∧ Fw E I (h + 1) t = Fw E I h s + c ∧ Bw E gl (12 - h) s = Bw E gl (11 - h) t + c := by
  obtain ⟨e, h1, h2, h3⟩ := o
  have h4 := Fw_step (I := I) e h1
  have hb : Bw E gl (11 - h) t < NV := by omega
  have e1 : E (11 - (11 - h)) s f a = some (t, c) := by rw [show 11 - (11 - h) = h by omega]; exact e
  have h5 := Bw_step e1 hb
  rw [show 11 - h + 1 = 12 - h by omega] at h5
  have hc := (g _ _ _ _ _ _ e).2.2.2.2
  have h99 := Fw_99 g _ _ h1
  have h7 : Fw E I (h + 1) t < NV := by unfold NV at *; omega
  have h8 := fb_ge (gl := gl) g (11 - h) (by omega) t (by rw [show 12 - (11 - h) = h + 1 by omega]; exact h7) hb
  rw [show 12 - (11 - h) = h + 1 by omega] at h8
  have h9 := fb_ge (gl := gl) g (12 - h) (by omega) s (by rw [show 12 - (12 - h) = h by omega]; exact h1) (by omega)
  rw [show 12 - (12 - h) = h by omega] at h9
  refine ⟨⟨by omega, h3⟩, ⟨?_, h3⟩, by omega, by omega⟩
  rw [show 12 - (h + 1) = 11 - h by omega]
  omega
theorem KP_out (g : GOK E) {h s : Nat} (hh : h < 12) (k : KP E I gl h s) : ∃ f a t c, Op E I gl h s f a t c := by
  obtain ⟨h1, h2⟩ := k
  have hb : Bw E gl (11 - h + 1) s < NV := by rw [show 11 - h + 1 = 12 - h by omega]; omega
  obtain ⟨f, a, t, c, e, h3, h4⟩ := Bw_on hb
  rw [show 11 - h + 1 = 12 - h by omega] at h4
  rw [show 11 - (11 - h) = h by omega] at e
  exact ⟨f, a, t, c, e, by omega, by omega, h2⟩
theorem KP_in (g : GOK E) {h t : Nat} (hh : h < 12) (k : KP E I gl (h + 1) t) : ∃ s f a c, Op E I gl h s f a t c := by
  obtain ⟨h1, h2⟩ := k
  rw [show 12 - (h + 1) = 11 - h by omega] at h1
  obtain ⟨s, f, a, c, e, h3, h4⟩ := Fw_back (E := E) (I := I) (h := h) (t := t) (by omega)
  exact ⟨s, f, a, c, e, h3, by omega, h2⟩
theorem KP_lt (g : GOK E) {h s : Nat} (hI : I ≤ 1024) (k : KP E I gl h s) : s < 1024 := by
  have hF : Fw E I h s < NV := by have := k.1; have := k.2; omega
  cases h with
  | zero =>
    unfold Fw at hF
    split at hF <;> omega
  | succ h =>
    obtain ⟨s', f, a, c, e, -, -⟩ := Fw_back hF
    exact (g _ _ _ _ _ _ e).2.1
theorem KP_12 (k : Nat) : KP E I gl 12 k ↔ gl k = true ∧ Fw E I 12 k = Le E I gl ∧ Le E I gl < NV := by
  unfold KP
  show Fw E I 12 k + Bw E gl 0 k = _ ∧ _ ↔ _
  unfold Bw
  constructor
  · rintro ⟨h1, h2⟩
    split at h1
    · rename_i h; exact ⟨h, by omega, h2⟩
    · omega
  · rintro ⟨h, h1, h2⟩
    rw [if_pos h]
    exact ⟨by omega, h2⟩
theorem KP_ex (h : Le E I gl < NV) : ∃ s, KP E I gl 12 s := by
  obtain ⟨s, h1, h2⟩ := (mn_sp NV (fun y => ∃ s, gl s = true ∧ y = Fw E I 12 s)).2.2 h
  exact ⟨s, (KP_12 s).mpr ⟨h1, h2.symm, h⟩⟩
theorem KP_all (g : GOK E) (hL : Le E I gl < NV) : ∀ k, k ≤ 12 → ∃ s, KP E I gl (12 - k) s := by
  intro k
  induction k with
  | zero => intro _; exact KP_ex hL
  | succ k ih =>
    intro hk
    obtain ⟨t, ht⟩ := ih (by omega)
    rw [show 12 - k = (12 - (k + 1)) + 1 by omega] at ht
    obtain ⟨s, f, a, c, o⟩ := KP_in g (by omega) ht
    exact ⟨s, (Op_kp g (by omega) o).1⟩
end DP
end
