section
/-! ===== the graph of a world: it is as the reckoning wants it ===== -/
section GR1
variable {A : AW} {S : Nat} {x : Nat × Nat}
theorem spn_mono {n m : Nat} (h : n ≤ m) : spn A S n ≤ spn A S m := by
  induction m with
  | zero => have : n = 0 := by omega
            subst this; exact Nat.le_refl _
  | succ m ih =>
    by_cases e : n = m + 1
    · subst e; exact Nat.le_refl _
    · have := ih (by omega)
      rw [spn]
      split <;> omega
theorem spn_cnt (n : Nat) : spn A S n ≤ cnt (pk A) 1 n := by
  induction n with
  | zero => exact Nat.le_refl _
  | succ n ih => rw [spn, cnt]; split <;> split <;> simp_all <;> omega
theorem nS_le (a : AOK A) : nS A S ≤ 2 := Nat.le_trans (spn_cnt _) a.2.2.2.2.2.1
theorem spn_lt {n k : Nat} (h : k < n) (hk : S.testBit k = true ∧ pk A k = 1) : spn A S k < spn A S n := by
  have := spn_mono (A := A) (S := S) (show k + 1 ≤ n by omega)
  rw [spn, if_pos hk] at this
  omega
theorem spn_inj {k j : Nat} (hk : S.testBit k = true ∧ pk A k = 1) (hj : S.testBit j = true ∧ pk A j = 1) (e : spn A S k = spn A S j) : k = j := by
  rcases Nat.lt_trichotomy k j with h | h | h
  · have := spn_lt h hk; omega
  · exact h
  · have := spn_lt h hj; omega
theorem spn_sur {n j : Nat} (h : j < spn A S n) : ∃ k, k < n ∧ (S.testBit k = true ∧ pk A k = 1) ∧ spn A S k = j := by
  induction n with
  | zero => rw [spn] at h; omega
  | succ n ih =>
    rw [spn] at h
    split at h
    · rename_i hk
      by_cases e : j = spn A S n
      · exact ⟨n, by omega, hk, e.symm⟩
      · obtain ⟨k, h1, h2⟩ := ih (by omega)
        exact ⟨k, by omega, h2⟩
    · obtain ⟨k, h1, h2⟩ := ih h
      exact ⟨k, by omega, h2⟩
theorem br_tb {n h a j : Nat} : (br A S n h a).testBit j = true ↔ ∃ k, k < n ∧ (S.testBit k = true ∧ pk A k = 1 ∧ pp A k ≤ h ∧ h ≤ pq A k ∧ po A k = a) ∧ spn A S k = j := by
  induction n with
  | zero => simp [br]
  | succ n ih =>
    rw [br]
    split
    · rename_i hk
      rw [tb_set, Bool.or_eq_true, ih, decide_eq_true_iff]
      constructor
      · rintro (⟨k, h1, h2⟩ | h1)
        · exact ⟨k, by omega, h2⟩
        · exact ⟨n, by omega, hk, h1⟩
      · rintro ⟨k, h1, h2, h3⟩
        by_cases e : k = n
        · subst e; exact Or.inr h3
        · exact Or.inl ⟨k, by omega, h2, h3⟩
    · rename_i hk
      rw [ih]
      constructor
      · rintro ⟨k, h1, h2⟩; exact ⟨k, by omega, h2⟩
      · rintro ⟨k, h1, h2, h3⟩
        by_cases e : k = n
        · subst e; exact absurd h2 hk
        · exact ⟨k, by omega, h2, h3⟩
theorem du_tb {n h j : Nat} : (du A S n h).testBit j = true ↔ ∃ k, k < n ∧ (S.testBit k = true ∧ pk A k = 1 ∧ pq A k = h) ∧ spn A S k = j := by
  induction n with
  | zero => simp [du]
  | succ n ih =>
    rw [du]
    split
    · rename_i hk
      rw [tb_set, Bool.or_eq_true, ih, decide_eq_true_iff]
      constructor
      · rintro (⟨k, h1, h2⟩ | h1)
        · exact ⟨k, by omega, h2⟩
        · exact ⟨n, by omega, hk, h1⟩
      · rintro ⟨k, h1, h2, h3⟩
        by_cases e : k = n
        · subst e; exact Or.inr h3
        · exact Or.inl ⟨k, by omega, h2, h3⟩
    · rename_i hk
      rw [ih]
      constructor
      · rintro ⟨k, h1, h2⟩; exact ⟨k, by omega, h2⟩
      · rintro ⟨k, h1, h2, h3⟩
        by_cases e : k = n
        · subst e; exact absurd h2 hk
        · exact ⟨k, by omega, h2, h3⟩
theorem br_lt (n h a : Nat) : br A S n h a < 2 ^ spn A S n := by
  apply Nat.lt_pow_two_of_testBit
  intro i hi
  cases e : (br A S n h a).testBit i with
  | false => rfl
  | true =>
    obtain ⟨k, h1, h2, h3⟩ := br_tb.mp e
    have := spn_lt h1 ⟨h2.1, h2.2.1⟩
    omega
theorem du_lt (n h : Nat) : du A S n h < 2 ^ spn A S n := by
  apply Nat.lt_pow_two_of_testBit
  intro i hi
  cases e : (du A S n h).testBit i with
  | false => rfl
  | true =>
    obtain ⟨k, h1, h2, h3⟩ := du_tb.mp e
    have := spn_lt h1 ⟨h2.1, h2.2.1⟩
    omega
theorem sub_tb {a b : Nat} : a &&& b = b ↔ ∀ j, b.testBit j = true → a.testBit j = true := by
  constructor
  · intro h j hj
    rw [← h, Nat.testBit_and, Bool.and_eq_true] at hj
    exact hj.1
  · intro h
    apply Nat.eq_of_testBit_eq
    intro j
    rw [Nat.testBit_and]
    cases e : b.testBit j with
    | false => simp
    | true => rw [h j e]; rfl
def Dd (A : AW) (S : Nat) (h t : Nat) : Bool := decide (t / 256 &&& du A S (nP A) h = du A S (nP A) h)
def Vv (A : AW) (S : Nat) (h s : Nat) : Prop := h = 0 ∨ (s / 256 < 2 ^ nS A S ∧ ∀ g, g < h → s / 256 &&& du A S (nP A) g = du A S (nP A) g)
theorem ef_lt {b e k n : Nat} (h1 : b < 2 ^ n) (h2 : k < 2 ^ n) : ef b e k < 2 ^ n := Nat.or_lt_two_pow (Nat.lt_of_le_of_lt Nat.and_le_left h2) h1
theorem nxk_lt (a : AOK A) {so kept run act : Nat} (h : kept < 2 ^ cK A 1) : nxk A so kept run act < 2 ^ cK A 1 := by
  unfold nxk
  split
  · rename_i h1
    exact ef_lt (a.2.2.2.1 act h1.1).2.2.1 h
  · exact h
theorem rnN_of {so run : Nat} {n : Nat} (h : rnN A so run n = true) : ∃ i, i < n ∧ kd A i = 3 := by
  induction n with
  | zero => cases h
  | succ n ih =>
    rw [rnN, Bool.or_eq_true, Bool.and_eq_true, decide_eq_true_iff] at h
    rcases h with h | h
    · obtain ⟨i, h1, h2⟩ := ih h; exact ⟨i, by omega, h2⟩
    · exact ⟨n, by omega, h.1⟩
theorem rn_pos {so run : Nat} (h : rn A so run = true) : 0 < cK A 3 := by
  obtain ⟨i, h1, h2⟩ := rnN_of h
  have := cnt_lt h1 h2
  unfold cK
  omega
theorem nxr_lt {so run act : Nat} (h : run < 8) : nxr A so run act < 8 := by
  unfold nxr th
  split
  · omega
  · split <;> omega
theorem nxr_z {so run act : Nat} (h : run = 0 ∨ 0 < cK A 3) : nxr A so run act = 0 ∨ 0 < cK A 3 := by
  by_cases e : 0 < cK A 3
  · exact Or.inr e
  · left
    have hr : run = 0 := h.resolve_right e
    unfold nxr th
    split
    · rfl
    · rw [if_neg]
      · exact hr
      · rintro ⟨h1, -⟩; exact e (rn_pos h1)
theorem two_le {n m : Nat} (h : n ≤ m) : 2 ^ n ≤ 2 ^ m := Nat.pow_le_pow_right (by omega) h
theorem K32 (a : AOK A) : 2 ^ cK A 1 ≤ 32 := two_le a.2.2.1.2.1
theorem F4 (a : AOK A) : 2 ^ cK A 0 ≤ 4 := two_le a.2.2.1.1
theorem S4 (a : AOK A) : 2 ^ nS A S ≤ 4 := two_le (nS_le a)
theorem tos_at (a : AOK A) {h s f act : Nat} (v : vst A s) (hf : s / 256 < 2 ^ nS A S) : tos A S h s f act % 32 = nxk A (so A f (s % 32) (s / 32 % 8)) (s % 32) (s / 32 % 8) act ∧ tos A S h s f act / 32 % 8 = nxr A (so A f (s % 32) (s / 32 % 8)) (s / 32 % 8) act ∧ tos A S h s f act / 256 = (s / 256 ||| br A S (nP A) h act) ∧ tos A S h s f act / 256 < 2 ^ nS A S := by
  have h1 := nxk_lt a (so := so A f (s % 32) (s / 32 % 8)) (run := s / 32 % 8) (act := act) v.1
  have h2 := nxr_lt (A := A) (so := so A f (s % 32) (s / 32 % 8)) (run := s / 32 % 8) (act := act) (by omega)
  have h3 : s / 256 ||| br A S (nP A) h act < 2 ^ nS A S := Nat.or_lt_two_pow hf (br_lt _ _ _)
  have h4 := K32 a
  unfold tos
  refine ⟨by omega, by omega, by omega, ?_⟩
  rw [show (nxk A (so A f (s % 32) (s / 32 % 8)) (s % 32) (s / 32 % 8) act + 32 * nxr A (so A f (s % 32) (s / 32 % 8)) (s / 32 % 8) act + 256 * (s / 256 ||| br A S (nP A) h act)) / 256 = (s / 256 ||| br A S (nP A) h act) by omega]
  exact h3
theorem tos_v (a : AOK A) {h s f act : Nat} (v : vst A s) (hf : s / 256 < 2 ^ nS A S) : vst A (tos A S h s f act) := by
  obtain ⟨e1, e2, -, -⟩ := tos_at (h := h) (f := f) (act := act) a v hf
  unfold vst
  rw [e1, e2]
  exact ⟨nxk_lt a v.1, nxr_z v.2⟩
theorem cst_le (a : AOK A) (h act : Nat) : cst A S x h act ≤ 99 := by
  unfold cst
  split
  · rename_i h1; exact (a.2.2.2.1 act h1.1).1
  · omega
theorem EG_ok (a : AOK A) : GOK (EG A S x) := by
  intro h s f act t c e
  obtain ⟨⟨⟨v, hf⟩, okf, oka⟩, rfl, rfl⟩ := EG_iff.mp e
  obtain ⟨e1, e2, e3, e4⟩ := tos_at (h := h) (f := f) (act := act) a v hf
  have h4 := S4 (S := S) a
  have h5 := F4 a
  have h6 := okf.1
  have h7 := oka.1
  have h8 := a.1.2.1
  refine ⟨by omega, by omega, by omega, by omega, cst_le a _ _⟩
theorem EG_v (a : AOK A) : VOK (EG A S x) (glS A S) (Dd A S) (Vv A S) := by
  refine ⟨fun s => Or.inl rfl, fun h s f act t c e => ?_, fun s => ?_⟩
  · obtain ⟨⟨⟨v, hf⟩, okf, oka⟩, rfl, rfl⟩ := EG_iff.mp e
    obtain ⟨e1, e2, e3, e4⟩ := tos_at (h := h) (f := f) (act := act) a v hf
    have key : ∀ g, g < h → ((s / 256 ||| br A S (nP A) h act) &&& du A S (nP A) g = du A S (nP A) g ↔ s / 256 &&& du A S (nP A) g = du A S (nP A) g) := by
      intro g hg
      rw [sub_tb, sub_tb]
      refine ⟨fun H j hj => ?_, fun H j hj => ?_⟩
      · have := H j hj
        rw [Nat.testBit_or, Bool.or_eq_true] at this
        rcases this with h1 | h1
        · exact h1
        · obtain ⟨k1, a1, a2, a3⟩ := br_tb.mp h1
          obtain ⟨k2, b1, b2, b3⟩ := du_tb.mp hj
          have := spn_inj ⟨a2.1, a2.2.1⟩ ⟨b2.1, b2.2.1⟩ (by omega)
          subst this
          omega
      · rw [Nat.testBit_or, H j hj]; rfl
    unfold Vv Dd
    rw [decide_eq_true_iff, e3]
    constructor
    · rintro (h0 | ⟨h1, h2⟩)
      · omega
      · refine ⟨Or.inr ⟨hf, fun g hg => (key g hg).mp (h2 g (by omega))⟩, h2 h (by omega)⟩
    · rintro ⟨h1, h2⟩
      refine Or.inr ⟨by rw [← e3]; exact e4, fun g hg => ?_⟩
      by_cases eg : g = h
      · subst eg; exact h2
      · have hgh : g < h := by omega
        rcases h1 with h1 | h1
        · omega
        · exact (key g hgh).mpr (h1.2 g hgh)
  · unfold Vv glS
    rw [decide_eq_true_iff]
    constructor
    · rintro (h0 | ⟨h1, h2⟩)
      · omega
      · apply Nat.eq_of_testBit_eq
        intro j
        rw [Nat.testBit_two_pow_sub_one]
        by_cases hj : j < nS A S
        · rw [decide_eq_true hj]
          obtain ⟨k, k1, k2, k3⟩ := spn_sur hj
          have hq := (a.2.2.2.2.1 k k1).2.2.1
          exact sub_tb.mp (h2 (pq A k) hq) j (du_tb.mpr ⟨k, k1, ⟨k2.1, k2.2, rfl⟩, k3⟩)
        · rw [decide_eq_false hj]
          exact Nat.testBit_lt_two_pow (Nat.lt_of_lt_of_le h1 (two_le (by omega)))
    · intro e
      have hp := Nat.two_pow_pos (nS A S)
      refine Or.inr ⟨by omega, fun g hg => ?_⟩
      rw [sub_tb]
      intro j hj
      rw [e, Nat.testBit_two_pow_sub_one, decide_eq_true_iff]
      obtain ⟨k, k1, k2, k3⟩ := du_tb.mp hj
      have := spn_lt k1 ⟨k2.1, k2.2.1⟩
      unfold nS
      omega
theorem EG_fw (a : AOK A) {h s : Nat} (hf : Fw (EG A S x) (2 ^ cK A 1) h s < NV) : vst A s ∧ s / 256 < 2 ^ nS A S := by
  cases h with
  | zero =>
    unfold Fw at hf
    have := K32 a
    split at hf
    · rename_i h1
      refine ⟨⟨by omega, Or.inl (by omega)⟩, ?_⟩
      have := Nat.two_pow_pos (nS A S)
      omega
    · exact absurd hf (Nat.lt_irrefl _)
  | succ h =>
    obtain ⟨s', f, act, c, e, -, -⟩ := Fw_back hf
    obtain ⟨⟨⟨v, hf2⟩, okf, oka⟩, rfl, rfl⟩ := EG_iff.mp e
    exact ⟨tos_v a v hf2, (tos_at (h := h) (f := f) (act := act) a v hf2).2.2.2⟩
theorem prn_fw (a : AOK A) {h s : Nat} (hf : Fw (prn (EG A S x) (Dd A S)) (2 ^ cK A 1) h s < NV) : vst A s ∧ s / 256 < 2 ^ nS A S := by
  obtain ⟨-, h2⟩ := Fp_V (EG_v a) hf
  rw [h2] at hf
  exact EG_fw a hf
theorem prn_ok {E : GR} {D : Nat → Nat → Bool} (g : GOK E) : GOK (prn E D) := fun h s f a t c e => g h s f a t c (prn_iff.mp e).1
end GR1
end
