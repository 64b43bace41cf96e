section
/-! ===== more of reckoning; loops ===== -/
theorem nI_shlm {a k : Nat} (h : k < 32) : nI a <<< (nI k &&& 31) = nI (a * 2 ^ k) := by rw [nI_shl h, Nat.shiftLeft_eq]
theorem nI_shrd {a k : Nat} (h1 : a < 2 ^ 31) (h : k < 32) : nI a >>> (nI k &&& 31) = nI (a / 2 ^ k) := by rw [nI_shr h1 h, Nat.shiftRight_eq_div_pow]
theorem or_lo (a b k : Nat) (h : b < 2 ^ k) : a * 2 ^ k ||| b = a * 2 ^ k + b := by
  rw [Nat.mul_comm, ← Nat.two_pow_add_eq_or_of_lt h]
theorem nI_or8 {a b : Nat} (h : b < 256) : nI (a * 256) ||| nI b = nI (a * 256 + b) := by
  rw [nI_or, show (256 : Nat) = 2 ^ 8 from rfl, or_lo a b 8 (by omega)]
theorem nI_or8r {a b : Nat} (h : b < 256) : nI b ||| nI (a * 256) = nI (a * 256 + b) := by
  rw [nI_or, Nat.or_comm, show (256 : Nat) = 2 ^ 8 from rfl, or_lo a b 8 (by omega)]
theorem nI_or5r {a b : Nat} (h : b < 32) : nI b ||| nI (a * 32) = nI (a * 32 + b) := by
  rw [nI_or, Nat.or_comm, show (32 : Nat) = 2 ^ 5 from rfl, or_lo a b 5 (by omega)]
theorem nI_and255 (a : Nat) : nI a &&& nI 255 = nI (a % 256) := by
  rw [nI_and, show (255 : Nat) = 2 ^ 8 - 1 from rfl, Nat.and_two_pow_sub_one_eq_mod]
theorem nI_and31 (a : Nat) : nI a &&& nI 31 = nI (a % 32) := by
  rw [nI_and, show (31 : Nat) = 2 ^ 5 - 1 from rfl, Nat.and_two_pow_sub_one_eq_mod]
theorem nI_and7 (a : Nat) : nI a &&& nI 7 = nI (a % 8) := by
  rw [nI_and, show (7 : Nat) = 2 ^ 3 - 1 from rfl, Nat.and_two_pow_sub_one_eq_mod]
theorem nI_and1 (a : Nat) : nI a &&& nI 1 = nI (a % 2) := by
  rw [nI_and, show (1 : Nat) = 2 ^ 1 - 1 from rfl, Nat.and_two_pow_sub_one_eq_mod]
theorem nI_andK (a k : Nat) : nI a &&& nI (2 ^ k - 1) = nI (a % 2 ^ k) := by
  rw [nI_and, Nat.and_two_pow_sub_one_eq_mod]
theorem tb_0 (x j : Nat) : (x / 2 ^ j % 2 = 0) = (x.testBit j = false) := by
  rw [Nat.testBit_eq_decide_div_mod_eq, decide_eq_false_iff_not]
  apply propext
  omega
theorem tb_1 (x j : Nat) : (x / 2 ^ j % 2 = 1) = (x.testBit j = true) := by
  rw [Nat.testBit_eq_decide_div_mod_eq, decide_eq_true_iff]
theorem tb_set (x i j : Nat) : (x ||| 2 ^ i).testBit j = (x.testBit j || decide (i = j)) := by
  rw [Nat.testBit_or, Nat.testBit_two_pow]
theorem tb_lt {x n j : Nat} (h : x < 2 ^ n) (hj : n ≤ j) : x.testBit j = false := Nat.testBit_lt_two_pow (Nat.lt_of_lt_of_le h (Nat.pow_le_pow_right (by omega) hj))
theorem ite_nI {c : Prop} [Decidable c] (a b : Nat) : (if c then nI a else nI b) = nI (if c then a else b) := by split <;> rfl
theorem nI_m2 {a : Nat} (h : a < 2 ^ 31) : (nI a = -2) = False := by
  refine eq_false fun e => ?_
  have := nI_toInt h
  rw [e] at this
  have h3 : (-2 : Int32).toInt = -2 := by decide
  omega
theorem m1_z : ((-1 : Int32) = 0) = False := by decide
theorem m1_lt0 : ((-1 : Int32) < 0) = True := by decide
theorem m1_m1 : ((-1 : Int32) = -1) = True := by decide
theorem nI1_z : (nI 1 = 0) = False := by decide
theorem nI0_z : (nI 0 = 0) = True := by decide
theorem b2_0 : b2 false = nI 0 := rfl
theorem b2_1 : b2 true = nI 1 := rfl
theorem zr_b2 (b : Bool) (σ : ST) : zr (b2 b) σ = some (b2 b, σ) := zr_s (b2_01 b) σ
/-! reading behind writing -/
theorem I_at (σ : ST) (a k : Nat) (v : Int32) : (setI σ a k v).1 a k = v := by simp [setI, upd]
theorem I_ne {σ : ST} {a b k j : Nat} {v : Int32} (h : b ≠ a ∨ j ≠ k) : (setI σ a k v).1 b j = σ.1 b j := by
  unfold setI upd
  by_cases e : b = a
  · subst e
    have : j ≠ k := h.resolve_left (fun q => q rfl)
    simp [this]
  · simp [e]
theorem J_at (σ : ST) (a k : Nat) (v : Int64) : (setJ σ a k v).2.1 a k = v := by simp [setJ, vp_updL]
theorem J_ne {σ : ST} {a b k j : Nat} {v : Int64} (h : b ≠ a ∨ j ≠ k) : (setJ σ a k v).2.1 b j = σ.2.1 b j := by
  unfold setJ vp_updL
  by_cases e : b = a
  · subst e
    have : j ≠ k := h.resolve_left (fun q => q rfl)
    simp [this]
  · simp [e]
theorem T_at (σ : ST) (a k : Nat) (v : Option Nat) : (setT σ a k v).2.2.1 a k = v := by simp [setT, va_up]
theorem T_ne {σ : ST} {a b k j : Nat} {v : Option Nat} (h : b ≠ a ∨ j ≠ k) : (setT σ a k v).2.2.1 b j = σ.2.2.1 b j := by
  unfold setT va_up
  by_cases e : b = a
  · subst e
    have : j ≠ k := h.resolve_left (fun q => q rfl)
    simp [this]
  · simp [e]
theorem Fr.I {W : Nat → Prop} {σ s : ST} (h : Fr W σ s) {x : Nat} (hx : ¬ W x) (k : Nat) : s.1 x k = σ.1 x k := by rw [(h.1 x hx).1]
theorem Fr.J {W : Nat → Prop} {σ s : ST} (h : Fr W σ s) {x : Nat} (hx : ¬ W x) (k : Nat) : s.2.1 x k = σ.2.1 x k := by rw [(h.1 x hx).2.1]
theorem Fr.T {W : Nat → Prop} {σ s : ST} (h : Fr W σ s) {x : Nat} (hx : ¬ W x) (k : Nat) : s.2.2.1 x k = σ.2.2.1 x k := by rw [(h.1 x hx).2.2]
/-! loops that count up -/
theorem loopE {β A : Type} (F : Nat → Nat → A → Option β) (N : Nat) (I : Nat → A → Prop) (k : A → Option β) (hs : ∀ n i x, i < N → I i x → ∀ Q : A → Prop, (∀ y, I (i + 1) y → Q y) → ∃ y, F (n + 1) i x = F n (i + 1) y ∧ Q y) (hx : ∀ n x, I N x → F (n + 1) N x = k x) : ∀ n i x, N < n + i → i ≤ N → I i x → ∃ y, F n i x = k y ∧ I N y := by
  intro n
  induction n with
  | zero => intro i x h1 h2 _; omega
  | succ n ih =>
    intro i x h1 h2 h3
    by_cases hi : i < N
    · obtain ⟨y, e, hy⟩ := hs n i x hi h3 _ (fun _ h => h)
      obtain ⟨z, e2, hz⟩ := ih (i + 1) y (by omega) (by omega) hy
      exact ⟨z, e.trans e2, hz⟩
    · have : i = N := by omega
      subst this
      exact ⟨x, hx n x h3, h3⟩
/-- the same, where a step may also end the loop with an answer -/
theorem loopX {β A : Type} (F : Nat → Nat → A → Option β) (N : Nat) (I : Nat → A → Prop) (J : Option β → Prop) (hs : ∀ n i x, i < N → I i x → (∃ y, F (n + 1) i x = F n (i + 1) y ∧ I (i + 1) y) ∨ J (F (n + 1) i x)) (hx : ∀ n x, I N x → J (F (n + 1) N x)) : ∀ n i x, N < n + i → i ≤ N → I i x → J (F n i x) := by
  intro n
  induction n with
  | zero => intro i x h1 h2 _; omega
  | succ n ih =>
    intro i x h1 h2 h3
    by_cases hi : i < N
    · rcases hs n i x hi h3 with ⟨y, e, hy⟩ | h
      · rw [e]
        exact ih (i + 1) y (by omega) (by omega) hy
      · exact h
    · have : i = N := by omega
      subst this
      exact hx n x h3
theorem FU_eq : FU = 20000 := rfl
/-! sums over numbers below n -/
def sm : Nat → (Nat → Nat) → Nat
  | 0, _ => 0
  | n + 1, g => sm n g + g n
theorem sm_congr {n : Nat} {g k : Nat → Nat} (h : ∀ i, i < n → g i = k i) : sm n g = sm n k := by
  induction n with
  | zero => rfl
  | succ n ih => rw [sm, sm, ih (fun i hi => h i (by omega)), h n (by omega)]
theorem sm_zero {n : Nat} {g : Nat → Nat} (h : ∀ i, i < n → g i = 0) : sm n g = 0 := by
  induction n with
  | zero => rfl
  | succ n ih => rw [sm, ih (fun i hi => h i (by omega)), h n (by omega)]
theorem sm_add (n : Nat) (g k : Nat → Nat) : sm n (fun i => g i + k i) = sm n g + sm n k := by
  induction n with
  | zero => rfl
  | succ n ih => simp only [sm, ih]; omega
theorem sm_swap (n m : Nat) (g : Nat → Nat → Nat) : sm n (fun i => sm m (fun j => g i j)) = sm m (fun j => sm n (fun i => g i j)) := by
  induction n with
  | zero => simp only [sm]; rw [sm_zero]; intros; rfl
  | succ n ih => simp only [sm, ih]; rw [sm_add]
theorem sm_mul (n c : Nat) (g : Nat → Nat) : sm n (fun i => c * g i) = c * sm n g := by
  induction n with
  | zero => rfl
  | succ n ih => simp only [sm, ih, Nat.mul_add]
theorem sm_mulr (n c : Nat) (g : Nat → Nat) : sm n (fun i => g i * c) = sm n g * c := by
  induction n with
  | zero => simp [sm]
  | succ n ih => simp only [sm, ih, Nat.add_mul]
theorem sm_one {n j : Nat} {g : Nat → Nat} (hj : j < n) (h : ∀ i, i < n → i ≠ j → g i = 0) : sm n g = g j := by
  induction n with
  | zero => omega
  | succ n ih =>
    rw [sm]
    by_cases e : j = n
    · subst e
      rw [sm_zero (fun i hi => h i (by omega) (by omega))]; omega
    · rw [ih (by omega) (fun i hi hne => h i (by omega) hne), h n (by omega) (by omega)]; rfl
/-- one place changed -/
theorem sm_upd {n j : Nat} {g k : Nat → Nat} (hj : j < n) (h : ∀ i, i < n → i ≠ j → k i = g i) : sm n k + g j = sm n g + k j := by
  induction n with
  | zero => omega
  | succ n ih =>
    simp only [sm]
    by_cases e : j = n
    · subst e
      rw [sm_congr (fun i hi => h i (by omega) (by omega))]; omega
    · have := ih (by omega) (fun i hi hne => h i (by omega) hne)
      rw [h n (by omega) (by omega)]; omega
theorem sm_pos {n : Nat} {g : Nat → Nat} : 0 < sm n g ↔ ∃ i, i < n ∧ 0 < g i := by
  induction n with
  | zero => simp [sm]
  | succ n ih =>
    rw [sm]
    constructor
    · intro h
      by_cases e : 0 < g n
      · exact ⟨n, by omega, e⟩
      · obtain ⟨i, h1, h2⟩ := ih.mp (by omega)
        exact ⟨i, by omega, h2⟩
    · rintro ⟨i, h1, h2⟩
      by_cases e : i = n
      · subst e; omega
      · have := ih.mpr ⟨i, by omega, h2⟩; omega
end
section
/-! conditions that are known -/
theorem ltN_T {a b : Nat} (h : a < b) : (a < b) = True := eq_true h
theorem ltN_F {a b : Nat} (h : b ≤ a) : (a < b) = False := eq_false (by omega)
theorem eqN_T {a b : Nat} (h : a = b) : (a = b) = True := eq_true h
theorem eqN_F {a b : Nat} (h : a ≠ b) : (a = b) = False := eq_false h
theorem b2_f0 : (b2 false = 0) = True := by decide
theorem b2_t0 : (b2 true = 0) = False := by decide
/-! division with a rest -/
theorem dm_d {P r k : Nat} (h : k < P) : (r * P + k) / P = r := by
  rw [Nat.mul_comm, Nat.mul_add_div (by omega), Nat.div_eq_of_lt h]; rfl
theorem dm_m {P r k : Nat} (h : k < P) : (r * P + k) % P = k := by
  rw [Nat.mul_comm, Nat.mul_add_mod, Nat.mod_eq_of_lt h]
/-! sets of numbers as bits -/
def msk (f : Nat → Bool) : Nat → Nat
  | 0 => 0
  | n + 1 => if f n = true then msk f n ||| 2 ^ n else msk f n
theorem msk_lt (f : Nat → Bool) : ∀ n, msk f n < 2 ^ n := by
  intro n
  induction n with
  | zero => simp [msk]
  | succ n ih =>
    rw [msk]
    have : 2 ^ n < 2 ^ (n + 1) := Nat.pow_lt_pow_right (by omega) (by omega)
    split
    · exact Nat.or_lt_two_pow (by omega) this
    · omega
theorem msk_tb (f : Nat → Bool) (j : Nat) : ∀ n, (msk f n).testBit j = (decide (j < n) && f j) := by
  intro n
  induction n with
  | zero => simp [msk]
  | succ n ih =>
    rw [msk]
    by_cases e : j = n
    · subst e
      have hb : (msk f j).testBit j = false := by rw [ih]; simp
      split
      · rename_i h; rw [tb_set, hb, h]; simp
      · rename_i h; rw [hb]; simp at h; simp [h]
    · have e2 : decide (j < n + 1) = decide (j < n) := by
        by_cases h : j < n
        · rw [decide_eq_true h, decide_eq_true (by omega)]
        · rw [decide_eq_false h, decide_eq_false (by omega)]
      rw [e2]
      split
      · rw [tb_set, ih, decide_eq_false (show ¬ n = j by omega)]; simp
      · exact ih
theorem msk_congr {f g : Nat → Bool} : ∀ {n : Nat}, (∀ i, i < n → f i = g i) → msk f n = msk g n := by
  intro n
  induction n with
  | zero => intro _; rfl
  | succ n ih =>
    intro h
    rw [msk, msk, ih (fun i hi => h i (by omega)), h n (by omega)]
end
section
theorem loopC {β : Type} (F : Nat → Nat → β) (N : Nat) (r : β) (hs : ∀ n i, i < N → F (n + 1) i = F n (i + 1)) (hx : ∀ n, F (n + 1) N = r) : ∀ n i, N < n + i → i ≤ N → F n i = r := by
  intro n
  induction n with
  | zero => intro i h1 h2; omega
  | succ n ih =>
    intro i h1 h2
    by_cases hi : i < N
    · rw [hs n i hi]; exact ih (i + 1) (by omega) (by omega)
    · have : i = N := by omega
      subst this
      exact hx n
/-- the same, where nothing before i has ended it -/
theorem loopD {β : Type} (F : Nat → Nat → β) (N : Nat) (I : Nat → Prop) (r : β) (hs : ∀ n i, i < N → I i → (F (n + 1) i = F n (i + 1) ∧ I (i + 1)) ∨ F (n + 1) i = r) (hx : ∀ n, I N → F (n + 1) N = r) : ∀ n i, N < n + i → i ≤ N → I i → F n i = r := by
  intro n
  induction n with
  | zero => intro i h1 h2; omega
  | succ n ih =>
    intro i h1 h2 h3
    by_cases hi : i < N
    · rcases hs n i hi h3 with ⟨e, h4⟩ | e
      · rw [e]; exact ih (i + 1) (by omega) (by omega) h4
      · exact e
    · have : i = N := by omega
      subst this
      exact hx n h3
def anyN (m : Nat → Bool) : Nat → Bool
  | 0 => false
  | n + 1 => anyN m n || m n
theorem anyN_iff {m : Nat → Bool} {n : Nat} : anyN m n = true ↔ ∃ i, i < n ∧ m i = true := by
  induction n with
  | zero => simp [anyN]
  | succ n ih =>
    rw [anyN, Bool.or_eq_true, ih]
    constructor
    · rintro (⟨i, h1, h2⟩ | h)
      · exact ⟨i, by omega, h2⟩
      · exact ⟨n, by omega, h⟩
    · rintro ⟨i, h1, h2⟩
      by_cases e : i = n
      · subst e; exact Or.inr h2
      · exact Or.inl ⟨i, by omega, h2⟩
theorem anyN_congr {m k : Nat → Bool} {n : Nat} (h : ∀ i, i < n → m i = k i) : anyN m n = anyN k n := by
  induction n with
  | zero => rfl
  | succ n ih => rw [anyN, anyN, ih (fun i hi => h i (by omega)), h n (by omega)]
end
section
theorem nI_clr (x y : Nat) : nI x &&& (nI y ^^^ (-1)) = nI (x &&& (y ^^^ 4294967295)) := by
  rw [show (-1 : Int32) = nI 4294967295 from by decide, nI_xor, nI_and]
theorem clr_tb {x j a : Nat} (h : x < 4294967296) : (x &&& (2 ^ j ^^^ 4294967295)).testBit a = (x.testBit a && !decide (j = a)) := by
  rw [Nat.testBit_and, Nat.testBit_xor, Nat.testBit_two_pow, show (4294967295 : Nat) = 2 ^ 32 - 1 from rfl, Nat.testBit_two_pow_sub_one]
  by_cases ha : a < 32
  · rw [decide_eq_true ha, Bool.xor_true]
  · rw [Nat.testBit_lt_two_pow (Nat.lt_of_lt_of_le h (show 2 ^ 32 ≤ 2 ^ a from Nat.pow_le_pow_right (by omega) (by omega)))]
    simp
theorem clr_le (x y : Nat) : x &&& (y ^^^ 4294967295) ≤ x := Nat.and_le_left
theorem and_tb (x j a : Nat) : (x &&& 2 ^ j).testBit a = (x.testBit a && decide (j = a)) := by rw [Nat.testBit_and, Nat.testBit_two_pow]
theorem pow8 : (2 : Nat) ^ 8 = 256 := by decide
theorem pow5 : (2 : Nat) ^ 5 = 32 := by decide
end
