section
/-! ===== the looks of an hour ===== -/
variable {A : AW} {σ : ST} {d S h : Nat} {x : Nat × Nat} {C : Nat → Nat → Nat}
def LW (A : AW) : Nat := RR A * 2 ^ cK A 1
def FD (d : Nat) (A : AW) (S : Nat) (σ : ST) : Prop := σ.1 d 7 = nI (cK A 1) ∧ σ.1 d 8 = nI (LW A) ∧ σ.1 d 9 = nI (2 ^ nS A S) ∧ σ.1 d 10 = nI ((2 ^ nS A S - 1) * 256 + LW A)
/-- what a walk over hour h stands on; C: the prices at its states, by SPAN bits and low part -/
def BS (d : Nat) (A : AW) (S : Nat) (x : Nat × Nat) (h : Nat) (C : Nat → Nat → Nat) (σ : ST) : Prop := CR 2 A σ ∧ TB A σ ∧ GX (d + 8) A S x σ ∧ FD d A S σ ∧ ∀ fl low, fl < 2 ^ nS A S → low < LW A → σ.1 (d + 1) (h * 1024 + (fl * 256 + low)) = nI (C fl low)
def trL (A : AW) (l : Nat) : Nat := tr A (l / 256) (l % 256 % 2 ^ cK A 1) (l % 256 / 2 ^ cK A 1)
theorem LW_256 (a : AOK A) : LW A ≤ 256 := LW_le a
theorem lk_at {f low : Nat} (h : low < 256) : (f * 256 + low) / 256 = f ∧ (f * 256 + low) % 256 = low := by omega
theorem TB_tr (a : AOK A) (t : TB A σ) {f low : Nat} (hf : f < 2 ^ cK A 0) (hl : low < LW A) : σ.1 195 (f * 256 + low) = nI (trL A (f * 256 + low)) ∧ ∀ act, act < 7 → σ.1 196 ((f * 256 + low) * 7 + act) = nv A f (low % 2 ^ cK A 1) (low / 2 ^ cK A 1) act := by
  have h2 := LW_256 a
  obtain ⟨q1, q2, q3⟩ := lo_of (Nat.two_pow_pos (cK A 1)) hl
  have := t f (low % 2 ^ cK A 1) (low / 2 ^ cK A 1) hf q2 q1
  rw [q3] at this
  unfold trL
  rw [(lk_at (f := f) (show low < 256 by omega)).1, (lk_at (f := f) (show low < 256 by omega)).2]
  exact this
theorem trL_lt (a : AOK A) (l : Nat) : trL A l < 2 ^ 17 := tr_lt a
def rch (A : AW) (S : Nat) (C : Nat → Nat → Nat) (low : Nat) : Bool := anyN (fun fl => decide (C fl low < 1048576)) (2 ^ nS A S)
theorem t_isReached (a : AOK A) (hd : d = 197 ∨ d = 213) (b : BS d A S x h C σ) (hh : h < 12) (hC : ∀ fl low, C fl low ≤ 1048576) {low : Nat} (hl : low < LW A) : f_X2_isReached d (nI h) (nI low) σ = some (b2 (rch A S C low), σ) := by
  obtain ⟨-, -, -, ⟨-, -, f9, -⟩, bc⟩ := b
  have h4 := S4 (S := S) a
  have hL := LW_256 a
  unfold f_X2_isReached
  refine loopD (fun n i => f_X2_isReached_2 d n (nI h) (nI low) (nI i) σ) (2 ^ nS A S) (fun i => anyN (fun fl => decide (C fl low < 1048576)) i = false) _ ?_ ?_ FU 0 (by rw [FU_eq]; omega) (Nat.zero_le _) rfl
  · intro n i hi hI
    have bi := bc i low hi hl
    have hci := hC i low
    show (f_X2_isReached_2 d (n + 1) (nI h) (nI low) (nI i) σ = f_X2_isReached_2 d n (nI h) (nI low) (nI (i + 1)) σ ∧ _) ∨ f_X2_isReached_2 d (n + 1) (nI h) (nI low) (nI i) σ = _
    by_cases e : C i low < 1048576
    · right
      rw [f_X2_isReached_2]
      simp (disch := omega) only [bind_s, bd2_s, rdI_ok, rdJ_ok, rdT_ok, ixR_ok, wrI_ok, wrJ_ok, wrT_none, pfI_s, pfJ_s, pfZ_0, pfZ_1, zr_b2, nl_n, nl_s, nI_add, nI_mul, nI_sub, nI_shlm, nI_shrd, nI_or8, nI_or8r, nI_or5r, nI_and255, nI_and31, nI_and7, nI_and1, nI_andK, nI_clr, Nat.one_mul, nI_eqz, nI_eqq, nI_ltq, nI_ltz, nI_zlt, nI_nm1, nI_m2, m1_z, m1_lt0, m1_m1, b2_z, nI1_z, nI0_z, tb_0, tb_1, ite_nI, I_at, I_ne, J_at, J_ne, J_setI, I_setJ, ↓reduceIte, ltN_T, ltN_F, eqN_T, eqN_F, pow8, pow5, b2_f0, b2_t0, reduceCtorEq, Bool.false_eq_true, Bool.true_eq_false, eq_self, false_and, true_and, and_false, and_true, not_false_eq_true, not_true_eq_false, f9, bi]
      have : rch A S C low = true := anyN_iff.mpr ⟨i, hi, decide_eq_true e⟩
      rw [this]; rfl
    · left
      refine ⟨?_, by rw [anyN, hI, decide_eq_false e]; rfl⟩
      rw [f_X2_isReached_2]
      simp (disch := omega) only [bind_s, bd2_s, rdI_ok, rdJ_ok, rdT_ok, ixR_ok, wrI_ok, wrJ_ok, wrT_none, pfI_s, pfJ_s, pfZ_0, pfZ_1, zr_b2, nl_n, nl_s, nI_add, nI_mul, nI_sub, nI_shlm, nI_shrd, nI_or8, nI_or8r, nI_or5r, nI_and255, nI_and31, nI_and7, nI_and1, nI_andK, nI_clr, Nat.one_mul, nI_eqz, nI_eqq, nI_ltq, nI_ltz, nI_zlt, nI_nm1, nI_m2, m1_z, m1_lt0, m1_m1, b2_z, nI1_z, nI0_z, tb_0, tb_1, ite_nI, I_at, I_ne, J_at, J_ne, J_setI, I_setJ, ↓reduceIte, ltN_T, ltN_F, eqN_T, eqN_F, pow8, pow5, b2_f0, b2_t0, reduceCtorEq, Bool.false_eq_true, Bool.true_eq_false, eq_self, false_and, true_and, and_false, and_true, not_false_eq_true, not_true_eq_false, f9, bi]
  · intro n hI
    show f_X2_isReached_2 d (n + 1) (nI h) (nI low) (nI (2 ^ nS A S)) σ = _
    rw [f_X2_isReached_2]
    simp (disch := omega) only [bind_s, bd2_s, rdI_ok, rdJ_ok, rdT_ok, ixR_ok, wrI_ok, wrJ_ok, wrT_none, pfI_s, pfJ_s, pfZ_0, pfZ_1, zr_b2, nl_n, nl_s, nI_add, nI_mul, nI_sub, nI_shlm, nI_shrd, nI_or8, nI_or8r, nI_or5r, nI_and255, nI_and31, nI_and7, nI_and1, nI_andK, nI_clr, Nat.one_mul, nI_eqz, nI_eqq, nI_ltq, nI_ltz, nI_zlt, nI_nm1, nI_m2, m1_z, m1_lt0, m1_m1, b2_z, nI1_z, nI0_z, tb_0, tb_1, ite_nI, I_at, I_ne, J_at, J_ne, J_setI, I_setJ, ↓reduceIte, ltN_T, ltN_F, eqN_T, eqN_F, pow8, pow5, b2_f0, b2_t0, reduceCtorEq, Bool.false_eq_true, Bool.true_eq_false, eq_self, false_and, true_and, and_false, and_true, not_false_eq_true, not_true_eq_false, f9]
    unfold rch
    rw [hI]; rfl
theorem t_goesOn (a : AOK A) (hd : d = 197 ∨ d = 213) (t : TB A σ) {look first : Nat} {M : List Nat} (hf : first + M.length ≤ 1024) (hlook : look / 256 < 2 ^ cK A 0 ∧ look % 256 < LW A) (hM : ∀ j, j < M.length → σ.1 (d + 3) (first + j) = nI (M.getD j 0) ∧ M.getD j 0 / 256 < 2 ^ cK A 0 ∧ M.getD j 0 % 256 < LW A) : f_X2_goesOnAsOne d (nI look) (nI first) (nI (first + M.length)) σ = some (b2 (anyN (fun j => decide (trL A (M.getD j 0) / 1024 = trL A look / 1024)) M.length), σ) := by
  have h4 := F4 a
  have hL := LW_256 a
  have e2 : σ.1 195 look = nI (trL A look) := by
    have := (TB_tr a t hlook.1 hlook.2).1
    rwa [show look / 256 * 256 + look % 256 = look by omega] at this
  have l2 := trL_lt a look
  unfold f_X2_goesOnAsOne
  refine loopD (fun n j => f_X2_goesOnAsOne_3 d n (nI look) (nI (first + M.length)) (nI (first + j)) σ) M.length (fun i => anyN (fun j => decide (trL A (M.getD j 0) / 1024 = trL A look / 1024)) i = false) _ ?_ ?_ FU 0 (by rw [FU_eq]; omega) (Nat.zero_le _) rfl
  · intro n j hj hI
    obtain ⟨m1, m2, m3⟩ := hM j hj
    have e1 : σ.1 195 (M.getD j 0) = nI (trL A (M.getD j 0)) := by
      have := (TB_tr a t m2 m3).1
      rwa [show M.getD j 0 / 256 * 256 + M.getD j 0 % 256 = M.getD j 0 by omega] at this
    have l1 := trL_lt a (M.getD j 0)
    show (f_X2_goesOnAsOne_3 d (n + 1) (nI look) (nI (first + M.length)) (nI (first + j)) σ = f_X2_goesOnAsOne_3 d n (nI look) (nI (first + M.length)) (nI (first + (j + 1))) σ ∧ _) ∨ f_X2_goesOnAsOne_3 d (n + 1) (nI look) (nI (first + M.length)) (nI (first + j)) σ = _
    have s1 : nI (trL A (M.getD j 0)) >>> (nI 10 &&& 31) = nI (trL A (M.getD j 0) / 1024) := nI_shrd (by omega) (by omega)
    have s2 : nI (trL A look) >>> (nI 10 &&& 31) = nI (trL A look / 1024) := nI_shrd (by omega) (by omega)
    by_cases e : trL A (M.getD j 0) / 1024 = trL A look / 1024
    · right
      rw [f_X2_goesOnAsOne_3]
      simp (disch := omega) only [bind_s, bd2_s, rdI_ok, rdJ_ok, rdT_ok, ixR_ok, wrI_ok, wrJ_ok, wrT_none, pfI_s, pfJ_s, pfZ_0, pfZ_1, zr_b2, nl_n, nl_s, nI_add, nI_mul, nI_sub, nI_shlm, nI_shrd, nI_or8, nI_or8r, nI_or5r, nI_and255, nI_and31, nI_and7, nI_and1, nI_andK, nI_clr, Nat.one_mul, nI_eqz, nI_eqq, nI_ltq, nI_ltz, nI_zlt, nI_nm1, nI_m2, m1_z, m1_lt0, m1_m1, b2_z, nI1_z, nI0_z, tb_0, tb_1, ite_nI, I_at, I_ne, J_at, J_ne, J_setI, I_setJ, ↓reduceIte, ltN_T, ltN_F, eqN_T, eqN_F, pow8, pow5, b2_f0, b2_t0, reduceCtorEq, Bool.false_eq_true, Bool.true_eq_false, eq_self, false_and, true_and, and_false, and_true, not_false_eq_true, not_true_eq_false, m1, e1, e2, s1, s2, e]
      rw [anyN_iff.mpr ⟨j, hj, decide_eq_true e⟩]; rfl
    · left
      refine ⟨?_, by rw [anyN, hI, decide_eq_false e]; rfl⟩
      rw [f_X2_goesOnAsOne_3]
      simp (disch := omega) only [bind_s, bd2_s, rdI_ok, rdJ_ok, rdT_ok, ixR_ok, wrI_ok, wrJ_ok, wrT_none, pfI_s, pfJ_s, pfZ_0, pfZ_1, zr_b2, nl_n, nl_s, nI_add, nI_mul, nI_sub, nI_shlm, nI_shrd, nI_or8, nI_or8r, nI_or5r, nI_and255, nI_and31, nI_and7, nI_and1, nI_andK, nI_clr, Nat.one_mul, nI_eqz, nI_eqq, nI_ltq, nI_ltz, nI_zlt, nI_nm1, nI_m2, m1_z, m1_lt0, m1_m1, b2_z, nI1_z, nI0_z, tb_0, tb_1, ite_nI, I_at, I_ne, J_at, J_ne, J_setI, I_setJ, ↓reduceIte, ltN_T, ltN_F, eqN_T, eqN_F, pow8, pow5, b2_f0, b2_t0, reduceCtorEq, Bool.false_eq_true, Bool.true_eq_false, eq_self, false_and, true_and, and_false, and_true, not_false_eq_true, not_true_eq_false, m1, e1, e2, s1, s2, e]
      rw [Nat.add_assoc]
  · intro n hI
    show f_X2_goesOnAsOne_3 d (n + 1) (nI look) (nI (first + M.length)) (nI (first + M.length)) σ = _
    rw [f_X2_goesOnAsOne_3]
    simp (disch := omega) only [bind_s, bd2_s, rdI_ok, rdJ_ok, rdT_ok, ixR_ok, wrI_ok, wrJ_ok, wrT_none, pfI_s, pfJ_s, pfZ_0, pfZ_1, zr_b2, nl_n, nl_s, nI_add, nI_mul, nI_sub, nI_shlm, nI_shrd, nI_or8, nI_or8r, nI_or5r, nI_and255, nI_and31, nI_and7, nI_and1, nI_andK, nI_clr, Nat.one_mul, nI_eqz, nI_eqq, nI_ltq, nI_ltz, nI_zlt, nI_nm1, nI_m2, m1_z, m1_lt0, m1_m1, b2_z, nI1_z, nI0_z, tb_0, tb_1, ite_nI, I_at, I_ne, J_at, J_ne, J_setI, I_setJ, ↓reduceIte, ltN_T, ltN_F, eqN_T, eqN_F, pow8, pow5, b2_f0, b2_t0, reduceCtorEq, Bool.false_eq_true, Bool.true_eq_false, eq_self, false_and, true_and, and_false, and_true, not_false_eq_true, not_true_eq_false]
    rw [hI]; rfl
/-! the list of looks -/
def lkI (A : AW) (S h pass low : Nat) : Nat → List Nat
  | 0 => []
  | f + 1 => if okB A S h f (low % 2 ^ cK A 1) (low / 2 ^ cK A 1) = true ∧ (pass = 0 → anyN (fun j => decide (trL A ((lkI A S h pass low f).getD j 0) / 1024 = trL A (f * 256 + low) / 1024)) (lkI A S h pass low f).length = false) then lkI A S h pass low f ++ [f * 256 + low] else lkI A S h pass low f
def lkA (A : AW) (S h pass : Nat) (C : Nat → Nat → Nat) : Nat → List Nat
  | 0 => []
  | low + 1 => if rch A S C low = true then lkA A S h pass C low ++ lkI A S h pass low (2 ^ cK A 0) else lkA A S h pass C low
theorem lkI_len {pass low : Nat} : ∀ f, (lkI A S h pass low f).length ≤ f := by
  intro f
  induction f with
  | zero => exact Nat.le_refl _
  | succ f ih =>
    rw [lkI]
    split
    · rw [List.length_append, List.length_singleton]; omega
    · omega
theorem lkA_len (a : AOK A) {pass : Nat} : ∀ low, (lkA A S h pass C low).length ≤ 4 * low := by
  intro low
  induction low with
  | zero => exact Nat.le_refl _
  | succ low ih =>
    rw [lkA]
    have h1 := lkI_len (A := A) (S := S) (h := h) (pass := pass) (low := low) (2 ^ cK A 0)
    have h4 := F4 a
    split
    · rw [List.length_append]; omega
    · omega
theorem lkI_mem {pass low l : Nat} : ∀ f, l ∈ lkI A S h pass low f → ∃ g, g < f ∧ l = g * 256 + low ∧ okB A S h g (low % 2 ^ cK A 1) (low / 2 ^ cK A 1) = true := by
  intro f
  induction f with
  | zero => intro h; simp [lkI] at h
  | succ f ih =>
    intro hl
    rw [lkI] at hl
    split at hl
    · rename_i w
      rw [List.mem_append, List.mem_singleton] at hl
      rcases hl with hl | hl
      · obtain ⟨g, h1, h2⟩ := ih hl; exact ⟨g, by omega, h2⟩
      · exact ⟨f, by omega, hl, w.1⟩
    · obtain ⟨g, h1, h2⟩ := ih hl; exact ⟨g, by omega, h2⟩
theorem lkA_mem {pass l : Nat} : ∀ n, l ∈ lkA A S h pass C n → ∃ low, low < n ∧ rch A S C low = true ∧ l ∈ lkI A S h pass low (2 ^ cK A 0) := by
  intro n
  induction n with
  | zero => intro h; simp [lkA] at h
  | succ n ih =>
    intro hl
    rw [lkA] at hl
    split at hl
    · rename_i w
      rw [List.mem_append] at hl
      rcases hl with hl | hl
      · obtain ⟨g, h1, h2⟩ := ih hl; exact ⟨g, by omega, h2⟩
      · exact ⟨n, by omega, w, hl⟩
    · obtain ⟨g, h1, h2⟩ := ih hl; exact ⟨g, by omega, h2⟩
theorem lkA_in {pass l low : Nat} : ∀ n, low < n → rch A S C low = true → l ∈ lkI A S h pass low (2 ^ cK A 0) → l ∈ lkA A S h pass C n := by
  intro n
  induction n with
  | zero => intro h; omega
  | succ n ih =>
    intro h1 h2 h3
    rw [lkA]
    by_cases e : low = n
    · subst e
      rw [if_pos h2, List.mem_append]
      exact Or.inr h3
    · have := ih (by omega) h2 h3
      split
      · exact List.mem_append.mpr (Or.inl this)
      · exact this
theorem lkI_all {pass low g : Nat} (hp : pass ≠ 0) : ∀ f, g < f → okB A S h g (low % 2 ^ cK A 1) (low / 2 ^ cK A 1) = true → g * 256 + low ∈ lkI A S h pass low f := by
  intro f
  induction f with
  | zero => intro h; omega
  | succ f ih =>
    intro h1 h2
    rw [lkI]
    by_cases e : g = f
    · subst e
      rw [if_pos ⟨h2, fun q => absurd q hp⟩]
      exact List.mem_append.mpr (Or.inr (List.mem_singleton.mpr rfl))
    · have := ih (by omega) h2
      split
      · exact List.mem_append.mpr (Or.inl this)
      · exact this
theorem lkI_rep {low g : Nat} : ∀ f, g < f → okB A S h g (low % 2 ^ cK A 1) (low / 2 ^ cK A 1) = true → ∃ l, l ∈ lkI A S h 0 low f ∧ trL A l / 1024 = trL A (g * 256 + low) / 1024 := by
  intro f
  induction f with
  | zero => intro h; omega
  | succ f ih =>
    intro h1 h2
    rw [lkI]
    by_cases e : g = f
    · subst e
      cases ha : anyN (fun j => decide (trL A ((lkI A S h 0 low g).getD j 0) / 1024 = trL A (g * 256 + low) / 1024)) (lkI A S h 0 low g).length with
      | false =>
        rw [if_pos ⟨h2, fun _ => rfl⟩]
        exact ⟨_, List.mem_append.mpr (Or.inr (List.mem_singleton.mpr rfl)), rfl⟩
      | true =>
        rw [if_neg (fun w => by have := w.2 rfl; cases this)]
        obtain ⟨j, h3, h4⟩ := anyN_iff.mp ha
        refine ⟨(lkI A S h 0 low g).getD j 0, ?_, of_decide_eq_true h4⟩
        rw [List.getD_eq_getElem?_getD, List.getElem?_eq_getElem h3]
        exact List.getElem_mem h3
    · obtain ⟨l, h3, h4⟩ := ih (by omega) h2
      split
      · exact ⟨l, List.mem_append.mpr (Or.inl h3), h4⟩
      · exact ⟨l, h3, h4⟩
theorem lkI_nd {pass low : Nat} : ∀ f, (lkI A S h pass low f).Nodup := by
  intro f
  induction f with
  | zero => exact List.nodup_nil
  | succ f ih =>
    rw [lkI]
    split
    · rw [List.nodup_append]
      refine ⟨ih, by simp, ?_⟩
      intro l hl m hm e
      rw [List.mem_singleton] at hm
      obtain ⟨g, h1, h2, -⟩ := lkI_mem f hl
      omega
    · exact ih
theorem lkA_nd {pass : Nat} : ∀ n, n ≤ 256 → (lkA A S h pass C n).Nodup := by
  intro n
  induction n with
  | zero => intro _; exact List.nodup_nil
  | succ n ih =>
    intro hn
    rw [lkA]
    split
    · rw [List.nodup_append]
      refine ⟨ih (by omega), lkI_nd _, ?_⟩
      intro l hl m hm e
      obtain ⟨low, h1, h2, h3⟩ := lkA_mem n hl
      obtain ⟨g, h4, h5, -⟩ := lkI_mem _ h3
      obtain ⟨g', h6, h7, -⟩ := lkI_mem _ hm
      omega
    · exact ih (by omega)
end
