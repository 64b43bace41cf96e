/-! ===== filling a stretch; loops that look for one ===== -/
def fillI (σ : ST) (a lo n : Nat) (v : Int32) : ST := (fun x => if x = a then fun y => if lo ≤ y ∧ y < lo + n then v else σ.1 a y else σ.1 x, σ.2)
theorem I_fill (σ : ST) (a lo n : Nat) (v : Int32) (x y : Nat) : (fillI σ a lo n v).1 x y = if x = a ∧ lo ≤ y ∧ y < lo + n then v else σ.1 x y := by
  unfold fillI
  by_cases h : x = a
  · subst h
    by_cases h2 : lo ≤ y ∧ y < lo + n <;> simp [h2]
  · simp [h]
theorem I_fill_ne (σ : ST) {a lo n : Nat} {v : Int32} {x y : Nat} (h : x ≠ a ∨ y < lo ∨ lo + n ≤ y) : (fillI σ a lo n v).1 x y = σ.1 x y := by
  rw [I_fill, if_neg]
  rintro ⟨h1, h2, h3⟩
  omega
theorem ST_ext {σ τ : ST} (h1 : ∀ x y, σ.1 x y = τ.1 x y) (h2 : σ.2 = τ.2) : σ = τ := Prod.ext (funext fun x => funext fun y => h1 x y) h2
theorem ST_extJ {σ τ : ST} (h0 : σ.1 = τ.1) (h1 : ∀ x y, σ.2.1 x y = τ.2.1 x y) (h2 : σ.2.2 = τ.2.2) : σ = τ := Prod.ext h0 (Prod.ext (funext fun x => funext fun y => h1 x y) h2)
theorem fillI_0 (σ : ST) (a lo : Nat) (v : Int32) : fillI σ a lo 0 v = σ := ST_ext (fun x y => by rw [I_fill_ne]; omega) rfl
theorem fillI_succ (σ : ST) (a lo n : Nat) (v : Int32) : setI (fillI σ a lo n v) a (lo + n) v = fillI σ a lo (n + 1) v := by
  refine ST_ext (fun x y => ?_) rfl
  rw [I_setI, I_fill, I_fill]
  by_cases h1 : x = a
  · subst h1
    by_cases h2 : y = lo + n
    · subst h2; simp
    · simp only [h2, and_false, if_false, true_and]
      by_cases h3 : lo ≤ y ∧ y < lo + n
      · rw [if_pos h3, if_pos (by omega)]
      · rw [if_neg h3, if_neg (by omega)]
  · simp [h1]
def fillJ (σ : ST) (a lo n : Nat) (v : Int64) : ST := (σ.1, fun x => if x = a then fun y => if lo ≤ y ∧ y < lo + n then v else σ.2.1 a y else σ.2.1 x, σ.2.2)
theorem J_fill (σ : ST) (a lo n : Nat) (v : Int64) (x y : Nat) : (fillJ σ a lo n v).2.1 x y = if x = a ∧ lo ≤ y ∧ y < lo + n then v else σ.2.1 x y := by
  unfold fillJ
  by_cases h : x = a
  · subst h
    by_cases h2 : lo ≤ y ∧ y < lo + n <;> simp [h2]
  · simp [h]
theorem J_fill_ne (σ : ST) {a lo n : Nat} {v : Int64} {x y : Nat} (h : x ≠ a ∨ y < lo ∨ lo + n ≤ y) : (fillJ σ a lo n v).2.1 x y = σ.2.1 x y := by
  rw [J_fill, if_neg]
  rintro ⟨h1, h2, h3⟩
  omega
theorem fillJ_0 (σ : ST) (a lo : Nat) (v : Int64) : fillJ σ a lo 0 v = σ := ST_extJ rfl (fun x y => by rw [J_fill_ne]; omega) rfl
theorem fillJ_succ (σ : ST) (a lo n : Nat) (v : Int64) : setJ (fillJ σ a lo n v) a (lo + n) v = fillJ σ a lo (n + 1) v := by
  refine ST_extJ rfl (fun x y => ?_) rfl
  rw [J_setJ, J_fill, J_fill]
  by_cases h1 : x = a
  · subst h1
    by_cases h2 : y = lo + n
    · subst h2; simp
    · simp only [h2, and_false, if_false, true_and]
      by_cases h3 : lo ≤ y ∧ y < lo + n
      · rw [if_pos h3, if_pos (by omega)]
      · rw [if_neg h3, if_neg (by omega)]
  · simp [h1]
def anyB : Nat → (Nat → Bool) → Bool
  | 0, _ => false
  | n + 1, p => anyB n p || p n
theorem anyB_iff (n : Nat) (p : Nat → Bool) : anyB n p = true ↔ ∃ j, j < n ∧ p j = true := by
  induction n with
  | zero => simp [anyB]
  | succ n ih =>
    simp only [anyB, Bool.or_eq_true, ih]
    constructor
    · rintro (⟨j, h1, h2⟩ | h)
      · exact ⟨j, by omega, h2⟩
      · exact ⟨n, by omega, h⟩
    · rintro ⟨j, h1, h2⟩
      by_cases h : j = n
      · subst h; exact Or.inr h2
      · exact Or.inl ⟨j, by omega, h2⟩
theorem anyB_f {n : Nat} {p : Nat → Bool} (h : ∀ j, j < n → p j = false) : anyB n p = false := by
  cases e : anyB n p with
  | false => rfl
  | true =>
    obtain ⟨j, h1, h2⟩ := (anyB_iff n p).mp e
    rw [h j h1] at h2
    cases h2
theorem sh8 {a b : Nat} (h : b < 256) : nI (a <<< 8) ||| nI b = nI (a * 256 + b) := by
  rw [nI_or, ← Nat.shiftLeft_add_eq_or_of_lt (i := 8) (by omega), Nat.shiftLeft_eq]
theorem c_X2_layerOf {G : GP} {σ : ST} {h : Nat} : E G mX2_layerOf (0, 0) 0 [.int (nI h)] [] (mem σ) (fun rv M' => rv = some (.int (nI (h % 2 * 1024))) ∧ M' = mem σ) := by
  refine E_iload_n (pc := 0) rfl dX2_layerOf_0 ?_
  refine E_iconst (pc := 1) 1 rfl dX2_layerOf_1 ?_
  refine E_iand (pc := 2) dX2_layerOf_2 ?_
  rw [nI_and]
  refine E_sipush (pc := 3) (nI 1024) (by decide) dX2_layerOf_3 ?_
  refine E_imul (pc := 6) dX2_layerOf_6 ?_
  rw [nI_mul]
  refine E_ireturn (pc := 7) rfl rfl dX2_layerOf_7 ?_
  rw [show h &&& 1 = h % 2 from Nat.and_one_is_mod h]
  exact ⟨rfl, rfl⟩
theorem c_X2_clearCosts {G : GP} {σ : ST} {c h S : Nat} (hc : CU c) (hS : σ.1 c 10 = nI S) (hS1 : S ≤ 1024) (hh : h ≤ 12) : E G mX2_clearCosts (0, 0) 0 [.ref c, .int (nI h), D0] [] (mem σ) (fun rv M' => rv = none ∧ M' = mem (fillI σ (c + 1) (h * 1024) S (nI 1048576))) := by
  have key : ∀ (n i : Nat), n + i = S + 1 → i ≤ S → E G mX2_clearCosts (0, 0) 2 [.ref c, .int (nI h), .int (nI i)] [] (mem (fillI σ (c + 1) (h * 1024) i (nI 1048576))) (fun rv M' => rv = none ∧ M' = mem (fillI σ (c + 1) (h * 1024) S (nI 1048576))) := by
    intro n
    induction n with
    | zero => intro i hi hle; omega
    | succ n ih =>
      intro i hi hle
      refine E_iload_n (pc := 2) rfl dX2_clearCosts_2 ?_
      refine E_aload_n (pc := 3) rfl dX2_clearCosts_3 ?_
      refine V_getI (pc := 4) f2_32 dX2_clearCosts_4 (ent_st hc.1) (by decide) rfl ((I_fill_ne _ (by omega)).trans (hS)) ?_
      refine N_icmp_ge (pc := 7) 30 dX2_clearCosts_7 (by decide) (by omega) (by omega) (fun h1_ => ?_) (fun h1_ => ?_)
      · refine E_return (pc := 30) rfl dX2_clearCosts_30 ?_
        obtain rfl : i = S := by omega
        exact ⟨rfl, rfl⟩
      · refine E_aload_n (pc := 10) rfl dX2_clearCosts_10 ?_
        refine R_getR (pc := 11) (b := c + 1) f2_9 dX2_clearCosts_11 (ent_st hc.1) (by decide) rfl rfl ?_
        refine E_iload_n (pc := 14) rfl dX2_clearCosts_14 ?_
        refine E_sipush (pc := 15) (nI 1024) (by decide) dX2_clearCosts_15 ?_
        refine E_imul (pc := 18) dX2_clearCosts_18 ?_
        rw [nI_mul]
        refine E_iload_n (pc := 19) rfl dX2_clearCosts_19 ?_
        refine E_iadd (pc := 20) dX2_clearCosts_20 ?_
        rw [nI_add]
        refine E_ldc (pc := 21) (v := nI 1048576) q2_93 dX2_clearCosts_21 ?_
        refine R_iast (pc := 23) (j := h * 1024 + i) dX2_clearCosts_23 (ent_st hc.2.1) (by first | rfl | simp only [nI_mul, nI_add]) (by omega) (by decide) ?_
        refine E_iinc (pc := 24) (v := nI (i + 1)) (L2 := [_, _, _]) rfl (nI_inc (i) 1) rfl rfl dX2_clearCosts_24 ?_
        refine E_goto (pc := 27) 2 (by decide) dX2_clearCosts_27 ?_
        rw [fillI_succ]
        exact ih (i + 1) (by omega) (by omega)
  refine E_iconst (pc := 0) 0 rfl dX2_clearCosts_0 ?_
  refine E_istore_n (pc := 1) (L2 := [_, _, _]) rfl rfl dX2_clearCosts_1 ?_
  have := key (S + 1) 0 (by omega) (by omega)
  rw [fillI_0] at this
  exact this
theorem c_X2_clearWays {G : GP} {σ : ST} {c h S : Nat} (hc : CU c) (hS : σ.1 c 10 = nI S) (hS1 : S ≤ 1024) : E G mX2_clearWays (1, 20) 0 [.ref c, .int (nI h), D0, D0] [] (mem σ) (fun rv M' => rv = none ∧ M' = mem (fillJ σ (c + 2) (h % 2 * 1024) S 0)) := by
  have key : ∀ (n i : Nat), n + i = S + 1 → i ≤ S → E G mX2_clearWays (1, 20) 7 [.ref c, .int (nI h), .int (nI (h % 2 * 1024)), .int (nI i)] [] (mem (fillJ σ (c + 2) (h % 2 * 1024) i 0)) (fun rv M' => rv = none ∧ M' = mem (fillJ σ (c + 2) (h % 2 * 1024) S 0)) := by
    intro n
    induction n with
    | zero => intro i hi hle; omega
    | succ n ih =>
      intro i hi hle
      refine E_iload_n (pc := 7) rfl dX2_clearWays_7 ?_
      refine E_aload_n (pc := 8) rfl dX2_clearWays_8 ?_
      refine V_getI (pc := 9) f2_32 dX2_clearWays_9 (ent_st hc.1) (by decide) rfl (hS) ?_
      refine N_icmp_ge (pc := 12) 30 dX2_clearWays_12 (by decide) (by omega) (by omega) (fun h1_ => ?_) (fun h1_ => ?_)
      · refine E_return (pc := 30) rfl dX2_clearWays_30 ?_
        obtain rfl : i = S := by omega
        exact ⟨rfl, rfl⟩
      · refine E_aload_n (pc := 15) rfl dX2_clearWays_15 ?_
        refine R_getR (pc := 16) (b := c + 2) f2_15 dX2_clearWays_16 (ent_st hc.1) (by decide) rfl rfl ?_
        refine E_iload_n (pc := 19) rfl dX2_clearWays_19 ?_
        refine E_iload_n (pc := 20) rfl dX2_clearWays_20 ?_
        refine E_iadd (pc := 21) dX2_clearWays_21 ?_
        rw [nI_add]
        refine E_lconst (pc := 22) 0 rfl dX2_clearWays_22 ?_
        refine R_jast (pc := 23) (j := h % 2 * 1024 + i) dX2_clearWays_23 (ent_st hc.2.2.1) (by first | rfl | simp only [nI_mul, nI_add]) (by omega) (by decide) ?_
        refine E_iinc (pc := 24) (v := nI (i + 1)) (L2 := [_, _, _, _]) rfl (nI_inc (i) 1) rfl rfl dX2_clearWays_24 ?_
        refine E_goto (pc := 27) 7 (by decide) dX2_clearWays_27 ?_
        rw [fillJ_succ]
        exact ih (i + 1) (by omega) (by omega)
  refine E_iload_n (pc := 0) rfl dX2_clearWays_0 ?_
  refine E_callS (pc := 1) (As := [_]) (fc := (0, 0)) s2_113 oX2_layerOf dX2_clearWays_1 rfl rfl (Nat.le_of_ble_eq_true rfl) rfl rfl (by decide) (c_X2_layerOf (h := h)) (fun rv_ M_ hq_ => ?_)
  obtain ⟨rfl, rfl⟩ := hq_
  refine E_istore_n (pc := 4) (L2 := [_, _, _, _]) rfl rfl dX2_clearWays_4 ?_
  refine E_iconst (pc := 5) 0 rfl dX2_clearWays_5 ?_
  refine E_istore_n (pc := 6) (L2 := [_, _, _, _]) rfl rfl dX2_clearWays_6 ?_
  have := key (S + 1) 0 (by omega) (by omega)
  rw [fillJ_0] at this
  exact this
theorem c_X2_isReached {G : GP} {σ : ST} {c h low F : Nat} (hc : CU c) (hF : σ.1 c 9 = nI F) (hF4 : F ≤ 4) (hh : h ≤ 12) (hlow : low < 256) : E G mX2_isReached (0, 0) 0 [.ref c, .int (nI h), .int (nI low), D0] [] (mem σ) (fun rv M' => rv = some (.int (b2 (anyB F (fun fl => decide (σ.1 (c + 1) (h * 1024 + (fl * 256 + low)) < nI 1048576))))) ∧ M' = mem σ) := by
  have key : ∀ (n i : Nat), n + i = F + 1 → i ≤ F → (∀ j, j < i → (fun fl => decide (σ.1 (c + 1) (h * 1024 + (fl * 256 + low)) < nI 1048576)) j = false) → E G mX2_isReached (0, 0) 2 [.ref c, .int (nI h), .int (nI low), .int (nI i)] [] (mem σ) (fun rv M' => rv = some (.int (b2 (anyB F (fun fl => decide (σ.1 (c + 1) (h * 1024 + (fl * 256 + low)) < nI 1048576))))) ∧ M' = mem σ) := by
    intro n
    induction n with
    | zero => intro i hi hle; omega
    | succ n ih =>
      intro i hi hle hinv
      refine E_iload_n (pc := 2) rfl dX2_isReached_2 ?_
      refine E_aload_n (pc := 3) rfl dX2_isReached_3 ?_
      refine V_getI (pc := 4) f2_29 dX2_isReached_4 (ent_st hc.1) (by decide) rfl (hF) ?_
      refine N_icmp_ge (pc := 7) 40 dX2_isReached_7 (by decide) (by omega) (by omega) (fun h1_ => ?_) (fun h1_ => ?_)
      · refine E_iconst (pc := 40) 0 rfl dX2_isReached_40 ?_
        refine E_ireturn (pc := 41) rfl (by decide) dX2_isReached_41 ?_
        obtain rfl : i = F := by omega
        exact ⟨b2_eq0 (anyB_f hinv), rfl⟩
      · refine E_aload_n (pc := 10) rfl dX2_isReached_10 ?_
        refine R_getR (pc := 11) (b := c + 1) f2_9 dX2_isReached_11 (ent_st hc.1) (by decide) rfl rfl ?_
        refine E_iload_n (pc := 14) rfl dX2_isReached_14 ?_
        refine E_sipush (pc := 15) (nI 1024) (by decide) dX2_isReached_15 ?_
        refine E_imul (pc := 18) dX2_isReached_18 ?_
        rw [nI_mul]
        refine E_iload_n (pc := 19) rfl dX2_isReached_19 ?_
        refine E_bipush (pc := 20) (nI 8) (by decide) dX2_isReached_20 ?_
        refine E_ishl (pc := 22) dX2_isReached_22 ?_
        rw [nI_shl (by omega)]
        refine E_iload_n (pc := 23) rfl dX2_isReached_23 ?_
        refine E_ior (pc := 24) dX2_isReached_24 ?_
        rw [sh8 hlow]
        refine E_iadd (pc := 25) dX2_isReached_25 ?_
        rw [nI_add]
        refine V_iald (pc := 26) (j := ((h * 1024) + (i * 256 + low))) dX2_isReached_26 (ent_st hc.2.1) rfl (by omega) (by decide) rfl ?_
        refine E_ldc (pc := 27) (v := nI 1048576) q2_93 dX2_isReached_27 ?_
        refine E_icmp_ge (pc := 29) 34 dX2_isReached_29 (by decide) (fun hx => ?_) (fun hx => ?_)
        · refine E_iinc (pc := 34) (v := nI (i + 1)) (L2 := [_, _, _, _]) rfl (nI_inc (i) 1) rfl rfl dX2_isReached_34 ?_
          refine E_goto (pc := 37) 2 (by decide) dX2_isReached_37 ?_
          refine ih (i + 1) (by omega) (by omega) (fun j hj => ?_)
          by_cases e : j = i
          · subst e; simpa [Int32.not_lt] using hx
          · exact hinv j (by omega)
        · refine E_iconst (pc := 32) 1 rfl dX2_isReached_32 ?_
          refine E_ireturn (pc := 33) rfl (by decide) dX2_isReached_33 ?_
          refine ⟨b2_eq1 ((anyB_iff _ _).mpr ⟨i, by omega, ?_⟩), rfl⟩
          simpa [Int32.not_le] using hx
  refine E_iconst (pc := 0) 0 rfl dX2_isReached_0 ?_
  refine E_istore_n (pc := 1) (L2 := [_, _, _, _]) rfl rfl dX2_isReached_1 ?_
  exact key (F + 1) 0 (by omega) (by omega) (fun j hj => by omega)
