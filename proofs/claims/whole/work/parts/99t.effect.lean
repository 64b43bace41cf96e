section
/-! ===== what effects do, as the reference reckons it ===== -/
variable {A : AW} {H : SHV} {σ : ST} {s p len n0 : Nat} {kf : Nat → Nat} {txt : Nat → Int32}
def TEP (txt : Nat → Int32) (len n0 : Nat) (kf : Nat → Nat) (σ : ST) (act kept v : Nat) : Prop := act < 6 ∧ kept < 32 ∧ v < 8 ∧ σ.1 251 act = nI len ∧ (∀ j, j < len → σ.1 252 (60 * act + j) = txt j) ∧ ∀ u, u < n0 → σ.1 248 u = nI (kf u)
def THEN (σ : ST) (act kept v p : Nat) (x4 x5 : Int32) : Prop := ∃ m, 1000 ≤ m + p ∧ f_X12_thenOf (nI act) (nI kept) (nI v) σ = f_X12_thenOf_39 m (nI act) x4 x5 (nI (60 * act)) (nI p) σ
theorem tep_rd {act kept v : Nat} (h : TEP txt len n0 kf σ act kept v) (hl : len ≤ 60) {j : Nat} (hj : j < len) : rdI σ 252 360 (nI (60 * act + j)) = some (txt j) := by
  obtain ⟨h1, -, -, -, h5, -⟩ := h
  rw [rdI_ok (show 60 * act + j < 360 by omega) (by decide), h5 j hj]
theorem then_15 {act kept v pc : Nat} (h : TEP txt len n0 kf σ act kept v) (hl : len ≤ 60) (hp : pc < len) (e : txt pc = nI 58) (nc : ∀ j, j < pc → txt j ≠ nI 58) {x1 x4 x5 : Int32} {k36 : Int32 → Int32 → Int32 → Int32 → Int32 → ST → Option (Int32 × ST)} : f_X12_thenOf_15 k36 FU x1 x4 x5 (nI (60 * act)) (nI 0) σ = k36 x1 x4 x5 (nI (60 * act)) (nI pc) σ := by
  refine loopC (fun n i => f_X12_thenOf_15 k36 n x1 x4 x5 (nI (60 * act)) (nI i) σ) pc _ ?_ ?_ FU 0 (by rw [FU_eq]; omega) (Nat.zero_le _)
  · intro n i hi
    show f_X12_thenOf_15 k36 (n + 1) _ _ _ _ (nI i) σ = f_X12_thenOf_15 k36 n _ _ _ _ (nI (i + 1)) σ
    rw [f_X12_thenOf_15, nI_add, tep_rd h hl (show i < len by omega), bind_s, if_neg (nc i hi), nI_add]
  · intro n
    show f_X12_thenOf_15 k36 (n + 1) _ _ _ _ (nI pc) σ = _
    rw [f_X12_thenOf_15, nI_add, tep_rd h hl hp, e, bind_s, if_pos rfl]
theorem then_0 {act kept v pc : Nat} (h : TEP txt len n0 kf σ act kept v) (hl : len ≤ 60) (hp : pc < len) (e : txt pc = nI 58) (nc : ∀ j, j < pc → txt j ≠ nI 58) : THEN σ act kept v (pc + 1) (nI kept) (nI v) := by
  refine ⟨FU, Nat.le_add_right_of_le (by rw [FU_eq]; decide), ?_⟩
  unfold f_X12_thenOf
  rw [nI_mul, then_15 h hl hp e nc, nI_add]
theorem t_then85 {act kept v d : Nat} (h : TEP txt len n0 kf σ act kept v) (hn0 : n0 ≤ 10) (hd : d ≤ n0) (hk : ∀ u, u < n0 → kf u ≤ 3) {x1 x4 x5 x6 x7 x8 : Int32} {k112 : Int32 → Int32 → Int32 → Int32 → Int32 → Int32 → Int32 → ST → Option (Int32 × ST)} : f_X12_thenOf_85 k112 FU x1 x4 x5 x6 x7 x8 (nI d) (nI 0) (nI 0) σ = k112 x1 x4 x5 x6 x7 x8 (nI (cnt kf 1 d)) σ := by
  have h6 := h.2.2.2.2.2
  refine loopC (fun n i => f_X12_thenOf_85 k112 n x1 x4 x5 x6 x7 x8 (nI d) (nI (cnt kf 1 i)) (nI i) σ) d _ ?_ ?_ FU 0 (by rw [FU_eq]; omega) (Nat.zero_le _)
  · intro n i hi
    have hki := hk i (by omega)
    have hs : cnt kf 1 (i + 1) = if kf i = 1 then cnt kf 1 i + 1 else cnt kf 1 i := rfl
    show f_X12_thenOf_85 _ (n + 1) x1 x4 x5 x6 x7 x8 (nI d) (nI (cnt kf 1 i)) (nI i) σ = f_X12_thenOf_85 _ n x1 x4 x5 x6 x7 x8 (nI d) (nI (cnt kf 1 (i + 1))) (nI (i + 1)) σ
    rw [f_X12_thenOf_85, if_pos ((nI_ltI (by omega) (by omega)).mpr hi), rdI_ok (show i < 10 by omega) (by decide), h6 i (by omega), bind_s, hs, nI_add, nI_add]
    by_cases z : kf i = 1
    · rw [if_pos (congrArg nI z), if_pos z]
    · rw [if_neg (fun q => z ((nI_eq (by omega) (by omega)).mp q)), if_neg z]
  · intro n
    show f_X12_thenOf_85 _ (n + 1) x1 x4 x5 x6 x7 x8 (nI d) (nI (cnt kf 1 d)) (nI d) σ = _
    rw [f_X12_thenOf_85, if_neg (fun w => Nat.lt_irrefl _ ((nI_ltI (by omega) (by omega)).mp w))]
theorem then_step {act kept v d : Nat} (h : TEP txt len n0 kf σ act kept v) (hl : len ≤ 60) (hn0 : n0 ≤ 10) (hk : ∀ u, u < n0 → kf u ≤ 3) (hd : d < n0) (hp : p + 1 < len) {L : Nat} (eL : txt p = nI L) (hL : L = 98 ∨ L = 101 ∨ L = 122) (eD : txt (p + 1) = nI (48 + d)) {x4 x5 : Int32} (t : THEN σ act kept v p x4 x5) : THEN σ act kept v (p + 2) (if L = 98 then x4 ||| nI (2 ^ cnt kf 1 d) else if L = 101 then x4 &&& (nI (2 ^ cnt kf 1 d) ^^^ (-1)) else x4) (if L = 122 then nI 0 else x5) := by
  have hc := cnt_le kf 1 d
  obtain ⟨m, hm, e⟩ := t
  have hlen : len ≤ 60 := hl
  obtain ⟨m, rfl⟩ : ∃ z, m = z + 1 := ⟨m - 1, by omega⟩
  have bit : nI 1 <<< (nI (cnt kf 1 d) &&& 31) = nI (2 ^ cnt kf 1 d) := by rw [nI_shlm (by omega), Nat.one_mul]
  refine ⟨m, by omega, ?_⟩
  rw [e, f_X12_thenOf_39, rdI_ok h.1 (by decide), h.2.2.2.1, bind_s, if_pos ((nI_ltI (by omega) (by omega)).mpr (by omega)), nI_add, tep_rd h hl (show p < len by omega), bind_s, nI_add, Nat.add_assoc, tep_rd h hl hp, eD, bind_s, nI_d48, t_then85 h hn0 (Nat.le_of_lt hd) hk, bit, eL]
  unfold f_X12_thenOf_128 f_X12_thenOf_146
  rcases hL with rfl | rfl | rfl
  · rw [if_pos rfl, if_neg (show ¬ nI 98 = nI 101 by decide), if_neg (show ¬ nI 98 = nI 122 by decide), if_pos rfl, if_neg (by decide), nI_add]
  · rw [if_neg (show ¬ nI 101 = nI 98 by decide), if_pos rfl, if_neg (show ¬ nI 101 = nI 122 by decide), if_neg (by decide), if_pos rfl, if_neg (by decide), nI_add, bit]
  · rw [if_neg (show ¬ nI 122 = nI 98 by decide), if_neg (show ¬ nI 122 = nI 101 by decide), if_pos rfl, if_neg (by decide), if_neg (by decide), if_pos rfl, nI_add]
theorem M32 (j : Nat) : Nat.testBit 4294967295 j = decide (j < 32) := by rw [show (4294967295 : Nat) = 2 ^ 32 - 1 from rfl, Nat.testBit_two_pow_sub_one]
theorem ef_b {lb le k i : Nat} (hk : k < 32) (hi : i < 32) : ef (lb ||| 2 ^ i) (le &&& (2 ^ i ^^^ 4294967295)) k = ef lb le k ||| 2 ^ i := by
  unfold ef
  apply Nat.eq_of_testBit_eq
  intro j
  simp only [Nat.testBit_or, Nat.testBit_and, Nat.testBit_xor, M32, Nat.testBit_two_pow]
  by_cases z : i = j
  · subst z; simp
  · simp only [decide_eq_false z, Bool.or_false, Bool.false_xor]
    by_cases w : j < 32
    · simp [w]
    · have : k.testBit j = false := tb_lt (n := 5) hk (by omega)
      simp [this, w]
theorem ef_e {lb le k i : Nat} (hk : k < 32) (hi : i < 32) (hb : lb < 32) : ef (lb &&& (2 ^ i ^^^ 4294967295)) (le ||| 2 ^ i) k = ef lb le k &&& (2 ^ i ^^^ 4294967295) := by
  unfold ef
  apply Nat.eq_of_testBit_eq
  intro j
  simp only [Nat.testBit_or, Nat.testBit_and, Nat.testBit_xor, M32, Nat.testBit_two_pow]
  by_cases z : i = j
  · subst z; simp [hi]
  · simp only [decide_eq_false z, Bool.or_false, Bool.false_xor]
    by_cases w : j < 32
    · simp [w]
    · have e1 : k.testBit j = false := tb_lt (n := 5) hk (by omega)
      have e2 : lb.testBit j = false := tb_lt (n := 5) hb (by omega)
      simp [e1, e2]
theorem ef_0 {k : Nat} (hk : k < 32) : ef 0 0 k = k := by
  unfold ef
  apply Nat.eq_of_testBit_eq
  intro j
  simp only [Nat.testBit_or, Nat.testBit_and, Nat.testBit_xor, M32, Nat.zero_testBit, Bool.false_xor, Bool.or_false]
  by_cases w : j < 32
  · simp [w]
  · have e1 : k.testBit j = false := tb_lt (n := 5) hk (by omega)
    simp [e1]
/-- what the law says so far, in the class's cells and in the reference's text -/
def EFI (A : AW) (H : SHV) (s p : Nat) (σ : ST) : Prop := ∃ lb le lz, σ.1 189 1 = nI lb ∧ σ.1 189 2 = nI le ∧ σ.1 189 3 = nI lz ∧ lb < 2 ^ cK A 1 ∧ le < 2 ^ cK A 1 ∧ lz ≤ 1 ∧ ∀ τ act kept v, TEP (lt H s) (hn H s) (nT A) (kd A) τ act kept v → THEN τ act kept v p (nI (ef lb le kept)) (nI (if lz = 1 then 0 else v))
/-- the same at the end -/
def GE (A : AW) (H : SHV) (s : Nat) (σ : ST) : Prop := ∃ lb le lz, σ.1 189 1 = nI lb ∧ σ.1 189 2 = nI le ∧ σ.1 189 3 = nI lz ∧ lb < 2 ^ cK A 1 ∧ le < 2 ^ cK A 1 ∧ lz ≤ 1 ∧ ∀ τ act kept v, TEP (lt H s) (hn H s) (nT A) (kd A) τ act kept v → f_X12_thenOf (nI act) (nI kept) (nI v) τ = some (nI (ef lb le kept + 32 * (if lz = 1 then 0 else v)), τ)
theorem GE_of (a : AOK A) (r : RD A H s) (h : EFI A H s (hn H s) σ) : GE A H s σ := by
  have l := RD_60 r
  have hK := K32 a
  obtain ⟨lb, le, lz, e1, e2, e3, l1, l2, l3, t⟩ := h
  refine ⟨lb, le, lz, e1, e2, e3, l1, l2, l3, fun τ act kept v tp => ?_⟩
  obtain ⟨m, hm, e⟩ := t τ act kept v tp
  obtain ⟨m, rfl⟩ : ∃ z, m = z + 1 := ⟨m - 1, by omega⟩
  have hef : ef lb le kept < 2 ^ 5 := ef_lt (by omega) tp.2.1
  rw [e, f_X12_thenOf_39, rdI_ok tp.1 (by decide), tp.2.2.2.1, bind_s, if_neg (fun w => Nat.lt_irrefl _ ((nI_ltI (by omega) (by omega)).mp w))]
  have e5 : nI (if lz = 1 then 0 else v) <<< (nI 5 &&& 31) = nI ((if lz = 1 then 0 else v) * 32) := by rw [nI_shlm (by omega)]
  rw [e5, nI_or5r (by omega), Nat.mul_comm, Nat.add_comm]
/-- an effect on a kept thing, or a stilling -/
theorem EFI_b (a : AOK A) (r : RD A H s) {d : Nat} (h : EFI A H s p σ) (hp : p + 1 < hn H s) (hd : d < nT A) (hk1 : kd A d = 1) (eD : lt H s (p + 1) = nI (48 + d)) (eL : lt H s p = nI 98) : ∃ u, f_X3_addEffect 189 (nI (pl A d)) (nI 1) σ = some u ∧ Fr (fun y => y = 189) σ u ∧ (∀ k, k ≠ 1 → k ≠ 2 → u.1 189 k = σ.1 189 k) ∧ EFI A H s (p + 2) u := by
  have l := RD_60 r
  have hT := a.1.1
  have hplt : pl A d < cK A 1 := by unfold pl cK; rw [hk1]; exact cnt_lt hd hk1
  have hK5 := a.2.2.1.2.1
  have hp2 : 2 ^ pl A d < 2 ^ cK A 1 := Nat.pow_lt_pow_right (by omega) hplt
  obtain ⟨lb, le, lz, e1, e2, e3, l1, l2, l3, t⟩ := h
  have bit : nI 1 <<< (nI (pl A d) &&& 31) = nI (2 ^ pl A d) := by rw [nI_shlm (by omega), Nat.one_mul]
  have eo : nI lb ||| nI (2 ^ pl A d) = nI (lb ||| 2 ^ pl A d) := nI_or _ _
  have epl : cnt (kd A) 1 d = pl A d := by unfold pl; rw [hk1]
  unfold f_X3_addEffect f_X3_addEffect_26
  rw [if_neg (show ¬ nI 1 = 0 by decide), bit, e1, eo, pfI_s, bind_s, if_neg (show ¬ nI 1 = 0 by decide), I_ne (Or.inr (by decide)), e2, nI_clr, pfI_s, bind_s]
  have F : Fr (fun y => y = 189) σ (setI (setI σ 189 1 (nI (lb ||| 2 ^ pl A d))) 189 2 (nI (le &&& (2 ^ pl A d ^^^ 4294967295)))) := (Fr_setI (W := fun y => y = 189) rfl).tr (Fr_setI rfl)
  refine ⟨_, rfl, F, fun k h1 h2 => by rw [I_ne (Or.inr h2), I_ne (Or.inr h1)], lb ||| 2 ^ pl A d, le &&& (2 ^ pl A d ^^^ 4294967295), lz, by rw [I_ne (Or.inr (by decide)), I_at], I_at _ _ _ _, by rw [I_ne (Or.inr (by decide)), I_ne (Or.inr (by decide))]; exact e3, Nat.or_lt_two_pow l1 hp2, Nat.lt_of_le_of_lt Nat.and_le_left l2, l3, fun τ act kept v tp => ?_⟩
  have := then_step tp l hT (fun u hu => a.2.1 u hu) hd hp eL (Or.inl rfl) eD (t τ act kept v tp)
  rw [if_pos rfl, if_neg (by decide), epl] at this
  have eo2 : nI (ef lb le kept) ||| nI (2 ^ pl A d) = nI (ef lb le kept ||| 2 ^ pl A d) := nI_or _ _
  rw [eo2] at this
  rw [ef_b tp.2.1 (by omega)]
  exact this
theorem EFI_e (a : AOK A) (r : RD A H s) {d : Nat} (h : EFI A H s p σ) (hp : p + 1 < hn H s) (hd : d < nT A) (hk1 : kd A d = 1) (eD : lt H s (p + 1) = nI (48 + d)) (eL : lt H s p = nI 101) : ∃ u, f_X3_addEffect 189 (nI (pl A d)) (nI 0) σ = some u ∧ Fr (fun y => y = 189) σ u ∧ (∀ k, k ≠ 1 → k ≠ 2 → u.1 189 k = σ.1 189 k) ∧ EFI A H s (p + 2) u := by
  have l := RD_60 r
  have hT := a.1.1
  have hplt : pl A d < cK A 1 := by unfold pl cK; rw [hk1]; exact cnt_lt hd hk1
  have hK5 := a.2.2.1.2.1
  have hK := K32 a
  have hp2 : 2 ^ pl A d < 2 ^ cK A 1 := Nat.pow_lt_pow_right (by omega) hplt
  obtain ⟨lb, le, lz, e1, e2, e3, l1, l2, l3, t⟩ := h
  have bit : nI 1 <<< (nI (pl A d) &&& 31) = nI (2 ^ pl A d) := by rw [nI_shlm (by omega), Nat.one_mul]
  have eo : nI le ||| nI (2 ^ pl A d) = nI (le ||| 2 ^ pl A d) := nI_or _ _
  have epl : cnt (kd A) 1 d = pl A d := by unfold pl; rw [hk1]
  unfold f_X3_addEffect f_X3_addEffect_26
  rw [if_pos (show nI 0 = 0 by decide), bit, e1, nI_clr, pfI_s, bind_s, if_pos (show nI 0 = 0 by decide), I_ne (Or.inr (by decide)), e2, eo, pfI_s, bind_s]
  have F : Fr (fun y => y = 189) σ (setI (setI σ 189 1 (nI (lb &&& (2 ^ pl A d ^^^ 4294967295)))) 189 2 (nI (le ||| 2 ^ pl A d))) := (Fr_setI (W := fun y => y = 189) rfl).tr (Fr_setI rfl)
  refine ⟨_, rfl, F, fun k h1 h2 => by rw [I_ne (Or.inr h2), I_ne (Or.inr h1)], lb &&& (2 ^ pl A d ^^^ 4294967295), le ||| 2 ^ pl A d, lz, by rw [I_ne (Or.inr (by decide)), I_at], I_at _ _ _ _, by rw [I_ne (Or.inr (by decide)), I_ne (Or.inr (by decide))]; exact e3, Nat.lt_of_le_of_lt Nat.and_le_left l1, Nat.or_lt_two_pow l2 hp2, l3, fun τ act kept v tp => ?_⟩
  have := then_step tp l hT (fun u hu => a.2.1 u hu) hd hp eL (Or.inr (Or.inl rfl)) eD (t τ act kept v tp)
  rw [if_neg (by decide), if_pos rfl, if_neg (by decide), epl, nI_clr] at this
  rw [ef_e tp.2.1 (by omega) (by omega)]
  exact this
theorem EFI_z (a : AOK A) (r : RD A H s) {d : Nat} (h : EFI A H s p σ) (hp : p + 1 < hn H s) (hd : d < nT A) (eD : lt H s (p + 1) = nI (48 + d)) (eL : lt H s p = nI 122) : EFI A H s (p + 2) (setI σ 189 3 1) := by
  have l := RD_60 r
  have hT := a.1.1
  obtain ⟨lb, le, lz, e1, e2, e3, l1, l2, l3, t⟩ := h
  refine ⟨lb, le, 1, by rw [I_ne (Or.inr (by decide))]; exact e1, by rw [I_ne (Or.inr (by decide))]; exact e2, I_at _ _ _ _, l1, l2, by omega, fun τ act kept v tp => ?_⟩
  have := then_step tp l hT (fun u hu => a.2.1 u hu) hd hp eL (Or.inr (Or.inr rfl)) eD (t τ act kept v tp)
  rw [if_neg (by decide), if_neg (by decide), if_pos rfl] at this
  rw [if_pos rfl]
  exact this
theorem EFI_eq {u : ST} (h : EFI A H s p σ) (e : u.1 189 = σ.1 189) : EFI A H s p u := by
  unfold EFI
  rw [e]
  exact h
end
