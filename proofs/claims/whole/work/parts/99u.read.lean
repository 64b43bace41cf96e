section
/-! ===== both read a whole text ===== -/
variable {A : AW} {H : SHV} {σ : ST} {s p c k : Nat}
noncomputable abbrev KE : Int32 → ST → Option (Int32 × ST) := fun x2_16 s17 =>
    if x2_16 = 0 then
    (some ((s17.1 247 22), s17))
    else (some ((-1), s17))
noncomputable abbrev KLw (s : Nat) : Int32 → ST → Option (Int32 × ST) := fun v19 s18 =>
    if v19 = 0 then
    (some ((s18.1 247 22), s18))
    else (f_X12_lawFault_29 (nI s) s18)
noncomputable abbrev KC (s : Nat) : Int32 → ST → Option (Int32 × ST) := fun v3 s2 =>
    if v3 = 0 then
    (some ((s2.1 247 22), s2))
    else ((rdI s2 264 8 (nI s)).bind fun v4 =>
    if (s2.1 247 22) < v4 then
    (some ((s2.1 247 22), s2))
    else (some ((-1), s2)))
noncomputable abbrev KRd (a1 : Nat) : Int32 → ST → Option (Int32 × ST) := fun x3_8 s9 =>
    if (s9.1 188 2) = 0 then
    (if x3_8 = (nI 3) then
    ((f_X5_closeAtom s9).bind fun s10 =>
    some ((-1), s10))
    else (if x3_8 = (nI 5) then
    ((f_X5_closeAtom s9).bind fun s11 =>
    some ((-1), s11))
    else (some ((s9.1 a1 1), s9))))
    else (if x3_8 = (nI 10) then
    (some ((-1), s9))
    else (some ((s9.1 a1 1), s9)))
def MDv (A : AW) (H : SHV) (MF : ST → Option (Int32 × ST)) (v : Int32) : Prop := ∀ τ, MC A H τ → ∃ τ', W22 τ τ' ∧ MF τ = some (v, τ')
/-- the effects' search has come to p with c effects -/
def EMx (A : AW) (H : SHV) (s c p : Nat) : Prop := ∀ τ, MC A H τ → ∃ m τ', 1000 ≤ m + p ∧ W22 τ τ' ∧ τ'.1 247 22 = nI p ∧ f_X12_lawFault (nI s) τ = f_X12_lawFault_60 KE m (nI s) (nI c) τ'
/-- it has read an effect's letter -/
def EGx (A : AW) (H : SHV) (s z c p : Nat) : Prop := ∀ τ, MC A H τ → ∃ m τ', 1000 ≤ m + p ∧ W22 τ τ' ∧ τ'.1 247 22 = nI p ∧ f_X12_lawFault (nI s) τ = f_X12_lawFault_137 (f_X12_lawFault_60 KE m) (nI s) (nI c) (LL H s p) (nI z) τ'
theorem em_step (r : RD A H s) (hp : p < hn H s) {L : Nat} (e : lt H s p = nI L) (hL : L = 98 ∨ L = 101 ∨ L = 122) (h : EMx A H s c p) : EGx A H s (if L = 122 then 3 else 1) c (p + 1) := by
  have l := RD_60 r
  intro τ mc
  obtain ⟨m, τ', hm, w, e22, eM⟩ := h τ mc
  obtain ⟨m, rfl⟩ : ∃ z, m = z + 1 := ⟨m - 1, by omega⟩
  obtain ⟨b1, b2', b3⟩ := bump w e22
  have eb : (pfI τ' 247 22 (nI p + nI 1)) = some (setI τ' 247 22 (nI (p + 1))) := by rw [← e22]; exact b3
  have mk := MC_w mc w
  refine ⟨m, _, by omega, b1, b2', ?_⟩
  rw [eM, f_X12_lawFault_60, rdI_ok r.2.1 (by decide), (mk.2 s r.2.1).2.1 r.2.2, bind_s, e22, if_pos ((nI_ltI (by omega) (by omega)).mpr hp), m_letter r mk (by omega), bd2_s, LL_t hp, e]
  have go : f_X12_lawFault_106 (f_X12_lawFault_60 KE m) (nI s) (nI c) (nI L) τ' = f_X12_lawFault_137 (f_X12_lawFault_60 KE m) (nI s) (nI c) (LL H s (p + 1)) (nI (if L = 122 then 3 else 1)) (setI τ' 247 22 (nI (p + 1))) := by
    unfold f_X12_lawFault_106
    rw [e22, eb, bind_s, b2', m_letter r (MC_w mc b1) (by omega), bd2_s]
    rcases hL with rfl | rfl | rfl
    · rw [if_neg (by decide), if_neg (by decide)]
    · rw [if_neg (by decide), if_neg (by decide)]
    · rw [if_pos rfl, if_pos rfl]
  rcases hL with rfl | rfl | rfl
  · rw [if_pos rfl]; exact go
  · rw [if_neg (by decide), if_pos rfl]; exact go
  · rw [if_neg (by decide), if_neg (by decide), if_pos rfl]; exact go
theorem em_no (r : RD A H s) (hp : p < hn H s) (e1 : lt H s p ≠ nI 98) (e2 : lt H s p ≠ nI 101) (e3 : lt H s p ≠ nI 122) (h : EMx A H s c p) : MDv A H (f_X12_lawFault (nI s)) (nI p) := by
  have l := RD_60 r
  intro τ mc
  obtain ⟨m, τ', hm, w, e22, eM⟩ := h τ mc
  obtain ⟨m, rfl⟩ : ∃ z, m = z + 1 := ⟨m - 1, by omega⟩
  have mk := MC_w mc w
  refine ⟨τ', w, ?_⟩
  rw [eM, f_X12_lawFault_60, rdI_ok r.2.1 (by decide), (mk.2 s r.2.1).2.1 r.2.2, bind_s, e22, if_pos ((nI_ltI (by omega) (by omega)).mpr hp), m_letter r mk (by omega), bd2_s, LL_t hp, if_neg e1, if_neg e2, if_neg e3, e22]
theorem em_end (r : RD A H s) (hc : c < 2 ^ 31) (h : EMx A H s c (hn H s)) : MDv A H (f_X12_lawFault (nI s)) (if c = 0 then nI (hn H s) else -1) := by
  have l := RD_60 r
  intro τ mc
  obtain ⟨m, τ', hm, w, e22, eM⟩ := h τ mc
  obtain ⟨m, rfl⟩ : ∃ z, m = z + 1 := ⟨m - 1, by omega⟩
  have mk := MC_w mc w
  refine ⟨τ', w, ?_⟩
  rw [eM, f_X12_lawFault_60, rdI_ok r.2.1 (by decide), (mk.2 s r.2.1).2.1 r.2.2, bind_s, e22, if_neg (fun q => Nat.lt_irrefl _ ((nI_ltI (by omega) (by omega)).mp q))]
  show (if nI c = 0 then _ else _) = _
  by_cases z : c = 0
  · subst z
    rw [if_pos (show nI 0 = 0 by decide), if_pos rfl, e22]
  · rw [if_neg (nI_n0 z hc), if_neg z]
theorem eg_no (a : AOK A) (r : RD A H s) (hp : p ≤ hn H s) {z : Nat} (hz : z ≤ 3) (e : dk A (LL H s p) z = false) (h : EGx A H s z c p) : MDv A H (f_X12_lawFault (nI s)) (nI p) := by
  intro τ mc
  obtain ⟨m, τ', hm, w, e22, eM⟩ := h τ mc
  refine ⟨τ', w, ?_⟩
  rw [eM]
  unfold f_X12_lawFault_137
  rw [m_digitk a (MC_w mc w) _ hz, e, bd2_s, if_pos b2f0, e22]
theorem eg_yes (a : AOK A) (r : RD A H s) {z : Nat} (hz : z ≤ 3) (e : dk A (LL H s p) z = true) (h : EGx A H s z c p) : EMx A H s (c + 1) (p + 1) := by
  intro τ mc
  obtain ⟨m, τ', hm, w, e22, eM⟩ := h τ mc
  obtain ⟨b1, b2', b3⟩ := bump w e22
  have eb : (pfI τ' 247 22 (nI p + nI 1)) = some (setI τ' 247 22 (nI (p + 1))) := by rw [← e22]; exact b3
  refine ⟨m, _, by omega, b1, b2', ?_⟩
  rw [eM]
  unfold f_X12_lawFault_137
  rw [m_digitk a (MC_w mc w) _ hz, e, bd2_s, if_neg b2t0, e22, eb, bind_s, nI_add]
theorem KL0 (τ : ST) : KLw s (nI 0) τ = some (τ.1 247 22, τ) := if_pos (show nI 0 = 0 by decide)
theorem KC0 (τ : ST) : KC s (nI 0) τ = some (τ.1 247 22, τ) := if_pos (show nI 0 = 0 by decide)
theorem KC1 (r : RD A H s) (hp : p < hn H s) (h : MK A H (f_X12_conditionFault (nI s)) (KC s) p) : MDf A H (f_X12_conditionFault (nI s)) p := by
  have l := RD_60 r
  intro τ mc
  obtain ⟨τ', w, e22, e⟩ := h τ mc
  have mk := MC_w mc w
  refine ⟨τ', w, ?_⟩
  rw [e]
  show (if nI 1 = 0 then _ else _) = _
  rw [if_neg (by decide), rdI_ok r.2.1 (by decide), (mk.2 s r.2.1).2.1 r.2.2, bind_s, e22, if_pos ((nI_ltI (by omega) (by omega)).mpr hp)]
theorem KCe (r : RD A H s) (h : MK A H (f_X12_conditionFault (nI s)) (KC s) (hn H s)) : MDv A H (f_X12_conditionFault (nI s)) (-1) := by
  have l := RD_60 r
  intro τ mc
  obtain ⟨τ', w, e22, e⟩ := h τ mc
  have mk := MC_w mc w
  refine ⟨τ', w, ?_⟩
  rw [e]
  show (if nI 1 = 0 then _ else _) = _
  rw [if_neg (by decide), rdI_ok r.2.1 (by decide), (mk.2 s r.2.1).2.1 r.2.2, bind_s, e22, if_neg (fun q => Nat.lt_irrefl _ ((nI_ltI (by omega) (by omega)).mp q))]
theorem KL1 (r : RD A H s) (hp : p ≤ hn H s) (e : LL H s p ≠ nI 58) (h : MK A H (f_X12_lawFault (nI s)) (KLw s) p) : MDf A H (f_X12_lawFault (nI s)) p := by
  have l := RD_60 r
  intro τ mc
  obtain ⟨τ', w, e22, e'⟩ := h τ mc
  have mk := MC_w mc w
  refine ⟨τ', w, ?_⟩
  rw [e']
  show (if nI 1 = 0 then _ else f_X12_lawFault_29 (nI s) τ') = _
  unfold f_X12_lawFault_29
  rw [if_neg (by decide), e22, m_letter r mk (by omega), bd2_s, if_neg e, e22]
theorem law29 (r : RD A H s) (hp : p < hn H s) (e : lt H s p = nI 58) {τ τ' : ST} (mc : MC A H τ) (w : W22 τ τ') (e22 : τ'.1 247 22 = nI p) : f_X12_lawFault_29 (nI s) τ' = f_X12_lawFault_60 KE FU (nI s) (nI 0) (setI τ' 247 22 (nI (p + 1))) := by
  have l := RD_60 r
  obtain ⟨b1, b2', b3⟩ := bump w e22
  have eb : (pfI τ' 247 22 (nI p + nI 1)) = some (setI τ' 247 22 (nI (p + 1))) := by rw [← e22]; exact b3
  unfold f_X12_lawFault_29
  rw [e22, m_letter r (MC_w mc w) (by omega), bd2_s, LL_t hp, if_pos e, e22, eb, bind_s]
theorem KLe (r : RD A H s) (hp : p < hn H s) (e : lt H s p = nI 58) (h : MK A H (f_X12_lawFault (nI s)) (KLw s) p) : EMx A H s 0 (p + 1) := by
  intro τ mc
  obtain ⟨τ', w, e22, e'⟩ := h τ mc
  obtain ⟨b1, b2', b3⟩ := bump w e22
  refine ⟨FU, _, by rw [FU_eq]; omega, b1, b2', ?_⟩
  rw [e']
  show (if nI 1 = 0 then _ else f_X12_lawFault_29 (nI s) τ') = _
  rw [if_neg (by decide), law29 r hp e mc w e22]
theorem law_0 (r : RD A H s) (hp : 0 < hn H s) (e : lt H s 0 = nI 58) : EMx A H s 0 1 := by
  intro τ mc
  have w : W22 τ (setI τ 247 22 (nI 0)) := W22_set
  have e22 : (setI τ 247 22 (nI 0)).1 247 22 = nI 0 := I_at _ _ _ _
  obtain ⟨b1, b2', b3⟩ := bump w e22
  refine ⟨FU, _, by rw [FU_eq]; omega, b1, b2', ?_⟩
  unfold f_X12_lawFault
  rw [pfI_s, bind_s, m_letter r (MC_w mc w) (by decide), bd2_s, LL_t hp, if_pos e, law29 r hp e mc w e22]
theorem law_1 (r : RD A H s) (e : LL H s 0 ≠ nI 58) : MS A H (f_X12_lawFault (nI s)) (KLw s) (E1 s) 0 0 := by
  intro τ mc
  have w : W22 τ (setI τ 247 22 (nI 0)) := W22_set
  have e22 : (setI τ 247 22 (nI 0)).1 247 22 = nI 0 := I_at _ _ _ _
  refine ⟨FU, _, by rw [FU_eq]; omega, w, e22, ?_⟩
  unfold f_X12_lawFault f_X12_overCondition
  rw [pfI_s, bind_s, m_letter r (MC_w mc w) (by decide), bd2_s, if_neg e]
theorem cond_1 : MS A H (f_X12_conditionFault (nI s)) (KC s) (E1 s) 0 0 := by
  intro τ mc
  refine ⟨FU, setI τ 247 22 (nI 0), by rw [FU_eq]; omega, W22_set, I_at _ _ _ _, ?_⟩
  unfold f_X12_conditionFault f_X12_overCondition
  rw [pfI_s, bind_s]
/-! the class's side -/
def r0 (lw : Bool) (σ : ST) : ST := setI (setI (setI (setI (setI (setI σ 190 0 (nI 0)) 189 1 (nI 0)) 189 2 (nI 0)) 189 3 0) 188 2 (b2 lw)) 188 3 1
theorem r0_F (lw : Bool) : Fr (fun y => 188 ≤ y ∧ y ≤ 194) σ (r0 lw σ) ∧ (r0 lw σ).1 188 2 = b2 lw ∧ (r0 lw σ).1 188 3 = 1 ∧ (r0 lw σ).1 189 1 = nI 0 ∧ (r0 lw σ).1 189 2 = nI 0 ∧ (r0 lw σ).1 189 3 = 0 ∧ (r0 lw σ).1 190 0 = nI 0 ∧ ∀ k, 4 ≤ k → (r0 lw σ).1 189 k = σ.1 189 k := by
  unfold r0
  refine ⟨(((((Fr_setI (W := fun y => 188 ≤ y ∧ y ≤ 194) (by decide)).tr (Fr_setI (by decide))).tr (Fr_setI (by decide))).tr (Fr_setI (by decide))).tr (Fr_setI (by decide))).tr (Fr_setI (by decide)), ?_, I_at _ _ _ _, ?_, ?_, ?_, ?_, fun k hk => ?_⟩
  · rw [I_ne (Or.inr (by decide)), I_at]
  · rw [I_ne (Or.inl (by decide)), I_ne (Or.inl (by decide)), I_ne (Or.inr (by decide)), I_ne (Or.inr (by decide)), I_at]
  · rw [I_ne (Or.inl (by decide)), I_ne (Or.inl (by decide)), I_ne (Or.inr (by decide)), I_at]
  · rw [I_ne (Or.inl (by decide)), I_ne (Or.inl (by decide)), I_at]
  · rw [I_ne (Or.inl (by decide)), I_ne (Or.inl (by decide)), I_ne (Or.inl (by decide)), I_ne (Or.inl (by decide)), I_ne (Or.inl (by decide)), I_at]
  · rw [I_ne (Or.inl (by decide)), I_ne (Or.inl (by decide)), I_ne (Or.inr (by omega)), I_ne (Or.inr (by omega)), I_ne (Or.inr (by omega)), I_ne (Or.inl (by decide))]
theorem t_r0 (a1 : Nat) (lw : Bool) : f_X5_read a1 (b2 lw) σ = f_X5_read_33 a1 (KRd a1) FU (nI (if lw = true then 0 else 1)) (nI 0) (r0 lw σ) := by
  have e := (r0_F (σ := σ) lw).2.1
  unfold f_X5_read f_X3_clear f_X5_read_29
  rw [pfI_s, bind_s, pfI_s, bind_s, pfI_s, bind_s, pfZ_0, bind_s, bind_s, pfZ_s _ _ _ (b2_01' lw), bind_s, pfZ_1, bind_s]
  show (if (r0 lw σ).1 188 2 = 0 then _ else _) = _
  rw [e]
  cases lw with
  | false => rw [if_pos b2f0]; rfl
  | true => rw [if_neg b2t0]; rfl
theorem BD_0 (lw : Bool) : BD A H s 0 (r0 lw σ) := by
  obtain ⟨-, -, e3, -, -, -, e0, -⟩ := r0_F (σ := σ) lw
  refine ⟨0, true, e0, e3, fun z => (by cases z), Nat.le_refl _, fun i hi => absurd hi (Nat.not_lt_zero _), fun so run a1 n1 fr τ sm => Or.inr ⟨rfl, ?_⟩⟩
  rw [if_pos rfl]
  exact VAL_0
theorem GC_eq {u : ST} (h : GC A H s k σ) (e : ∀ y, 190 ≤ y → y ≤ 194 → u.1 y = σ.1 y) : GC A H s k u := by
  unfold GC
  rw [e 190 (by omega) (by omega), e 191 (by omega) (by omega), e 192 (by omega) (by omega), e 193 (by omega) (by omega), e 194 (by omega) (by omega)]
  exact h
theorem GC_0 (r : RD A H s) (hp : 0 < hn H s) (e : lt H s 0 = nI 58) (lw : Bool) : GC A H s 0 (r0 lw σ) := by
  have l := RD_60 r
  obtain ⟨-, -, -, -, -, -, e0, -⟩ := r0_F (σ := σ) lw
  refine ⟨e0, by omega, fun so run a1 n1 fr τ sm => ?_⟩
  have := ev_end (X4 := true) sm l (p := 0) (Or.inr ⟨hp, e⟩) VAL_0
  rw [this]
  rfl
theorem EFI_0 (r : RD A H s) (hp : p < hn H s) (e : lt H s p = nI 58) (nc : ∀ j, j < p → lt H s j ≠ nI 58) (e1 : σ.1 189 1 = nI 0) (e2 : σ.1 189 2 = nI 0) (e3 : σ.1 189 3 = nI 0) : EFI A H s (p + 1) σ := by
  have l := RD_60 r
  refine ⟨0, 0, 0, e1, e2, e3, Nat.two_pow_pos _, Nat.two_pow_pos _, by omega, fun τ act kept v tp => ?_⟩
  have := then_0 tp l hp e nc
  rw [ef_0 tp.2.1, if_neg (by decide)]
  exact this
/-- how the reading ends -/
def JR (A : AW) (H : SHV) (MF : ST → Option (Int32 × ST)) (G : ST → Prop) (σ0 : ST) (r : Option (Int32 × ST)) : Prop := ∃ v u, r = some (v, u) ∧ Fr (fun y => 188 ≤ y ∧ y ≤ 194) σ0 u ∧ (∀ k, 4 ≤ k → u.1 189 k = σ0.1 189 k) ∧ (u.1 189 3 = 0 ∨ u.1 189 3 = 1) ∧ MDv A H MF v ∧ ((v = -1 ∧ G u) ∨ (v ≠ -1 ∧ ¬ v < 0))
theorem nI_m1F {a : Nat} (h : a < 2 ^ 31) {P : Prop} (q : nI a = -1) : P := by
  rw [nI_nm1 h] at q
  exact q.elim
def BSx (lw : Bool) (σ0 u : ST) : Prop := Fr (fun y => 188 ≤ y ∧ y ≤ 194) σ0 u ∧ (∀ k, 4 ≤ k → u.1 189 k = σ0.1 189 k) ∧ u.1 188 2 = b2 lw
theorem BS_fp {lw : Bool} {u w : ST} (b : BSx lw σ u) (f : Fp u w) : BSx lw σ w := ⟨b.1.tr (f.1.mono (fun y hy => by omega)), fun k hk => by rw [f.1.I (by omega)]; exact b.2.1 k hk, f.2.trans b.2.2⟩
theorem LL_end : LL H s (hn H s) = 0 := LL_f (Nat.lt_irrefl _)
theorem inR_0m {n : Nat} : inR (0 - nI 48) n = false := inR_f1 (by decide)
/-- the text ends inside the condition -/
theorem jc_end (a : AOK A) (r : RD A H s) {MF : ST → Option (Int32 × ST)} {K : Int32 → ST → Option (Int32 × ST)} (hK0 : ∀ τ', K (nI 0) τ' = some (τ'.1 247 22, τ')) {st : Nat} (j : JC A H MF K s (hn H s) st σ) : ((st = 1 ∨ st = 2 ∨ st = 4) ∧ MDf A H MF (hn H s)) ∨ ((st = 3 ∨ st = 5) ∧ MK A H MF K (hn H s) ∧ ∃ u k, f_X5_closeAtom σ = some u ∧ Fr (fun y => 190 ≤ y ∧ y ≤ 194) σ u ∧ GC A H s (k + 1) u) := by
  have le := Nat.le_refl (hn H s)
  have n33 : LL H s (hn H s) ≠ nI 33 := by rw [LL_end]; decide
  have n38 : LL H s (hn H s) ≠ nI 38 := by rw [LL_end]; decide
  have n124 : LL H s (hn H s) ≠ nI 124 := by rw [LL_end]; decide
  have nd : inR (LL H s (hn H s) - nI 48) (nT A) = false := by rw [LL_end]; exact inR_0m
  have cl : ∀ {d bo}, PN A H s (hn H s) d bo σ → ∃ u k, f_X5_closeAtom σ = some u ∧ Fr (fun y => 190 ≤ y ∧ y ≤ 194) σ u ∧ GC A H s (k + 1) u := fun pn => by
    obtain ⟨u, e, F, c⟩ := t_closeP a r pn le (fun _ => Or.inl rfl)
    obtain ⟨k, g⟩ := t_done r c (Or.inl rfl)
    exact ⟨u, k, e, F, g⟩
  rcases j with ⟨rfl, bd, ms⟩ | ⟨rfl, p1, bd, e33, ms⟩ | ⟨rfl, d, pn, ms⟩ | ⟨rfl, p1, d, pn, k3, e62, ms⟩ | ⟨rfl, d, b, pn, ms⟩
  · exact Or.inl ⟨Or.inl rfl, ms2_no a r le hK0 nd (ms1_name r le n33 ms)⟩
  · exact Or.inl ⟨Or.inr (Or.inl rfl), ms2_no a r le hK0 nd ms⟩
  · have hd : d < nT A := by obtain ⟨p0, neg, -, -, hd, -⟩ := pn; exact hd
    exact Or.inr ⟨Or.inl rfl, ms5_end r le n38 n124 (ms3_b a r hd le (fun z => by have := z.2; rw [LL_end] at this; exact absurd this (by decide)) ms), cl pn⟩
  · exact Or.inl ⟨Or.inr (Or.inr rfl), ms4_no r le hK0 (by rw [LL_end]; exact Or.inl (by decide)) ms⟩
  · exact Or.inr ⟨Or.inr rfl, ms5_end r le n38 n124 ms, cl pn⟩
theorem rd_step (r : RD A H s) (su : SHC H σ) (hp : p < hn H s) (n st : Nat) : f_X5_read_33 (231 + 2 * s) (KRd (231 + 2 * s)) (n + 1) (nI st) (nI p) σ = bd2 (f_X5_after (nI st) (lt H s p) σ) fun v7 s6 => if v7 = nI 11 then some (nI p, s6) else f_X5_read_33 (231 + 2 * s) (KRd (231 + 2 * s)) n v7 (nI (p + 1)) s6 := by
  have l := RD_60 r
  rw [f_X5_read_33, (su s r.2.1).2.1, if_pos ((nI_ltI (by omega) (by omega)).mpr hp), t_intAt r.1 su r.2.1 hp, bd2_s, nI_add]
theorem rd_end (r : RD A H s) (su : SHC H σ) (n st : Nat) : f_X5_read_33 (231 + 2 * s) (KRd (231 + 2 * s)) (n + 1) (nI st) (nI (hn H s)) σ = KRd (231 + 2 * s) (nI st) σ := by
  have l := RD_60 r
  rw [f_X5_read_33, (su s r.2.1).2.1, if_neg (fun q => Nat.lt_irrefl _ ((nI_ltI (by omega) (by omega)).mp q))]
theorem t_readC (a : AOK A) (c : CR 2 A σ) (r : RD A H s) (sc : SHC H σ) : JR A H (f_X12_conditionFault (nI s)) (fun u => ∃ k, GC A H s (k + 1) u) σ (f_X5_read (231 + 2 * s) (nI 0) σ) := by
  have l := RD_60 r
  obtain ⟨F0, z2, -, z1, z2', z3, z0, zk⟩ := r0_F (σ := σ) false
  have start := t_r0 (σ := σ) (231 + 2 * s) false
  rw [if_neg (by decide)] at start
  show JR A H (f_X12_conditionFault (nI s)) (fun u => ∃ k, GC A H s (k + 1) u) σ (f_X5_read (231 + 2 * s) (b2 false) σ)
  rw [start]
  refine loopX (fun n i (x : Nat × ST) => f_X5_read_33 (231 + 2 * s) (KRd (231 + 2 * s)) n (nI x.1) (nI i) x.2) (hn H s) (fun p x => BSx false σ x.2 ∧ x.2.1 189 3 = 0 ∧ JC A H (f_X12_conditionFault (nI s)) (KC s) s p x.1 x.2) (JR A H (f_X12_conditionFault (nI s)) (fun u => ∃ k, GC A H s (k + 1) u) σ) ?_ ?_ FU 0 (1, r0 false σ) (by rw [FU_eq]; omega) (Nat.zero_le _) ⟨⟨F0, zk, z2⟩, z3, Or.inl ⟨rfl, BD_0 false, cond_1⟩⟩
  · rintro n p ⟨st, u⟩ hp ⟨b, e3, j⟩
    have cu : CR 2 A u := CR_fr a c b.1 (fun x hx => by omega)
    have su : SHC H u := SHC_eq sc (fun x h1 h2 => ⟨(b.1.1 x (by omega)).1, (b.1.1 x (by omega)).2.1⟩)
    have E := rd_step r su hp n st
    obtain ⟨v, w, ev, fp, z⟩ := t_step (lw := false) a cu r b.2.2 hp (K := KC s) KC0 (fun mk _ => KC1 r hp mk) j
    have bw := BS_fp b fp
    have w3 : w.1 189 3 = 0 := by rw [fp.1.I (by omega)]; exact e3
    rw [ev, bd2_s] at E
    rcases z with ⟨rfl, md⟩ | ⟨v1, v5, j', -⟩ | ⟨-, q, -⟩
    · rw [if_pos rfl] at E
      exact Or.inr ⟨nI p, w, E, bw.1, bw.2.1, Or.inl w3, md, Or.inr ⟨fun q => nI_m1F (by omega) q, nI_pos (by omega)⟩⟩
    · rw [if_neg (fun q => by have := (nI_eq (by omega) (by omega)).mp q; omega)] at E
      exact Or.inl ⟨(v, w), E, bw, w3, j'⟩
    · cases q
  · rintro n ⟨st, u⟩ ⟨b, e3, j⟩
    have su : SHC H u := SHC_eq sc (fun x h1 h2 => ⟨(b.1.1 x (by omega)).1, (b.1.1 x (by omega)).2.1⟩)
    have E := rd_end r su n st
    show JR _ _ _ _ _ (f_X5_read_33 (231 + 2 * s) (KRd (231 + 2 * s)) (n + 1) (nI st) (nI (hn H s)) u)
    rw [E]
    unfold KRd
    rw [b.2.2, if_pos b2f0]
    rcases jc_end a r (K := KC s) KC0 j with ⟨q, md⟩ | ⟨q, mk, w, k, e, F, g⟩
    · rw [if_neg (show ¬ nI st = nI 3 by rcases q with rfl | rfl | rfl <;> decide), if_neg (show ¬ nI st = nI 5 by rcases q with rfl | rfl | rfl <;> decide), (su s r.2.1).2.1]
      exact ⟨_, u, rfl, b.1, b.2.1, Or.inl e3, md, Or.inr ⟨fun q => nI_m1F (by omega) q, nI_pos (by omega)⟩⟩
    · have bw : Fr (fun y => 188 ≤ y ∧ y ≤ 194) σ w := b.1.tr (F.mono (fun y hy => by omega))
      have fin : JR A H (f_X12_conditionFault (nI s)) (fun u => ∃ k, GC A H s (k + 1) u) σ (some (-1, w)) := ⟨-1, w, rfl, bw, fun k hk => by rw [F.I (by omega)]; exact b.2.1 k hk, Or.inl (by rw [F.I (by omega)]; exact e3), KCe r mk, Or.inl ⟨rfl, ⟨k, g⟩⟩⟩
      rcases q with rfl | rfl
      · rw [if_pos rfl, e, bind_s]; exact fin
      · rw [if_neg (by decide), if_pos rfl, e, bind_s]; exact fin
end
