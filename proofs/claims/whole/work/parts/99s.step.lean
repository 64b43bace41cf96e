section
/-! ===== both read on: the condition ===== -/
variable {A : AW} {H : SHV} {σ : ST} {s p : Nat}
theorem alen_n (neg : Bool) : alen neg none = (if neg = true then 1 else 0) + 1 := rfl
theorem alen_s (neg : Bool) (b : Nat) : alen neg (some b) = (if neg = true then 1 else 0) + 3 := rfl
abbrev SEMs (A : AW) (H : SHV) (s so run a1 n1 fr : Nat) (τ : ST) : Prop := SEM (lt H s) (hn H s) (nT A) (kd A) so run a1 n1 fr τ
def BD (A : AW) (H : SHV) (s p : Nat) (σ : ST) : Prop := ∃ k w, σ.1 190 0 = nI k ∧ σ.1 188 3 = b2 w ∧ (w = false → 1 ≤ k) ∧ 2 * k ≤ p ∧ ROWS σ k ∧ ∀ so run a1 n1 fr τ, SEMs A H s so run a1 n1 fr τ → (anyN (MT σ so run) (if w = true then k else k - 1) = true ∧ HO a1 n1 fr (hn H s) τ = some (nI 1, τ)) ∨ (anyN (MT σ so run) (if w = true then k else k - 1) = false ∧ VAL a1 n1 fr (hn H s) τ (b2 (if w = true then true else MT σ so run (k - 1))) p)
theorem BD_eq {u : ST} (h : BD A H s p σ) (e : ∀ y, 190 ≤ y → y ≤ 194 → u.1 y = σ.1 y) (e3 : u.1 188 3 = σ.1 188 3) : BD A H s p u := by
  obtain ⟨k, w, h1, h2, h3, h4, h5, h6⟩ := h
  refine ⟨k, w, by rw [e _ (by omega) (by omega)]; exact h1, by rw [e3]; exact h2, h3, h4, ?_, ?_⟩
  · unfold ROWS
    rw [e 191 (by omega) (by omega), e 192 (by omega) (by omega)]
    exact h5
  · unfold MT
    rw [e 191 (by omega) (by omega), e 192 (by omega) (by omega), e 193 (by omega) (by omega), e 194 (by omega) (by omega)]
    exact h6
/-- an atom stands ahead of p, not closed -/
def PN (A : AW) (H : SHV) (s p d : Nat) (bo : Option Nat) (σ : ST) : Prop := ∃ p0 neg, p = p0 + alen neg bo ∧ BD A H s p0 σ ∧ d < nT A ∧ (bo ≠ none → kd A d = 3) ∧ (neg = true → lt H s p0 = nI 33) ∧ lt H s (p0 + (if neg = true then 1 else 0)) = nI (48 + d) ∧ (∀ b, bo = some b → b ≤ 7 ∧ lt H s (p0 + (if neg = true then 1 else 0) + 1) = nI 62 ∧ lt H s (p0 + (if neg = true then 1 else 0) + 2) = nI (48 + b)) ∧ σ.1 188 5 = nI d ∧ σ.1 188 4 = b2 neg ∧ σ.1 188 6 = bdv bo
def CL (A : AW) (H : SHV) (s p : Nat) (σ : ST) : Prop := ∃ k, σ.1 190 0 = nI (k + 1) ∧ k < 30 ∧ 2 * k + 1 ≤ p ∧ ROWS σ (k + 1) ∧ ∀ so run a1 n1 fr τ, SEMs A H s so run a1 n1 fr τ → (anyN (MT σ so run) k = true ∧ HO a1 n1 fr (hn H s) τ = some (nI 1, τ)) ∨ (anyN (MT σ so run) k = false ∧ VAL a1 n1 fr (hn H s) τ (b2 (MT σ so run k)) p)
/-- the condition of k ALLs means what the text means -/
def GC (A : AW) (H : SHV) (s k : Nat) (σ : ST) : Prop := σ.1 190 0 = nI k ∧ k ≤ 30 ∧ ∀ so run a1 n1 fr τ, SEMs A H s so run a1 n1 fr τ → HO a1 n1 fr (hn H s) τ = some (b2 (CMr (σ.1 191) (σ.1 192) (σ.1 193) (σ.1 194) k so run), τ)
theorem anyN_c {m k : Nat → Bool} {n : Nat} (h : ∀ i, i < n → m i = k i) : anyN m n = anyN k n := anyN_congr h
theorem t_closeP (a : AOK A) (r : RD A H s) {d : Nat} {bo : Option Nat} (h : PN A H s p d bo σ) (hp : p ≤ hn H s) (h62 : bo = none → p = hn H s ∨ lt H s p ≠ nI 62) : ∃ u, f_X5_closeAtom σ = some u ∧ Fr (fun y => 190 ≤ y ∧ y ≤ 194) σ u ∧ CL A H s p u := by
  have l := RD_60 r
  have hT := a.1.1
  obtain ⟨p0, neg, hp0, ⟨k, w, b1, b2', b3, b4, b5, b6⟩, hd, hk3, n33, l48, lb, r5, r4, r6⟩ := h
  have al := bl_pos bo
  have al1 : 1 ≤ alen neg bo := by unfold alen; omega
  obtain ⟨u, n', e, en, hn30, F, u190, uR, uM⟩ := t_close b1 (Or.inl (show k < 30 by omega)) b3 b2' (show d < 10 by omega) r5 r4 r6 (fun b hb => (lb b hb).1) b5
  refine ⟨u, e, F, n', u190, hn30, ?_, uR, fun so run a1 n1 fr τ sm => ?_⟩
  · cases w with
    | true => rw [if_pos rfl] at en; omega
    | false => rw [if_neg (by decide)] at en; omega
  · obtain ⟨M1, M2⟩ := uM so run sm.1.1 sm.1.2.1
    have en2 : (if w = true then k else k - 1) = n' := by
      cases w with
      | true => rw [if_pos rfl] at en; rw [if_pos rfl]; omega
      | false => rw [if_neg (by decide)] at en; rw [if_neg (by decide)]; omega
    have ea : anyN (MT u so run) n' = anyN (MT σ so run) n' := anyN_congr M1
    rcases b6 so run a1 n1 fr τ sm with ⟨q1, q2⟩ | ⟨q1, q2⟩
    · left
      rw [en2] at q1
      exact ⟨ea.trans q1, q2⟩
    · right
      rw [en2] at q1
      refine ⟨ea.trans q1, ?_⟩
      have ato : ATO (lt H s) (hn H s) p0 d neg bo := by
        refine ⟨by omega, n33, l48, ?_⟩
        cases bo with
        | none =>
          have hpq : p = p0 + (if neg = true then 1 else 0) + 1 := by rw [alen_n] at hp0; omega
          show _ = _ ∨ _
          rw [← hpq]
          exact h62 rfl
        | some b => exact lb b rfl
      have hX : (if w = true then true else MT σ so run (k - 1)) = (if w = true then true else MT σ so run n') := by
        cases w with
        | true => rw [if_pos rfl, if_pos rfl]
        | false =>
          rw [if_neg (by decide)] at en2
          rw [if_neg (by decide), if_neg (by decide), en2]
      rw [M2, hp0, ← hX]
      exact ev_atom sm l (by omega) hd hk3 ato q2
theorem t_sep (r : RD A H s) (h : CL A H s p σ) (hp : p < hn H s) (e : lt H s p = nI 38 ∨ lt H s p = nI 124) : BD A H s (p + 1) (setI σ 188 3 (b2 (decide (lt H s p = nI 124)))) := by
  have l := RD_60 r
  obtain ⟨k, h1, h2, h3, h4, h5⟩ := h
  have F : Fr (fun y => y = 188) σ (setI σ 188 3 (b2 (decide (lt H s p = nI 124)))) := Fr_setI rfl
  refine ⟨k + 1, decide (lt H s p = nI 124), by rw [F.I (by decide)]; exact h1, I_at _ _ _ _, fun _ => by omega, by omega, ?_, fun so run a1 n1 fr τ sm => ?_⟩
  · unfold ROWS
    rw [(F.1 191 (by decide)).1, (F.1 192 (by decide)).1]
    exact h4
  · unfold MT
    rw [(F.1 191 (by decide)).1, (F.1 192 (by decide)).1, (F.1 193 (by decide)).1, (F.1 194 (by decide)).1]
    rcases e with e | e
    · have e' : decide (lt H s p = nI 124) = false := decide_eq_false (by rw [e]; decide)
      rw [e', if_neg (by decide), if_neg (by decide), Nat.add_sub_cancel]
      rcases h5 so run a1 n1 fr τ sm with q | ⟨q1, q2⟩
      · exact Or.inl q
      · exact Or.inr ⟨q1, ev_and sm l hp e q2⟩
    · rw [decide_eq_true e, if_pos rfl, if_pos rfl]
      rcases h5 so run a1 n1 fr τ sm with ⟨q1, q2⟩ | ⟨q1, q2⟩
      · exact Or.inl ⟨by rw [anyN]; unfold MT at q1; rw [q1]; rfl, q2⟩
      · rcases ev_or sm l hp e q2 with ⟨z1, z2⟩ | ⟨z1, z2⟩
        · exact Or.inl ⟨by rw [anyN]; unfold MT at z1; rw [z1, Bool.or_true], z2⟩
        · exact Or.inr ⟨by rw [anyN]; unfold MT at q1 z1; rw [q1, z1]; rfl, z2⟩
theorem t_done (r : RD A H s) (h : CL A H s p σ) (hp : p = hn H s ∨ (p < hn H s ∧ lt H s p = nI 58)) : ∃ k, GC A H s (k + 1) σ := by
  have l := RD_60 r
  obtain ⟨k, h1, h2, h3, h4, h5⟩ := h
  refine ⟨k, h1, by omega, fun so run a1 n1 fr τ sm => ?_⟩
  unfold CMr
  rw [decide_eq_false (show ¬ k + 1 = 0 by omega), Bool.false_or, anyN]
  rcases h5 so run a1 n1 fr τ sm with ⟨q1, q2⟩ | ⟨q1, q2⟩
  · unfold MT at q1
    rw [q1, q2]; rfl
  · have := ev_end sm l hp q2
    unfold MT at q1 this
    rw [q1, this, Bool.false_or]
/-! the class's steps -/
theorem c_kindOf (a : AOK A) (c : CR 2 A σ) (y : Int32) : f_X5_kindOf y σ = some (if inR y (nT A) = true then nI (kd A y.toNatClampNeg) else -1, σ) := by
  have hT := a.1.1
  unfold f_X5_kindOf
  rw [c.1.1, in_g]
  cases g : inR y (nT A) with
  | false => rw [if_neg (by decide), if_neg (by decide)]
  | true =>
    obtain ⟨d, hd, rfl⟩ := inR_of g (by omega)
    rw [if_pos rfl, if_pos rfl, rdI_ok (show d < 10 by omega) (by decide), bind_s, (c.2.1 d hd).1, nI_cl (by omega)]
theorem c_afterName_no (a : AOK A) (c : CR 2 A σ) {x : Int32} (ng : Int32) (h : inR (x - nI 48) (nT A) = false) : f_X5_afterName x ng σ = some (nI 11, σ) := by
  unfold f_X5_afterName
  rw [c_kindOf a c, h, if_neg (by decide), bd2_s, if_pos rfl]
theorem dig_of (hT : nT A ≤ 10) {x : Int32} (h : inR (x - nI 48) (nT A) = true) : ∃ d, d < nT A ∧ x = nI (48 + d) ∧ x - nI 48 = nI d := by
  obtain ⟨d, hd, e⟩ := inR_of h (by omega)
  refine ⟨d, hd, ?_, e⟩
  rw [← nI_add, ← e, Int32.add_comm, Int32.sub_add_cancel]
def nmS (σ : ST) (d : Nat) (ng : Bool) : ST := setI (setI (setI σ 188 5 (nI d)) 188 4 (b2 ng)) 188 6 (-1)
theorem b2_01' (b : Bool) : b2 b = 0 ∨ b2 b = 1 := by cases b <;> decide
theorem c_afterName (a : AOK A) (c : CR 2 A σ) {d : Nat} (hd : d < nT A) (ng : Bool) : f_X5_afterName (nI (48 + d)) (b2 ng) σ = some (nI 3, nmS σ d ng) := by
  have hT := a.1.1
  have hk := a.2.1 d hd
  unfold f_X5_afterName
  rw [nI_d48, c_kindOf a c, guardT hd (by omega), if_pos rfl, bd2_s, nI_cl (by omega), if_neg (show ¬ nI (kd A d) = -1 by rw [nI_nm1 (by omega)]; exact id), pfI_s, bind_s, pfZ_s _ _ _ (b2_01' ng), bind_s, pfI_s, bind_s]
  rfl
theorem nmS_F {d : Nat} {ng : Bool} : Fr (fun y => y = 188) σ (nmS σ d ng) ∧ (nmS σ d ng).1 188 3 = σ.1 188 3 ∧ (nmS σ d ng).1 188 2 = σ.1 188 2 ∧ (nmS σ d ng).1 188 5 = nI d ∧ (nmS σ d ng).1 188 4 = b2 ng ∧ (nmS σ d ng).1 188 6 = -1 := by
  unfold nmS
  refine ⟨((Fr_setI (W := fun y => y = 188) rfl).tr (Fr_setI rfl)).tr (Fr_setI rfl), ?_, ?_, ?_, ?_, I_at _ _ _ _⟩
  · rw [I_ne (Or.inr (by decide)), I_ne (Or.inr (by decide)), I_ne (Or.inr (by decide))]
  · rw [I_ne (Or.inr (by decide)), I_ne (Or.inr (by decide)), I_ne (Or.inr (by decide))]
  · rw [I_ne (Or.inr (by decide)), I_ne (Or.inr (by decide)), I_at]
  · rw [I_ne (Or.inr (by decide)), I_at]
/-- what a step leaves -/
def Fp (σ u : ST) : Prop := Fr (fun y => y = 188 ∨ (190 ≤ y ∧ y ≤ 194)) σ u ∧ u.1 188 2 = σ.1 188 2
theorem Fp.rf (σ : ST) : Fp σ σ := ⟨Fr.rf _ _, rfl⟩
theorem Fp.tr {σ s u : ST} (h : Fp σ s) (g : Fp s u) : Fp σ u := ⟨h.1.tr g.1, g.2.trans h.2⟩
variable {MF : ST → Option (Int32 × ST)} {K : Int32 → ST → Option (Int32 × ST)}
def JC (A : AW) (H : SHV) (MF : ST → Option (Int32 × ST)) (K : Int32 → ST → Option (Int32 × ST)) (s p st : Nat) (σ : ST) : Prop := (st = 1 ∧ BD A H s p σ ∧ MS A H MF K (E1 s) p p) ∨ (st = 2 ∧ 1 ≤ p ∧ BD A H s (p - 1) σ ∧ lt H s (p - 1) = nI 33 ∧ MS A H MF K (E2 s) (p + 1) p) ∨ (st = 3 ∧ ∃ d, PN A H s p d none σ ∧ MS A H MF K (E3 s d) p p) ∨ (st = 4 ∧ 1 ≤ p ∧ ∃ d, PN A H s (p - 1) d none σ ∧ kd A d = 3 ∧ lt H s (p - 1) = nI 62 ∧ MS A H MF K (E4 s) p p) ∨ (st = 5 ∧ ∃ d b, PN A H s p d (some b) σ ∧ MS A H MF K (E5 s) p p)
def STEP (A : AW) (H : SHV) (MF : ST → Option (Int32 × ST)) (K : Int32 → ST → Option (Int32 × ST)) (s p : Nat) (lw : Bool) (σ : ST) (r : Option (Int32 × ST)) : Prop := ∃ v u, r = some (nI v, u) ∧ Fp σ u ∧ ((v = 11 ∧ MDf A H MF p) ∨ (1 ≤ v ∧ v ≤ 5 ∧ JC A H MF K s (p + 1) v u ∧ lt H s p ≠ nI 58) ∨ (v = 6 ∧ lw = true ∧ lt H s p = nI 58 ∧ (∃ k, GC A H s (k + 1) u) ∧ MK A H MF K p))
theorem d_ne {d k : Nat} (hd : d < 10) (hk : k < 48 ∨ 57 < k) (hk2 : k < 2 ^ 31) : nI (48 + d) ≠ nI k := dig_ne hd hk hk2
/-- behind an atom -/
theorem t_afterAtom (a : AOK A) (r : RD A H s) {lw : Bool} (h2 : σ.1 188 2 = b2 lw) (hp : p < hn H s) (hK1 : MK A H MF K p → (lw = true → lt H s p ≠ nI 58) → MDf A H MF p) {d : Nat} {bo : Option Nat} (pn : PN A H s p d bo σ) (h62 : bo = none → lt H s p ≠ nI 62) (ms : MS A H MF K (E5 s) p p) : STEP A H MF K s p lw σ (f_X5_afterAtom (lt H s p) σ) := by
  have cl := t_closeP a r pn (Nat.le_of_lt hp) (fun z => Or.inr (h62 z))
  obtain ⟨u, e, F, c⟩ := cl
  have u2 : u.1 188 2 = b2 lw := by rw [F.I (by omega)]; exact h2
  have Fu : Fp σ u := ⟨F.mono (fun y hy => Or.inr hy), F.I (by omega) _⟩
  have sep : (lt H s p = nI 38 ∨ lt H s p = nI 124) → STEP A H MF K s p lw σ (some (nI 1, setI u 188 3 (b2 (decide (lt H s p = nI 124))))) := fun z => by
    refine ⟨1, _, rfl, Fu.tr ⟨Fr_setI (Or.inl rfl), I_ne (Or.inr (by decide))⟩, Or.inr (Or.inl ⟨by omega, by omega, Or.inl ⟨rfl, t_sep r c hp z, ms5_sep r hp z ms⟩, ?_⟩)⟩
    rcases z with z | z <;> rw [z] <;> decide
  unfold f_X5_afterAtom f_X5_afterAtom_28 f_X5_afterAtom_44
  by_cases z38 : lt H s p = nI 38
  · have := sep (Or.inl z38)
    rw [decide_eq_false (show ¬ lt H s p = nI 124 by rw [z38]; decide)] at this
    rw [if_pos z38, e, bind_s, if_neg (show ¬ lt H s p = nI 124 by rw [z38]; decide), pfZ_0, bind_s, if_neg (show ¬ lt H s p = nI 58 by rw [z38]; decide)]
    exact this
  · rw [if_neg z38]
    by_cases z124 : lt H s p = nI 124
    · have := sep (Or.inr z124)
      rw [decide_eq_true z124] at this
      rw [if_pos z124, e, bind_s, if_pos z124, pfZ_1, bind_s, if_neg (show ¬ lt H s p = nI 58 by rw [z124]; decide)]
      exact this
    · have mk := ms5_end r (Nat.le_of_lt hp) (by rw [LL_t hp]; exact z38) (by rw [LL_t hp]; exact z124) ms
      rw [if_neg z124]
      by_cases z58 : lt H s p = nI 58
      · rw [if_pos z58, h2]
        cases lw with
        | false =>
          rw [if_pos b2f0]
          exact ⟨11, σ, rfl, Fp.rf σ, Or.inl ⟨rfl, hK1 mk (fun z => by cases z)⟩⟩
        | true =>
          rw [if_neg b2t0, e, bind_s, if_neg z124, pfZ_0, bind_s, if_pos z58]
          obtain ⟨k, g1, g2, g3⟩ := t_done r c (Or.inr ⟨hp, z58⟩)
          have F3 : Fr (fun y => y = 188) u (setI u 188 3 0) := Fr_setI rfl
          refine ⟨6, _, rfl, Fu.tr ⟨Fr_setI (Or.inl rfl), I_ne (Or.inr (by decide))⟩, Or.inr (Or.inr ⟨rfl, rfl, z58, ⟨k, by rw [F3.I (by decide)]; exact g1, g2, ?_⟩, mk⟩)⟩
          rw [(F3.1 191 (by decide)).1, (F3.1 192 (by decide)).1, (F3.1 193 (by decide)).1, (F3.1 194 (by decide)).1]
          exact g3
      · rw [if_neg z58]
        exact ⟨11, σ, rfl, Fp.rf σ, Or.inl ⟨rfl, hK1 mk (fun _ => z58)⟩⟩
theorem after_k (st : Nat) (hst : st ≤ 5) (x : Int32) : f_X5_after (nI st) x σ = (if st = 0 then (if x = nI 58 then some (nI 6, σ) else bd2 (f_X5_afterAtomBegan x σ) fun v2 s1 => some (v2, s1)) else if st = 1 then bd2 (f_X5_afterAtomBegan x σ) (fun v4 s3 => some (v4, s3)) else if st = 2 then bd2 (f_X5_afterName x (nI 1) σ) (fun v6 s5 => some (v6, s5)) else if st = 3 then (if x = nI 62 then bd2 (f_X5_kindOf (σ.1 188 5) σ) (fun v10 s9 => if v10 = nI 3 then some (nI 4, s9) else bd2 (f_X5_afterAtom x s9) fun v12 s11 => some (v12, s11)) else bd2 (f_X5_afterAtom x σ) fun v8 s7 => some (v8, s7)) else if st = 4 then bd2 (f_X5_afterBound x σ) (fun v14 s13 => some (v14, s13)) else bd2 (f_X5_afterAtom x σ) (fun v16 s15 => some (v16, s15))) := by
  unfold f_X5_after
  rcases (show st = 0 ∨ st = 1 ∨ st = 2 ∨ st = 3 ∨ st = 4 ∨ st = 5 by omega) with rfl | rfl | rfl | rfl | rfl | rfl <;> rfl
theorem step_id {lw : Bool} {r : Option (Int32 × ST)} (h : STEP A H MF K s p lw σ r) : STEP A H MF K s p lw σ (bd2 r fun v u => some (v, u)) := by
  obtain ⟨v, u, e, g⟩ := h
  exact ⟨v, u, by rw [e, bd2_s], g⟩
theorem t_name (a : AOK A) (c : CR 2 A σ) (r : RD A H s) {lw : Bool} (hp : p < hn H s) (hK0 : ∀ τ', K (nI 0) τ' = some (τ'.1 247 22, τ')) {p0 : Nat} {ng : Bool} (hp0 : p = p0 + (if ng = true then 1 else 0)) (bd : BD A H s p0 σ) (h33 : ng = true → lt H s p0 = nI 33) (ms : MS A H MF K (E2 s) (p + 1) p) : STEP A H MF K s p lw σ (f_X5_afterName (lt H s p) (b2 ng) σ) := by
  have hT := a.1.1
  cases g : inR (lt H s p - nI 48) (nT A) with
  | false =>
    rw [c_afterName_no a c _ g]
    exact ⟨11, σ, rfl, Fp.rf σ, Or.inl ⟨rfl, ms2_no a r (Nat.le_of_lt hp) hK0 (by rw [LL_t hp]; exact g) ms⟩⟩
  | true =>
    obtain ⟨d, hd, e, -⟩ := dig_of hT g
    obtain ⟨F, f3, f2, f5, f4, f6⟩ := nmS_F (σ := σ) (d := d) (ng := ng)
    rw [e, c_afterName a c hd ng]
    refine ⟨3, nmS σ d ng, rfl, ⟨F.mono (fun y hy => Or.inl hy), f2⟩, Or.inr (Or.inl ⟨by omega, by omega, Or.inr (Or.inr (Or.inl ⟨rfl, d, ⟨p0, ng, ?_, BD_eq bd (fun y h1 h2 => (F.1 y (by omega)).1) f3, hd, fun z => absurd rfl z, h33, by rw [← hp0]; exact e, fun b hb => (by cases hb), f5, f4, f6⟩, ms2_yes a r hp hd e ms⟩)), ?_⟩)⟩
    · rw [alen_n]; omega
    · rw [e]; exact d_ne (by omega) (by omega) (by decide)
theorem t_step (a : AOK A) (c : CR 2 A σ) (r : RD A H s) {lw : Bool} (h2 : σ.1 188 2 = b2 lw) (hp : p < hn H s) (hK0 : ∀ τ', K (nI 0) τ' = some (τ'.1 247 22, τ')) (hK1 : MK A H MF K p → (lw = true → lt H s p ≠ nI 58) → MDf A H MF p) {st : Nat} (j : JC A H MF K s p st σ) : STEP A H MF K s p lw σ (f_X5_after (nI st) (lt H s p) σ) := by
  have hT := a.1.1
  have hle := Nat.le_of_lt hp
  rcases j with ⟨rfl, bd, ms⟩ | ⟨rfl, p1, bd, e33, ms⟩ | ⟨rfl, d, pn, ms⟩ | ⟨rfl, p1, d, pn, k3, e62, ms⟩ | ⟨rfl, d, b, pn, ms⟩
  · rw [after_k 1 (by decide), if_neg (by decide), if_pos rfl]
    refine step_id ?_
    unfold f_X5_afterAtomBegan
    by_cases z : lt H s p = nI 33
    · rw [if_pos z]
      exact ⟨2, σ, rfl, Fp.rf σ, Or.inr (Or.inl ⟨by omega, by omega, Or.inr (Or.inl ⟨rfl, by omega, by rw [Nat.add_sub_cancel]; exact bd, by rw [Nat.add_sub_cancel]; exact z, fun τ mc => (by
        obtain ⟨m, τ', q1, q2⟩ := ms1_bang r hp z ms τ mc
        exact ⟨m, τ', by omega, q2⟩)⟩), by rw [z]; decide⟩)⟩
    · rw [if_neg z]
      exact step_id (t_name a c r (ng := false) hp hK0 (by simp) bd (fun z => by cases z) (ms1_name r hle (by rw [LL_t hp]; exact z) ms))
  · rw [after_k 2 (by decide), if_neg (by decide), if_neg (by decide), if_pos rfl]
    exact step_id (t_name a c r (ng := true) hp hK0 (by simp; omega) bd (fun _ => e33) ms)
  · have hd : d < nT A := by obtain ⟨p0, neg, -, -, hd, -⟩ := pn; exact hd
    have r5 : σ.1 188 5 = nI d := by obtain ⟨p0, neg, -, -, -, -, -, -, -, r5, -⟩ := pn; exact r5
    have hk := a.2.1 d hd
    rw [after_k 3 (by decide), if_neg (by decide), if_neg (by decide), if_neg (by decide), if_pos rfl]
    by_cases z : lt H s p = nI 62
    · rw [if_pos z, r5, c_kindOf a c, guardT hd (by omega), if_pos rfl, bd2_s, nI_cl (by omega)]
      by_cases k3 : kd A d = 3
      · rw [if_pos (congrArg nI k3)]
        exact ⟨4, σ, rfl, Fp.rf σ, Or.inr (Or.inl ⟨by omega, by omega, Or.inr (Or.inr (Or.inr (Or.inl ⟨rfl, by omega, d, by rw [Nat.add_sub_cancel]; exact pn, k3, by rw [Nat.add_sub_cancel]; exact z, ms3_a a r hd k3 hp z ms⟩))), by rw [z]; decide⟩)⟩
      · rw [if_neg (fun y => k3 ((nI_eq (by omega) (by omega)).mp y))]
        refine step_id ?_
        have m5 := ms3_b a r hd hle (fun y => k3 y.1) ms
        have mk := ms5_end r hle (by rw [LL_t hp, z]; decide) (by rw [LL_t hp, z]; decide) m5
        unfold f_X5_afterAtom
        rw [if_neg (show ¬ lt H s p = nI 38 by rw [z]; decide), if_neg (show ¬ lt H s p = nI 124 by rw [z]; decide), if_neg (show ¬ lt H s p = nI 58 by rw [z]; decide)]
        exact ⟨11, σ, rfl, Fp.rf σ, Or.inl ⟨rfl, hK1 mk (fun _ => by rw [z]; decide)⟩⟩
    · rw [if_neg z]
      exact step_id (t_afterAtom a r h2 hp hK1 pn (fun _ => z) (ms3_b a r hd hle (fun y => z (by rw [← LL_t hp]; exact y.2)) ms))
  · rw [after_k 4 (by decide), if_neg (by decide), if_neg (by decide), if_neg (by decide), if_neg (by decide), if_pos rfl]
    refine step_id ?_
    unfold f_X5_afterBound
    by_cases z1 : lt H s p < nI 48
    · rw [if_pos z1]
      exact ⟨11, σ, rfl, Fp.rf σ, Or.inl ⟨rfl, ms4_no r hle hK0 (by rw [LL_t hp]; exact Or.inl z1) ms⟩⟩
    · rw [if_neg z1]
      by_cases z2 : nI 55 < lt H s p
      · rw [if_pos z2]
        exact ⟨11, σ, rfl, Fp.rf σ, Or.inl ⟨rfl, ms4_no r hle hK0 (by rw [LL_t hp]; exact Or.inr z2) ms⟩⟩
      · have z0 : ¬ lt H s p < 0 := fun y => z1 (Int32.lt_trans y (by decide))
        obtain ⟨x, hx, ex⟩ := nI_of z0
        have x48 : 48 ≤ x := Classical.byContradiction fun y => z1 (by rw [ex]; exact (nI_ltI hx (by omega)).mpr (by omega))
        have x55 : x ≤ 55 := Classical.byContradiction fun y => z2 (by rw [ex]; exact (nI_ltI (by omega) hx).mpr (by omega))
        obtain ⟨b, rfl⟩ : ∃ b, x = 48 + b := ⟨x - 48, by omega⟩
        have m5 := ms4_yes r hp z1 z2 ms
        rw [if_neg z2, ex, nI_d48, pfI_s, bind_s]
        have F : Fr (fun y => y = 188) σ (setI σ 188 6 (nI b)) := Fr_setI rfl
        obtain ⟨p0, neg, hp0, bd, hd, -, n33, l48, -, r5, r4, r6⟩ := pn
        have hq : p0 + (if neg = true then 1 else 0) + 1 = p - 1 := by rw [alen_n] at hp0; omega
        refine ⟨5, setI σ 188 6 (nI b), rfl, ⟨F.mono (fun y hy => Or.inl hy), I_ne (Or.inr (by decide))⟩, Or.inr (Or.inl ⟨by omega, by omega, Or.inr (Or.inr (Or.inr (Or.inr ⟨rfl, d, b, ⟨p0, neg, ?_, BD_eq bd (fun y h1 h2 => (F.1 y (by omega)).1) (I_ne (Or.inr (by decide))), hd, fun _ => k3, n33, l48, fun b' hb' => ?_, by rw [I_ne (Or.inr (by decide))]; exact r5, by rw [I_ne (Or.inr (by decide))]; exact r4, I_at _ _ _ _⟩, m5⟩))), ?_⟩)⟩
        · rw [alen_n] at hp0; rw [alen_s]; omega
        · cases hb'
          refine ⟨by omega, by rw [hq]; exact e62, ?_⟩
          rw [show p0 + (if neg = true then 1 else 0) + 2 = p by omega]
          exact ex
        · rw [ex]
          intro y
          have := (nI_eq (by omega) (by omega)).mp y
          omega
  · rw [after_k 5 (by decide), if_neg (by decide), if_neg (by decide), if_neg (by decide), if_neg (by decide), if_neg (by decide)]
    exact step_id (t_afterAtom a r h2 hp hK1 pn (fun y => by cases y) ms)
end
