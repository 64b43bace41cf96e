section
/-! ===== both sides hold one state ===== -/
abbrev SHV : Type := (Nat → Nat) × (Nat → Nat) × (Nat → Nat → Int64)
/-- what a shelf holds: 0 nothing, p + 1 a piece, 101 + a sort a row; how many elements; the elements -/
def hq (H : SHV) (s : Nat) : Nat := H.1 s
def hn (H : SHV) (s : Nat) : Nat := H.2.1 s
def hv (H : SHV) (s j : Nat) : Int64 := H.2.2 s j
def HOK (A : AW) (H : SHV) : Prop := ∀ s, s < 8 → hn H s ≤ 60 ∧ hq H s ≤ 104 ∧ (hq H s < 101 → hn H s = 0 ∧ hq H s ≤ nP A)
def SHC (H : SHV) (σ : ST) : Prop := ∀ s, s < 8 → σ.1 (231 + 2 * s) 0 = hI (hq H s) ∧ σ.1 (231 + 2 * s) 1 = nI (hn H s) ∧ ∀ j, j < 60 → σ.2.1 (231 + 2 * s + 1) j = hv H s j
def SHM (H : SHV) (σ : ST) : Prop := ∀ s, s < 8 → σ.1 263 s = hI (hq H s) ∧ (101 ≤ hq H s → σ.1 264 s = nI (hn H s)) ∧ ∀ j, j < 60 → σ.2.1 265 (60 * s + j) = hv H s j
/-- a world, shelves, refusals, the fault, the trace, the image -/
abbrev XS : Type := AW × SHV × (Nat → Int32) × Int32 × (Nat × (Nat → Int32)) × Option AW
def IC0 (σ : ST) : Option AW → Prop
  | none => σ.1 0 10 = 0
  | some B => σ.1 0 10 = 1 ∧ CR 95 B σ
/-- what is copied as it stands is well: references are pieces, truths are 0 or 1 -/
def VB (σ : ST) : Prop := (∀ k p, k < 16 → (σ.2.2.1 7 k = some p ∨ σ.2.2.1 100 k = some p) → ∃ c, chkP [6, 4, 8, 9] σ p = some c) ∧ (∀ h, h < 6 → ((σ.1 (59 + 6 * h) 3 = 0 ∨ σ.1 (59 + 6 * h) 3 = 1) ∧ (σ.1 (59 + 6 * h) 5 = 0 ∨ σ.1 (59 + 6 * h) 5 = 1)) ∧ (σ.1 (152 + 6 * h) 3 = 0 ∨ σ.1 (152 + 6 * h) 3 = 1) ∧ (σ.1 (152 + 6 * h) 5 = 0 ∨ σ.1 (152 + 6 * h) 5 = 1)) ∧ (σ.1 189 3 = 0 ∨ σ.1 189 3 = 1) ∧ (σ.1 189 5 = 0 ∨ σ.1 189 5 = 1)
theorem chkP_sub {σ s : ST} {cs : List Nat} {p c : Nat} (h : chkP cs σ p = some c) (hl : ∃ l, s.2.2.2 = σ.2.2.2 ++ l) : chkP cs s p = some c := by
  obtain ⟨l, hl⟩ := hl
  unfold chkP at *
  split at h
  · rename_i h1
    rw [if_pos h1]
    cases hd : σ.2.2.2[p - 296]? with
    | none => rw [hd] at h; cases h
    | some d =>
      rw [hd] at h
      rw [hl, List.getElem?_append_left (List.getElem?_eq_some_iff.mp hd).1, hd]
      exact h
  · cases h
theorem VB_eq {σ s : ST} (v : VB σ) (hl : ∃ l, s.2.2.2 = σ.2.2.2 ++ l) (t7 : ∀ k, k < 16 → s.2.2.1 7 k = σ.2.2.1 7 k ∨ ∀ p, s.2.2.1 7 k = some p → ∃ c, chkP [6, 4, 8, 9] s p = some c) (t100 : s.2.2.1 100 = σ.2.2.1 100) (e1 : ∀ h, h < 6 → s.1 (59 + 6 * h) 3 = σ.1 (59 + 6 * h) 3 ∧ s.1 (59 + 6 * h) 5 = σ.1 (59 + 6 * h) 5 ∧ s.1 (152 + 6 * h) 3 = σ.1 (152 + 6 * h) 3 ∧ s.1 (152 + 6 * h) 5 = σ.1 (152 + 6 * h) 5) (e3 : s.1 189 3 = σ.1 189 3) (e5 : s.1 189 5 = σ.1 189 5) : VB s := by
  obtain ⟨v1, v2, v3, v4⟩ := v
  refine ⟨fun k p hk hp => ?_, fun h hh => ?_, by rw [e3]; exact v3, by rw [e5]; exact v4⟩
  · rcases hp with hp | hp
    · rcases t7 k hk with t7 | t7
      · rw [t7] at hp
        obtain ⟨c, e⟩ := v1 k p hk (Or.inl hp)
        exact ⟨c, chkP_sub e hl⟩
      · exact t7 p hp
    · rw [t100] at hp
      obtain ⟨c, e⟩ := v1 k p hk (Or.inr hp)
      exact ⟨c, chkP_sub e hl⟩
  · obtain ⟨q1, q2, q3, q4⟩ := e1 h hh
    rw [q1, q2, q3, q4]
    exact v2 h hh
theorem VB_fr {W : Nat → Prop} {σ s : ST} (v : VB σ) (F : Fr W σ s) (hW : ∀ y, W y → y < 2 ∨ 190 ≤ y) : VB s := by
  have n : ∀ y, 2 ≤ y → y < 190 → ¬ W y := fun y h1 h2 q => by have := hW y q; omega
  refine VB_eq v ⟨[], by rw [F.2, List.append_nil]⟩ (fun k _ => Or.inl (F.T (n 7 (by omega) (by omega)) k)) (F.1 100 (n _ (by omega) (by omega))).2.2 (fun h hh => ⟨F.I (n _ (by omega) (by omega)) _, F.I (n _ (by omega) (by omega)) _, F.I (n _ (by omega) (by omega)) _, F.I (n _ (by omega) (by omega)) _⟩) (F.I (n _ (by omega) (by omega)) _) (F.I (n _ (by omega) (by omega)) _)
def IC (σ : ST) (o : Option AW) : Prop := IC0 σ o ∧ VB σ
def MIr (σ : ST) (B : AW) : Prop := (σ.1 289 0 = nI (nT B) ∧ σ.1 289 1 = nI (nH B) ∧ σ.1 289 2 = nI (nP B)) ∧ MRr (fun i => σ.1 290 i) (fun i => σ.1 290 (10 + i)) (fun i => σ.1 290 (20 + i)) (fun i => σ.1 291 i) (fun i => σ.1 291 (18 + i)) (fun i => σ.1 291 (6 + i)) (fun i => σ.1 291 (12 + i)) (fun i => σ.1 292 i) (fun i => σ.1 292 (16 + i)) (fun i => σ.1 292 (32 + i)) (fun i => σ.1 292 (48 + i)) (fun i => σ.1 292 (64 + i)) (fun i => σ.1 292 (80 + i)) (fun i => σ.1 292 (96 + i)) (fun i => σ.1 293 i) B
def IM (σ : ST) : Option AW → Prop
  | none => σ.1 247 53 = 0
  | some B => σ.1 247 53 = 1 ∧ MIr σ B
def XC (X : XS) (σ : ST) : Prop := CR 2 X.1 σ ∧ CI X.1 σ ∧ SHC X.2.1 σ ∧ (∀ j, 1 ≤ j → j < 8 → σ.1 229 j = X.2.2.1 j) ∧ σ.1 0 13 = X.2.2.2.1 ∧ (σ.1 230 0 = nI X.2.2.2.2.1.1 ∧ ∀ i, i < X.2.2.2.2.1.1 → σ.1 230 (1 + i) = X.2.2.2.2.1.2 i) ∧ IC σ X.2.2.2.2.2
def XM (X : XS) (σ : ST) : Prop := MR X.1 σ ∧ SHM X.2.1 σ ∧ (∀ j, 1 ≤ j → j < 8 → σ.1 294 j = X.2.2.1 j) ∧ σ.1 247 21 = X.2.2.2.1 ∧ (σ.1 247 52 = nI X.2.2.2.2.1.1 ∧ ∀ i, i < X.2.2.2.2.1.1 → σ.1 288 i = X.2.2.2.2.1.2 i) ∧ IM σ X.2.2.2.2.2
def XO (X : XS) : Prop := AOK X.1 ∧ HOK X.1 X.2.1 ∧ X.2.2.2.2.1.1 ≤ 20 ∧ ∀ B, X.2.2.2.2.2 = some B → AOK B
def XR (X : XS) (σ : ST) : Prop := XO X ∧ XC X σ ∧ XM X σ
/-- the class ran: the reference's cells are as they were -/
def FrC (σ s : ST) : Prop := (∀ x, 247 ≤ x → x ≤ 295 → s.1 x = σ.1 x ∧ s.2.1 x = σ.2.1 x ∧ s.2.2.1 x = σ.2.2.1 x) ∧ s.2.2.2.length ≤ σ.2.2.2.length + 16
/-- the reference ran -/
def FrM (σ s : ST) : Prop := Fr (fun y => 247 ≤ y ∧ y ≤ 295) σ s
theorem FrM.rf (σ : ST) : FrM σ σ := Fr.rf _ _
theorem FrC.rf (σ : ST) : FrC σ σ := ⟨fun _ _ _ => ⟨rfl, rfl, rfl⟩, by omega⟩
theorem FrC_w {W : Nat → Prop} {σ s : ST} (h : Fr W σ s) (hW : ∀ y, W y → y < 247) : FrC σ s := ⟨fun x h1 h2 => h.1 x (fun q => by have := hW x q; omega), by rw [h.2]; omega⟩
theorem MRr_c {kt lt txt hl ht hp hst p0 p1 p2 p3 p4 p5 p6 w kt' lt' txt' hl' ht' hp' hst' p0' p1' p2' p3' p4' p5' p6' w' : Nat → Int32} {A : AW} (m : MRr kt lt txt hl ht hp hst p0 p1 p2 p3 p4 p5 p6 w A) (e1 : kt' = kt) (e2 : lt' = lt) (e3 : txt' = txt) (e4 : hl' = hl) (e5 : ht' = ht) (e6 : hp' = hp) (e7 : hst' = hst) (f0 : p0' = p0) (f1 : p1' = p1) (f2 : p2' = p2) (f3 : p3' = p3) (f4 : p4' = p4) (f5 : p5' = p5) (f6 : p6' = p6) (fw : w' = w) : MRr kt' lt' txt' hl' ht' hp' hst' p0' p1' p2' p3' p4' p5' p6' w' A := by
  subst e1 e2 e3 e4 e5 e6 e7 f0 f1 f2 f3 f4 f5 f6 fw
  exact m
theorem MIr_eq {σ s : ST} {B : AW} (m : MIr σ B) (e : ∀ x, 289 ≤ x → x ≤ 293 → s.1 x = σ.1 x) : MIr s B := by
  have e289 := e 289 (by omega) (by omega)
  have e290 := e 290 (by omega) (by omega)
  have e291 := e 291 (by omega) (by omega)
  have e292 := e 292 (by omega) (by omega)
  have e293 := e 293 (by omega) (by omega)
  unfold MIr
  rw [e289, e290, e291, e292, e293]
  exact m
theorem IM_eq {σ s : ST} {o : Option AW} (m : IM σ o) (e53 : s.1 247 53 = σ.1 247 53) (e : ∀ x, 289 ≤ x → x ≤ 293 → s.1 x = σ.1 x) : IM s o := by
  cases o with
  | none => exact e53.trans m
  | some B => exact ⟨e53.trans m.1, MIr_eq m.2 e⟩
theorem SHM_eq {H : SHV} {σ s : ST} (m : SHM H σ) (e3 : s.1 263 = σ.1 263) (e4 : s.1 264 = σ.1 264) (e5 : s.2.1 265 = σ.2.1 265) : SHM H s := by
  unfold SHM
  rw [e3, e4, e5]
  exact m
theorem SHC_eq {H : SHV} {σ s : ST} (m : SHC H σ) (e : ∀ x, 231 ≤ x → x ≤ 246 → s.1 x = σ.1 x ∧ s.2.1 x = σ.2.1 x) : SHC H s := by
  intro j hj
  rw [(e (231 + 2 * j) (by omega) (by omega)).1, (e (231 + 2 * j + 1) (by omega) (by omega)).2]
  exact m j hj
theorem IC_eq {σ s : ST} {o : Option AW} (ok : ∀ B, o = some B → AOK B) (m : IC σ o) (e10 : s.1 0 10 = σ.1 0 10) (h : Sm (fun x => (95 ≤ x ∧ x < 188) ∨ (296 ≤ x ∧ x < 296 + σ.2.2.2.length)) σ s) (v : VB s) : IC s o := by
  refine ⟨?_, v⟩
  have m := m.1
  cases o with
  | none => exact e10.trans m
  | some B => exact ⟨e10.trans m.1, CR_sm (ok B rfl) m.2 h⟩
theorem XM_fr {X : XS} {σ s : ST} (m : XM X σ) (h : FrC σ s) : XM X s := by
  obtain ⟨h, -⟩ := h
  obtain ⟨m1, m2, m3, m4, ⟨m5, m6⟩, m7⟩ := m
  have e : ∀ x, 247 ≤ x → x ≤ 295 → s.1 x = σ.1 x := fun x h1 h2 => (h x h1 h2).1
  have e7 := e 247 (by omega) (by omega)
  refine ⟨MR_eq m1 (by rw [e7]) (by rw [e7]) (by rw [e7]) (fun y h1 h2 => e y (by omega) (by omega)), SHM_eq m2 (e _ (by omega) (by omega)) (e _ (by omega) (by omega)) (h _ (by omega) (by omega)).2.1, ?_, by rw [e7]; exact m4, ⟨by rw [e7]; exact m5, ?_⟩, IM_eq m7 (by rw [e7]) (fun x h1 h2 => e x (by omega) (by omega))⟩
  · rw [e 294 (by omega) (by omega)]; exact m3
  · rw [e 288 (by omega) (by omega)]; exact m6
theorem XC_fr {X : XS} {σ s : ST} (o : XO X) (m : XC X σ) (h : FrM σ s) : XC X s := by
  obtain ⟨m1, m2, m3, m4, m5, ⟨m6, m7⟩, m8⟩ := m
  have e : ∀ x, x < 247 → s.1 x = σ.1 x := fun x h1 => (h.1 x (by omega)).1
  refine ⟨CR_fr o.1 m1 h (fun x hx => by omega), CI_fw m2 h (fun y hy => by omega), SHC_eq m3 (fun x h1 h2 => ⟨(h.1 x (by omega)).1, (h.1 x (by omega)).2.1⟩), ?_, by rw [e 0 (by omega)]; exact m5, ⟨by rw [e 230 (by omega)]; exact m6, ?_⟩, IC_eq o.2.2.2 m8 (by rw [e 0 (by omega)]) (Sm_fr h (fun x hx => by omega)) (VB_fr m8.2 h (fun y hy => by omega))⟩
  · rw [e 229 (by omega)]; exact m4
  · rw [e 230 (by omega)]; exact m7
/-- a call: both sides answer alike, and hold one state afterwards -/
def OUT {α : Type} (c m : ST → Option (α × ST)) (σ : ST) : Prop := ∃ X' v s u, c σ = some (v, s) ∧ m s = some (v, u) ∧ XR X' u ∧ u.2.2.2.length ≤ σ.2.2.2.length + 16
theorem OUT_mk {α : Type} {c m : ST → Option (α × ST)} {X X' : XS} {σ s : ST} {v : α} (h : XR X σ) (o : XO X') (e : c σ = some (v, s)) (hc : XC X' s) (hF : FrC σ s) (hm : XM X s → ∃ u, m s = some (v, u) ∧ XM X' u ∧ FrM s u) : OUT c m σ := by
  obtain ⟨u, e2, m2, F2⟩ := hm (XM_fr h.2.2 hF)
  refine ⟨X', v, s, u, e, e2, ⟨o, XC_fr o hc F2, m2⟩, ?_⟩
  have := hF.2
  rw [F2.2]
  exact this
theorem OUT_same {α : Type} {c m : ST → Option (α × ST)} {X : XS} {σ : ST} {v : α} (h : XR X σ) (e : c σ = some (v, σ)) (e2 : m σ = some (v, σ)) : OUT c m σ := ⟨X, v, σ, σ, e, e2, h, by omega⟩
theorem FrC_fd {σ s : ST} (h : Fxd σ s) : FrC σ s := FrC_w h.1 (fun y hy => by omega)
theorem XC_fd {X : XS} {σ s : ST} (o : XO X) (m : XC X σ) (h : Fxd σ s) (i : CI X.1 s) : XC X s := by
  obtain ⟨m1, m2, m3, m4, m5, ⟨m6, m7⟩, m8⟩ := m
  have e : ∀ x, 229 ≤ x → x ≤ 246 → s.1 x = σ.1 x ∧ s.2.1 x = σ.2.1 x := fun x h1 h2 => ⟨(h.1.1 x (by omega)).1, (h.1.1 x (by omega)).2.1⟩
  refine ⟨CR_fxd o.1 m1 h, i, SHC_eq m3 (fun x h1 h2 => e x (by omega) (by omega)), ?_, by rw [h.2.1 13 (by omega) (by omega)]; exact m5, ⟨by rw [(e 230 (by omega) (by omega)).1]; exact m6, ?_⟩, IC_eq o.2.2.2 m8 (h.2.1 10 (by omega) (by omega)) (Sm_fr h.1 (fun x hx => by omega)) (VB_fr m8.2 h.1 (fun y hy => by omega))⟩
  · rw [(e 229 (by omega) (by omega)).1]; exact m4
  · rw [(e 230 (by omega) (by omega)).1]; exact m7
theorem XM_fz {X : XS} {σ s : ST} (m : XM X σ) (h : Fz σ s) : XM X s := by
  obtain ⟨m1, m2, m3, m4, ⟨m5, m6⟩, m7⟩ := m
  have e : ∀ x, ((248 ≤ x ∧ x ≤ 265) ∨ (288 ≤ x ∧ x ≤ 294)) → s.1 x = σ.1 x := fun x h1 => (h.1.1 x (by omega)).1
  have e7 : ∀ k, (k = 0 ∨ k = 4 ∨ k = 9 ∨ k = 21 ∨ k = 52 ∨ k = 53) → s.1 247 k = σ.1 247 k := fun k hk => h.2 k (by omega) (by omega) (by omega) (by omega) (by omega) (by omega)
  refine ⟨MR_fz m1 h, SHM_eq m2 (e _ (by omega)) (e _ (by omega)) (h.1.1 265 (by omega)).2.1, ?_, by rw [e7 21 (by omega)]; exact m4, ⟨by rw [e7 52 (by omega)]; exact m5, ?_⟩, IM_eq m7 (e7 53 (by omega)) (fun x h1 h2 => e x (by omega))⟩
  · rw [e 294 (by omega)]; exact m3
  · rw [e 288 (by omega)]; exact m6
theorem FrM_fz {σ s : ST} (h : Fz σ s) : FrM σ s := h.1.mono (fun y hy => by omega)
/-- a question -/
theorem OUT_q {α : Type} {c m : ST → Option (α × ST)} {X : XS} {σ s : ST} {v : α} (h : XR X σ) (e : c σ = some (v, s)) (F : Fxd σ s) (i : CI X.1 s) (hm : MR X.1 s → ∃ u, m s = some (v, u) ∧ Fz s u) : OUT c m σ :=
  OUT_mk h h.1 e (XC_fd h.1 h.2.1 F i) (FrC_fd F) (fun m1 => by
    obtain ⟨u, e2, F2⟩ := hm m1.1
    exact ⟨u, e2, XM_fz m1 F2, FrM_fz F2⟩)
/-! refusals -/
def rC (j : Nat) (σ : ST) : ST := setI σ 229 j (σ.1 229 j + nI 1)
def rM (j : Nat) (σ : ST) : ST := setI σ 294 j (σ.1 294 j + nI 1)
theorem c_refuse {σ : ST} {v : Int32} {j : Nat} (hv : -v = nI j) (hj : j < 8) : f_X11_refuse v σ = some (v, rC j σ) := by
  unfold f_X11_refuse rC
  rw [hv, if_neg (nI_pos (by omega)), if_pos ((nI_ltI (by omega) (by omega)).mpr hj), rdI_ok hj (by decide)]
  simp only [bind_s]
  rw [wrI_ok hj (by decide)]
  simp only [bind_s]
theorem m_no {σ : ST} {v : Int32} {j : Nat} (hv : -v = nI j) (hj : j < 8) : f_X12_no v σ = some (v, rM j σ) := by
  unfold f_X12_no rM
  rw [hv, rdI_ok hj (by decide)]
  simp only [bind_s]
  rw [wrI_ok hj (by decide)]
  simp only [bind_s]
def xR (X : XS) (j : Nat) : XS := (X.1, X.2.1, (fun i => if i = j then X.2.2.1 i + nI 1 else X.2.2.1 i), X.2.2.2)
theorem XC_r {X : XS} {σ : ST} {j : Nat} (o : XO X) (m : XC X σ) (h1 : 1 ≤ j) (h8 : j < 8) : XC (xR X j) (rC j σ) := by
  obtain ⟨m1, m2, m3, m4, m5, ⟨m6, m7⟩, m8⟩ := m
  have F : Fr (fun y => y = 229) σ (rC j σ) := Fr_setI rfl
  refine ⟨CR_fr o.1 m1 F (fun x hx => by omega), CI_fw m2 F (fun y hy => by omega), SHC_eq m3 (fun x h1 h2 => ⟨(F.1 x (by omega)).1, (F.1 x (by omega)).2.1⟩), fun i hi h => ?_, by rw [F.I (by omega)]; exact m5, ⟨by rw [F.I (by omega)]; exact m6, fun i hi => by rw [F.I (by omega)]; exact m7 i hi⟩, IC_eq o.2.2.2 m8 (F.I (by omega) _) (Sm_fr F (fun x hx => by omega)) (VB_fr m8.2 F (fun y hy => by omega))⟩
  show (rC j σ).1 229 i = if i = j then X.2.2.1 i + nI 1 else X.2.2.1 i
  unfold rC
  by_cases e : i = j
  · subst e; rw [I_at, if_pos rfl, m4 i hi h]
  · rw [I_ne (Or.inr e), if_neg e, m4 i hi h]
theorem XM_r {X : XS} {σ : ST} {j : Nat} (m : XM X σ) (h1 : 1 ≤ j) (h8 : j < 8) : XM (xR X j) (rM j σ) := by
  obtain ⟨m1, m2, m3, m4, ⟨m5, m6⟩, m7⟩ := m
  have F : Fr (fun y => y = 294) σ (rM j σ) := Fr_setI rfl
  refine ⟨MR_eq m1 (F.I (by omega) _) (F.I (by omega) _) (F.I (by omega) _) (fun y h1 h2 => (F.1 y (by omega)).1), SHM_eq m2 (F.1 _ (by omega)).1 (F.1 _ (by omega)).1 (F.1 _ (by omega)).2.1, fun i hi h => ?_, by rw [F.I (by omega)]; exact m4, ⟨by rw [F.I (by omega)]; exact m5, fun i hi => by rw [F.I (by omega)]; exact m6 i hi⟩, IM_eq m7 (F.I (by omega) _) (fun x h1 h2 => (F.1 x (by omega)).1)⟩
  show (rM j σ).1 294 i = if i = j then X.2.2.1 i + nI 1 else X.2.2.1 i
  unfold rM
  by_cases e : i = j
  · subst e; rw [I_at, if_pos rfl, m3 i hi h]
  · rw [I_ne (Or.inr e), if_neg e, m3 i hi h]
theorem OUT_ref {c m : ST → Option (Int32 × ST)} {X : XS} {σ : ST} {v : Int32} {j : Nat} (h : XR X σ) (h1 : 1 ≤ j) (h8 : j < 8) (e : c σ = some (v, rC j σ)) (hm : ∀ s, XM X s → m s = some (v, rM j s)) : OUT c m σ :=
  OUT_mk (X' := xR X j) h h.1 e (XC_r h.1 h.2.1 h1 h8) (FrC_w (W := fun y => y = 229) (Fr_setI rfl) (fun y hy => by omega)) (fun m1 => ⟨rM j (rC j σ), hm _ m1, XM_r m1 h1 h8, Fr_setI (by omega)⟩)
end
