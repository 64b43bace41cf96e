section
/-! ===== act ===== -/
abbrev TR : Type := Nat × (Nat → Int32)
def ps (T : TR) (b : Int32) : TR := (T.1 + 1, fun i => if i = T.1 then b else T.2 i)
def sTe (k p : Nat) (x : Int32) (T : TR) : Int32 × TR := if k = 2 then ((x + nI p) * nI 3, ps (ps T (nI 30)) (nI 10)) else if k = 3 then (x + nI 1 + nI p, ps (ps T (nI 41)) (nI 10)) else (x + nI p, ps T (nI 10))
def sB1 (k p : Nat) (x : Int32) (T : TR) : Int32 × TR := ((sTe k p x (ps T (nI 11))).1 * nI 2, (sTe k p x (ps T (nI 11))).2)
def sBi (k p m : Nat) (x : Int32) (T : TR) : Int32 × TR := if k = 1 then ((sB1 k p x (ps T (nI 20))).1 + nI m, (sB1 k p x (ps T (nI 20))).2) else if k = 3 then (-((sB1 k p x (ps (ps T (nI 40)) (nI 20))).1 + nI m), (sB1 k p x (ps (ps T (nI 40)) (nI 20))).2) else sB1 k p x T
def sW1 (k p m : Nat) (x : Int32) (T : TR) : Int32 × TR := ((sBi k p m x (ps T (nI 12))).1 ^^^ (sTe k p (x - nI m) (sBi k p m x (ps T (nI 12))).2).1, (sTe k p (x - nI m) (sBi k p m x (ps T (nI 12))).2).2)
def sWe (k p m : Nat) (x : Int32) (T : TR) : Int32 × TR := if k = 2 then ((sW1 k p m x (ps T (nI 31))).1 - nI p, (sW1 k p m x (ps T (nI 31))).2) else sW1 k p m x T
theorem ps_1 (T : TR) (b : Int32) : (ps T b).1 = T.1 + 1 := rfl
theorem sTe_le (k p : Nat) (x : Int32) (T : TR) : (sTe k p x T).2.1 ≤ T.1 + 2 := by
  unfold sTe
  split
  · exact Nat.le_refl _
  · split
    · exact Nat.le_refl _
    · show T.1 + 1 ≤ _; omega
theorem sB1_le (k p : Nat) (x : Int32) (T : TR) : (sB1 k p x T).2.1 ≤ T.1 + 3 := by
  have := sTe_le k p x (ps T (nI 11))
  rw [ps_1] at this
  exact this
theorem sBi_le (k p m : Nat) (x : Int32) (T : TR) : (sBi k p m x T).2.1 ≤ T.1 + 5 := by
  unfold sBi
  split
  · have := sB1_le k p x (ps T (nI 20)); rw [ps_1] at this; show (sB1 k p x (ps T (nI 20))).2.1 ≤ _; omega
  · split
    · have := sB1_le k p x (ps (ps T (nI 40)) (nI 20)); rw [ps_1, ps_1] at this; show (sB1 k p x (ps (ps T (nI 40)) (nI 20))).2.1 ≤ _; omega
    · have := sB1_le k p x T; omega
theorem sW1_le (k p m : Nat) (x : Int32) (T : TR) : (sW1 k p m x T).2.1 ≤ T.1 + 8 := by
  have h1 := sTe_le k p (x - nI m) (sBi k p m x (ps T (nI 12))).2
  have h2 := sBi_le k p m x (ps T (nI 12))
  rw [ps_1] at h2
  show (sTe k p (x - nI m) (sBi k p m x (ps T (nI 12))).2).2.1 ≤ _
  omega
theorem sWe_le (k p m : Nat) (x : Int32) (T : TR) : (sWe k p m x T).2.1 ≤ T.1 + 9 := by
  unfold sWe
  split
  · have := sW1_le k p m x (ps T (nI 31)); rw [ps_1] at this; show (sW1 k p m x (ps T (nI 31))).2.1 ≤ _; omega
  · have := sW1_le k p m x T; omega
variable {A : AW} {X : XS} {σ : ST} {T : TR} {q k : Nat}
def TRc (T : TR) (σ : ST) : Prop := σ.1 230 0 = nI T.1 ∧ ∀ i, i < T.1 → σ.1 230 (1 + i) = T.2 i
def TRm (T : TR) (σ : ST) : Prop := σ.1 247 52 = nI T.1 ∧ ∀ i, i < T.1 → σ.1 288 i = T.2 i
abbrev F230 (σ s : ST) : Prop := Fr (fun y => y = 230) σ s
theorem t_begin (tr : TRc T σ) (h : T.1 < 20) (b : Int32) : ∃ s, f_X6_begin b 230 21 σ = some s ∧ TRc (ps T b) s ∧ F230 σ s := by
  obtain ⟨e0, e1⟩ := tr
  unfold f_X6_begin
  rw [rdI_ok (show 0 < 21 by decide) (by decide), e0]
  simp only [bind_s]
  rw [nI_add, if_pos (show (0 : Int32) < nI (T.1 + 1) from (nI_ltI (a := 0) (by decide) (by omega)).mpr (by omega)), if_pos ((nI_ltI (by omega) (by decide)).mpr (by omega)), wrI_ok (show T.1 + 1 < 21 by omega) (by decide)]
  simp only [bind_s]
  rw [wrI_ok (show 0 < 21 by decide) (by decide)]
  simp only [bind_s]
  refine ⟨_, rfl, ⟨I_at _ _ _ _, fun i hi => ?_⟩, (Fr_setI (W := fun y => y = 230) rfl).tr (Fr_setI rfl)⟩
  rw [ps_1] at hi
  rw [I_ne (Or.inr (by omega))]
  show _ = if i = T.1 then b else T.2 i
  by_cases z : i = T.1
  · rw [if_pos z, z, Nat.add_comm, I_at]
  · rw [if_neg z, I_ne (Or.inr (by omega))]; exact e1 i (by omega)
theorem PO_F {s : ST} (p : PO σ q k A) (F : F230 σ s) : PO s q k A := PO_sm p (F.1 q (by have := p.1.1; omega)).1 ⟨[], by rw [F.2, List.append_nil]⟩
theorem PO_ck {cs : List Nat} (p : PO σ q k A) (h : clsP (pk A k) ∈ cs) : chkP cs σ q = some (clsP (pk A k)) := by
  unfold chkP
  rw [if_pos p.1.1, p.1.2]
  show (if clsP (pk A k) ∈ cs then _ else _) = _
  rw [if_pos h]
theorem PO_rdc {cs : List Nat} {j : Nat} (p : PO σ q k A) (h : clsP (pk A k) ∈ cs) : rdP cs σ q j = some (σ.1 q j) := by
  unfold rdP
  rw [PO_ck p h]
  rfl
theorem t_tells10 (tr : TRc T σ) (h : T.1 < 20) (p : PO σ q k A) (x : Int32) : ∃ s, f_X6_tells q x 230 21 σ = some (x + nI (pp A k), s) ∧ TRc (ps T (nI 10)) s ∧ F230 σ s := by
  obtain ⟨s, e, t, F⟩ := t_begin tr h (nI 10)
  unfold f_X6_tells
  rw [e, bind_s, PO_rd (PO_F p F), bind_s, (PO_F p F).2.2.2.2.1]
  exact ⟨s, rfl, t, F⟩
theorem c_tells (tr : TRc T σ) (h : T.1 + 2 ≤ 20) (p : PO σ q k A) (hk : pk A k ≤ 3) (x : Int32) : ∃ s, f_V_tells (clsP (pk A k)) q x 230 21 σ = some ((sTe (pk A k) (pp A k) x T).1, s) ∧ TRc (sTe (pk A k) (pp A k) x T).2 s ∧ F230 σ s := by
  unfold f_V_tells sTe
  rcases (show pk A k = 0 ∨ pk A k = 1 ∨ pk A k = 2 ∨ pk A k = 3 by omega) with e | e | e | e
  · have ec : clsP (pk A k) = 6 := by rw [e]; rfl
    rw [ec, if_neg (by decide), if_neg (by decide), if_neg (by decide), if_neg (show ¬ pk A k = 2 by omega), if_neg (show ¬ pk A k = 3 by omega)]
    exact t_tells10 tr (by omega) p x
  · have ec : clsP (pk A k) = 8 := by rw [e]; rfl
    rw [ec, if_neg (by decide), if_pos rfl, if_neg (show ¬ pk A k = 2 by omega), if_neg (show ¬ pk A k = 3 by omega)]
    exact t_tells10 tr (by omega) p x
  · have ec : clsP (pk A k) = 9 := by rw [e]; rfl
    rw [ec, if_neg (by decide), if_neg (by decide), if_pos rfl, if_pos e]
    obtain ⟨s, e1, t1, F1⟩ := t_begin tr (by omega) (nI 30)
    obtain ⟨u, e2, t2, F2⟩ := t_tells10 t1 (by rw [ps_1]; omega) (PO_F p F1) x
    unfold f_X9_tells
    rw [e1, bind_s, PO_ck (PO_F p F1) (by rw [ec]; decide), bind_s, e2, bd2_s]
    exact ⟨u, rfl, t2, F1.tr F2⟩
  · have ec : clsP (pk A k) = 4 := by rw [e]; rfl
    rw [ec, if_pos rfl, if_neg (show ¬ pk A k = 2 by omega), if_pos e]
    obtain ⟨s, e1, t1, F1⟩ := t_begin tr (by omega) (nI 41)
    obtain ⟨u, e2, t2, F2⟩ := t_tells10 t1 (by rw [ps_1]; omega) (PO_F p F1) (x + nI 1)
    unfold f_X4_tells
    rw [e1, bind_s, PO_ck (PO_F p F1) (by rw [ec]; decide), bind_s, e2, bd2_s]
    exact ⟨u, rfl, t2, F1.tr F2⟩
theorem c_binds11 (tr : TRc T σ) (h : T.1 + 3 ≤ 20) (p : PO σ q k A) (hk : pk A k ≤ 3) (x : Int32) : ∃ s, f_X6_binds q x 230 21 σ = some ((sB1 (pk A k) (pp A k) x T).1, s) ∧ TRc (sB1 (pk A k) (pp A k) x T).2 s ∧ F230 σ s := by
  obtain ⟨s, e1, t1, F1⟩ := t_begin tr (by omega) (nI 11)
  obtain ⟨u, e2, t2, F2⟩ := c_tells t1 (by rw [ps_1]; omega) (PO_F p F1) hk x
  unfold f_X6_binds
  rw [e1, bind_s, PO_ck (PO_F p F1) (clsP_in _), bind_s, e2, bd2_s]
  exact ⟨u, rfl, t2, F1.tr F2⟩
theorem c_binds20 (tr : TRc T σ) (h : T.1 + 4 ≤ 20) (p : PO σ q k A) (hk : pk A k ≤ 3) (hc : clsP (pk A k) ∈ [8, 4]) (x : Int32) : ∃ s, f_X8_binds q x 230 21 σ = some ((sB1 (pk A k) (pp A k) x (ps T (nI 20))).1 + nI k, s) ∧ TRc (sB1 (pk A k) (pp A k) x (ps T (nI 20))).2 s ∧ F230 σ s := by
  obtain ⟨s, e1, t1, F1⟩ := t_begin tr (by omega) (nI 20)
  obtain ⟨u, e2, t2, F2⟩ := c_binds11 t1 (by rw [ps_1]; omega) (PO_F p F1) hk x
  unfold f_X8_binds
  rw [e1, bind_s, PO_ck (PO_F p F1) hc, bind_s, e2, bd2_s, PO_rdc (PO_F p (F1.tr F2)) hc, bind_s, (PO_F p (F1.tr F2)).2.1]
  exact ⟨u, rfl, t2, F1.tr F2⟩
theorem c_binds (tr : TRc T σ) (h : T.1 + 5 ≤ 20) (p : PO σ q k A) (hk : pk A k ≤ 3) (x : Int32) : ∃ s, f_V_binds (clsP (pk A k)) q x 230 21 σ = some ((sBi (pk A k) (pp A k) k x T).1, s) ∧ TRc (sBi (pk A k) (pp A k) k x T).2 s ∧ F230 σ s := by
  unfold f_V_binds sBi
  rcases (show pk A k = 0 ∨ pk A k = 1 ∨ pk A k = 2 ∨ pk A k = 3 by omega) with e | e | e | e
  · have ec : clsP (pk A k) = 6 := by rw [e]; rfl
    rw [ec, if_neg (by decide), if_neg (by decide), if_neg (by decide), if_neg (show ¬ pk A k = 1 by omega), if_neg (show ¬ pk A k = 3 by omega)]
    exact c_binds11 tr (by omega) p hk x
  · have ec : clsP (pk A k) = 8 := by rw [e]; rfl
    rw [ec, if_neg (by decide), if_pos rfl, if_pos e]
    exact c_binds20 tr (by omega) p hk (by rw [ec]; decide) x
  · have ec : clsP (pk A k) = 9 := by rw [e]; rfl
    rw [ec, if_neg (by decide), if_neg (by decide), if_pos rfl, if_neg (show ¬ pk A k = 1 by omega), if_neg (show ¬ pk A k = 3 by omega)]
    exact c_binds11 tr (by omega) p hk x
  · have ec : clsP (pk A k) = 4 := by rw [e]; rfl
    rw [ec, if_pos rfl, if_neg (show ¬ pk A k = 1 by omega), if_pos e]
    obtain ⟨s, e1, t1, F1⟩ := t_begin tr (by omega) (nI 40)
    obtain ⟨u, e2, t2, F2⟩ := c_binds20 t1 (by rw [ps_1]; omega) (PO_F p F1) hk (by rw [ec]; decide) x
    unfold f_X4_binds
    rw [e1, bind_s, PO_ck (PO_F p F1) (by rw [ec]; decide), bind_s, e2, bd2_s]
    exact ⟨u, rfl, t2, F1.tr F2⟩
theorem c_weighs12 (tr : TRc T σ) (h : T.1 + 8 ≤ 20) (p : PO σ q k A) (hk : pk A k ≤ 3) (x : Int32) : ∃ s, f_X6_weighs q x 230 21 σ = some ((sW1 (pk A k) (pp A k) k x T).1, s) ∧ TRc (sW1 (pk A k) (pp A k) k x T).2 s ∧ F230 σ s := by
  obtain ⟨s, e1, t1, F1⟩ := t_begin tr (by omega) (nI 12)
  obtain ⟨u, e2, t2, F2⟩ := c_binds t1 (by rw [ps_1]; omega) (PO_F p F1) hk x
  have p2 := PO_F p (F1.tr F2)
  have hb := sBi_le (pk A k) (pp A k) k x (ps T (nI 12))
  rw [ps_1] at hb
  obtain ⟨w, e3, t3, F3⟩ := c_tells t2 (by omega) p2 hk (x - nI k)
  unfold f_X6_weighs
  rw [e1, bind_s, PO_ck (PO_F p F1) (clsP_in _), bind_s, e2, bd2_s, PO_rd p2, bind_s, PO_ck p2 (clsP_in _), bind_s, p2.2.1, e3, bd2_s]
  exact ⟨w, rfl, t3, (F1.tr F2).tr F3⟩
theorem c_weighs (tr : TRc T σ) (h : T.1 + 9 ≤ 20) (p : PO σ q k A) (hk : pk A k ≤ 3) (x : Int32) : ∃ s, f_V_weighs (clsP (pk A k)) q x 230 21 σ = some ((sWe (pk A k) (pp A k) k x T).1, s) ∧ TRc (sWe (pk A k) (pp A k) k x T).2 s ∧ F230 σ s := by
  unfold f_V_weighs sWe
  rcases (show pk A k = 0 ∨ pk A k = 1 ∨ pk A k = 2 ∨ pk A k = 3 by omega) with e | e | e | e
  · have ec : clsP (pk A k) = 6 := by rw [e]; rfl
    rw [ec, if_neg (by decide), if_neg (by decide), if_neg (by decide), if_neg (show ¬ pk A k = 2 by omega)]
    exact c_weighs12 tr (by omega) p hk x
  · have ec : clsP (pk A k) = 8 := by rw [e]; rfl
    rw [ec, if_neg (by decide), if_pos rfl, if_neg (show ¬ pk A k = 2 by omega)]
    exact c_weighs12 tr (by omega) p hk x
  · have ec : clsP (pk A k) = 9 := by rw [e]; rfl
    rw [ec, if_neg (by decide), if_neg (by decide), if_pos rfl, if_pos e]
    obtain ⟨s, e1, t1, F1⟩ := t_begin tr (by omega) (nI 31)
    obtain ⟨u, e2, t2, F2⟩ := c_weighs12 t1 (by rw [ps_1]; omega) (PO_F p F1) hk x
    have p2 := PO_F p (F1.tr F2)
    unfold f_X9_weighs
    rw [e1, bind_s, PO_ck (PO_F p F1) (by rw [ec]; decide), bind_s, e2, bd2_s, PO_rdc p2 (by rw [ec]; decide), bind_s, p2.2.2.2.2.1]
    exact ⟨u, rfl, t2, F1.tr F2⟩
  · have ec : clsP (pk A k) = 4 := by rw [e]; rfl
    rw [ec, if_pos rfl, if_neg (show ¬ pk A k = 2 by omega)]
    exact c_weighs12 tr (by omega) p hk x
/-! the reference's -/
def Fta (σ s : ST) : Prop := Fr (fun y => y = 247 ∨ y = 288) σ s ∧ ∀ i, i ≠ 52 → s.1 247 i = σ.1 247 i
theorem Fta.tr {σ s u : ST} (h : Fta σ s) (g : Fta s u) : Fta σ u := ⟨h.1.tr g.1, fun i hi => (g.2 i hi).trans (h.2 i hi)⟩
theorem m_ran (tr : TRm T σ) (h : T.1 < 20) (b : Int32) : ∃ s, f_X12_ran b σ = some s ∧ TRm (ps T b) s ∧ Fta σ s := by
  obtain ⟨e0, e1⟩ := tr
  unfold f_X12_ran
  rw [e0, if_pos ((nI_ltI (by omega) (by decide)).mpr h), wrI_ok h (by decide)]
  simp only [bind_s]
  rw [I_ne (Or.inl (by decide)), e0, nI_add, pfI_s, bind_s]
  refine ⟨_, rfl, ⟨I_at _ _ _ _, fun i hi => ?_⟩, (Fr_setI (by omega)).tr (Fr_setI (by omega)), fun i hi => by rw [I_ne (Or.inr hi), I_ne (Or.inl (by decide))]⟩
  rw [ps_1] at hi
  rw [I_ne (Or.inl (by decide))]
  show _ = if i = T.1 then b else T.2 i
  by_cases z : i = T.1
  · rw [if_pos z, z, I_at]
  · rw [if_neg z, I_ne (Or.inr z)]; exact e1 i (by omega)
/-- the kind and the hour that the reference reads -/
def KP2 (σ : ST) (k kd p : Nat) : Prop := σ.1 255 k = nI kd ∧ σ.1 257 k = nI p
theorem KP2_F {s : ST} {kd p : Nat} (h : KP2 σ k kd p) (F : Fta σ s) : KP2 s k kd p := by
  unfold KP2
  rw [F.1.I (by omega), F.1.I (by omega)]
  exact h
theorem m_tells {kd p : Nat} (tr : TRm T σ) (h : T.1 + 2 ≤ 20) (hk16 : k < 16) (kp : KP2 σ k kd p) (hk : kd ≤ 3) (x : Int32) : ∃ s, f_X12_tells (nI k) x σ = some ((sTe kd p x T).1, s) ∧ TRm (sTe kd p x T).2 s ∧ Fta σ s := by
  have tail : ∀ (T' : TR) (u : ST), TRm T' u → T'.1 < 20 → KP2 u k kd p → ∃ s, f_X12_tells_32 (nI k) x u = some ((if kd = 2 then ((x + nI p) * nI 3) else if kd = 3 then (x + nI 1 + nI p) else (x + nI p)), s) ∧ TRm (ps T' (nI 10)) s ∧ Fta u s := by
    intro T' u t hT kp'
    obtain ⟨s, e1, t1, F1⟩ := m_ran t hT (nI 10)
    have kps := KP2_F kp' F1
    unfold f_X12_tells_32 f_X12_tells_55
    rw [e1, bind_s, rdI_ok hk16 (by decide), kps.1, bind_s, rdI_ok hk16 (by decide), kps.2]
    simp only [bind_s]
    refine ⟨s, ?_, t1, F1⟩
    rcases (show kd = 0 ∨ kd = 1 ∨ kd = 2 ∨ kd = 3 by omega) with rfl | rfl | rfl | rfl <;> rfl
  unfold f_X12_tells f_X12_tells_16 sTe
  rw [rdI_ok hk16 (by decide), kp.1, bind_s]
  by_cases k2 : kd = 2
  · obtain ⟨s, e1, t1, F1⟩ := m_ran tr (by omega) (nI 30)
    have kps := KP2_F kp F1
    rw [if_pos (congrArg nI k2), e1, bind_s, rdI_ok hk16 (by decide), kps.1, bind_s, if_neg (show ¬ nI kd = nI 3 from fun z => by have := (nI_eq (by omega) (by omega)).mp z; omega), if_pos k2]
    obtain ⟨u, e2, t2, F2⟩ := tail _ s t1 (by rw [ps_1]; omega) kps
    rw [if_pos k2] at e2
    exact ⟨u, e2, t2, F1.tr F2⟩
  · rw [if_neg (show ¬ nI kd = nI 2 from fun z => k2 ((nI_eq (by omega) (by omega)).mp z)), bind_s, if_neg k2]
    by_cases k3 : kd = 3
    · obtain ⟨s, e1, t1, F1⟩ := m_ran tr (by omega) (nI 41)
      rw [if_pos (congrArg nI k3), e1, bind_s, if_pos k3]
      obtain ⟨u, e2, t2, F2⟩ := tail _ s t1 (by rw [ps_1]; omega) (KP2_F kp F1)
      rw [if_neg k2, if_pos k3] at e2
      exact ⟨u, e2, t2, F1.tr F2⟩
    · rw [if_neg (show ¬ nI kd = nI 3 from fun z => k3 ((nI_eq (by omega) (by omega)).mp z)), if_neg k3]
      obtain ⟨u, e2, t2, F2⟩ := tail _ σ tr (by omega) kp
      rw [if_neg k2, if_neg k3] at e2
      exact ⟨u, e2, t2, F2⟩
theorem m_binds {kd p : Nat} (tr : TRm T σ) (h : T.1 + 5 ≤ 20) (hk16 : k < 16) (kp : KP2 σ k kd p) (hk : kd ≤ 3) (x : Int32) : ∃ s, f_X12_binds (nI k) x σ = some ((sBi kd p k x T).1, s) ∧ TRm (sBi kd p k x T).2 s ∧ Fta σ s := by
  have tail : ∀ (T' : TR) (u : ST), TRm T' u → T'.1 + 3 ≤ 20 → KP2 u k kd p → ∃ s, f_X12_binds_42 (nI k) x u = some ((if kd = 1 then ((sB1 kd p x T').1 + nI k) else if kd = 3 then (-((sB1 kd p x T').1 + nI k)) else (sB1 kd p x T').1), s) ∧ TRm (sB1 kd p x T').2 s ∧ Fta u s := by
    intro T' u t hT kp'
    obtain ⟨s, e1, t1, F1⟩ := m_ran t (by omega) (nI 11)
    obtain ⟨w, e2, t2, F2⟩ := m_tells t1 (by rw [ps_1]; omega) hk16 (KP2_F kp' F1) hk x
    have kps := KP2_F kp' (F1.tr F2)
    unfold f_X12_binds_42
    rw [e1, bind_s, e2, bd2_s, rdI_ok hk16 (by decide), kps.1, bind_s, bind_s]
    refine ⟨w, ?_, t2, F1.tr F2⟩
    rcases (show kd = 0 ∨ kd = 1 ∨ kd = 2 ∨ kd = 3 by omega) with rfl | rfl | rfl | rfl <;> rfl
  have mid : ∀ (T' : TR) (u : ST), TRm T' u → T'.1 + 4 ≤ 20 → KP2 u k kd p → ∃ s, f_X12_binds_16 (nI k) x u = some ((if kd = 1 then ((sB1 kd p x (ps T' (nI 20))).1 + nI k) else if kd = 3 then (-((sB1 kd p x (ps T' (nI 20))).1 + nI k)) else (sB1 kd p x T').1), s) ∧ TRm (if kd = 1 ∨ kd = 3 then (sB1 kd p x (ps T' (nI 20))).2 else (sB1 kd p x T').2) s ∧ Fta u s := by
    intro T' u t hT kp'
    unfold f_X12_binds_16 f_X12_binds_36
    rw [rdI_ok hk16 (by decide), kp'.1, bind_s, bind_s]
    by_cases k13 : kd = 1 ∨ kd = 3
    · obtain ⟨s, e1, t1, F1⟩ := m_ran t (by omega) (nI 20)
      obtain ⟨w, e2, t2, F2⟩ := tail _ s t1 (by rw [ps_1]; omega) (KP2_F kp' F1)
      rw [e1, bind_s, e2, if_pos k13]
      refine ⟨w, ?_, t2, F1.tr F2⟩
      rcases k13 with rfl | rfl <;> rfl
    · obtain ⟨w, e2, t2, F2⟩ := tail _ u t (by omega) kp'
      rw [if_neg (show ¬ nI kd = nI 1 from fun z => k13 (Or.inl ((nI_eq (by omega) (by omega)).mp z))), if_neg (show ¬ nI kd = nI 3 from fun z => k13 (Or.inr ((nI_eq (by omega) (by omega)).mp z))), e2, if_neg k13]
      rw [if_neg (fun z => k13 (Or.inl z)), if_neg (fun z => k13 (Or.inr z)), if_neg (fun z => k13 (Or.inl z)), if_neg (fun z => k13 (Or.inr z))]
      exact ⟨w, rfl, t2, F2⟩
  unfold f_X12_binds sBi
  rw [rdI_ok hk16 (by decide), kp.1, bind_s]
  by_cases k3 : kd = 3
  · subst k3
    obtain ⟨s, e1, t1, F1⟩ := m_ran tr (by omega) (nI 40)
    obtain ⟨w, e2, t2, F2⟩ := mid _ s t1 (by rw [ps_1]; omega) (KP2_F kp F1)
    rw [if_pos rfl, e1, bind_s]
    exact ⟨w, e2, t2, F1.tr F2⟩
  · obtain ⟨w, e2, t2, F2⟩ := mid _ σ tr (by omega) kp
    rw [if_neg (show ¬ nI kd = nI 3 from fun z => k3 ((nI_eq (by omega) (by omega)).mp z)), e2, if_neg k3]
    by_cases k1 : kd = 1
    · rw [if_pos k1, if_pos k1]
      rw [if_pos (Or.inl k1)] at t2
      exact ⟨w, rfl, t2, F2⟩
    · rw [if_neg k1, if_neg k3, if_neg k1]
      rw [if_neg (by omega)] at t2
      exact ⟨w, rfl, t2, F2⟩
theorem m_weighs {kd p : Nat} (tr : TRm T σ) (h : T.1 + 9 ≤ 20) (hk16 : k < 16) (kp : KP2 σ k kd p) (hk : kd ≤ 3) (x : Int32) : ∃ s, f_X12_weighs (nI k) x σ = some ((sWe kd p k x T).1, s) ∧ TRm (sWe kd p k x T).2 s ∧ Fta σ s := by
  have tail : ∀ (T' : TR) (u : ST), TRm T' u → T'.1 + 8 ≤ 20 → KP2 u k kd p → ∃ s, f_X12_weighs_16 (nI k) x u = some ((if kd = 2 then ((sW1 kd p k x T').1 - nI p) else (sW1 kd p k x T').1), s) ∧ TRm (sW1 kd p k x T').2 s ∧ Fta u s := by
    intro T' u t hT kp'
    obtain ⟨s, e1, t1, F1⟩ := m_ran t (by omega) (nI 12)
    obtain ⟨w, e2, t2, F2⟩ := m_binds t1 (by rw [ps_1]; omega) hk16 (KP2_F kp' F1) hk x
    have hb := sBi_le kd p k x (ps T' (nI 12))
    rw [ps_1] at hb
    obtain ⟨v, e3, t3, F3⟩ := m_tells t2 (by omega) hk16 (KP2_F kp' (F1.tr F2)) hk (x - nI k)
    have kps := KP2_F kp' ((F1.tr F2).tr F3)
    unfold f_X12_weighs_16
    rw [e1, bind_s, e2, bd2_s, e3, bd2_s, rdI_ok hk16 (by decide), kps.1, bind_s, rdI_ok hk16 (by decide), kps.2, bind_s]
    refine ⟨v, ?_, t3, (F1.tr F2).tr F3⟩
    by_cases k2 : kd = 2
    · rw [if_pos (congrArg nI k2), if_pos k2]; rfl
    · rw [if_neg (show ¬ nI kd = nI 2 from fun z => k2 ((nI_eq (by omega) (by omega)).mp z)), if_neg k2]; rfl
  unfold f_X12_weighs sWe
  rw [rdI_ok hk16 (by decide), kp.1, bind_s]
  by_cases k2 : kd = 2
  · obtain ⟨s, e1, t1, F1⟩ := m_ran tr (by omega) (nI 31)
    obtain ⟨w, e2, t2, F2⟩ := tail _ s t1 (by rw [ps_1]; omega) (KP2_F kp F1)
    rw [if_pos (congrArg nI k2), e1, bind_s, e2, if_pos k2, if_pos k2]
    exact ⟨w, rfl, t2, F1.tr F2⟩
  · obtain ⟨w, e2, t2, F2⟩ := tail _ σ tr (by omega) kp
    rw [if_neg (show ¬ nI kd = nI 2 from fun z => k2 ((nI_eq (by omega) (by omega)).mp z)), e2, if_neg k2, if_neg k2]
    exact ⟨w, rfl, t2, F2⟩
/-! both -/
def xT (X : XS) (T : TR) : XS := (X.1, X.2.1, X.2.2.1, X.2.2.2.1, T, X.2.2.2.2.2)
theorem OUT_t {α : Type} {c m : ST → Option (α × ST)} {s : ST} {v : α} (h : XR X σ) (hT : T.1 ≤ 20) (e : c σ = some (v, s)) (F : F230 σ s) (hc : TRc T s) (hm : XM X s → ∃ u, m s = some (v, u) ∧ Fta s u ∧ TRm T u) : OUT c m σ := by
  obtain ⟨m1, m2, m3, m4, m5, m67, m8⟩ := h.2.1
  refine OUT_mk (X' := xT X T) h ⟨h.1.1, h.1.2.1, hT, h.1.2.2.2⟩ e ⟨CR_fr h.1.1 m1 F (fun x hx => by omega), CI_fw m2 F (fun y hy => by omega), SHC_eq m3 (fun x h1 h2 => ⟨(F.1 x (by omega)).1, (F.1 x (by omega)).2.1⟩), fun i h1 h2 => by rw [F.I (by omega)]; exact m4 i h1 h2, by rw [F.I (by omega)]; exact m5, hc, IC_eq h.1.2.2.2 m8 (F.I (by omega) _) (Sm_fr F (fun x hx => by omega)) (VB_fr m8.2 F (fun y hy => by omega))⟩ (FrC_w F (fun y hy => by omega)) (fun mm => ?_)
  obtain ⟨u, e2, F2, t2⟩ := hm mm
  obtain ⟨n1, n2, n3, n4, n67, n8⟩ := mm
  refine ⟨u, e2, ⟨MR_eq n1 (F2.2 0 (by decide)) (F2.2 4 (by decide)) (F2.2 9 (by decide)) (fun y h1 h2 => (F2.1.1 y (by omega)).1), SHM_eq n2 (F2.1.1 _ (by omega)).1 (F2.1.1 _ (by omega)).1 (F2.1.1 _ (by omega)).2.1, fun i h1 h2 => by rw [F2.1.I (by omega)]; exact n3 i h1 h2, (F2.2 21 (by decide)).trans n4, t2, IM_eq n8 (F2.2 53 (by decide)) (fun x h1 h2 => (F2.1.1 x (by omega)).1)⟩, F2.1.mono (fun y hy => by omega)⟩
theorem q_act (h : XR X σ) (x y z : Int32) : OUT (f_X11_act x y z) (f_X12_act x y z) σ := by
  have a := h.1.1
  have hP := a.1.2.2
  have F0 : F230 σ (setI σ 230 0 (nI 0)) := Fr_setI rfl
  have c0 := CR_fr a h.2.1.1 F0 (fun x hx => by omega)
  have t0 : TRc (0, fun _ => 0) (setI σ 230 0 (nI 0)) := ⟨I_at _ _ _ _, fun i hi => absurd hi (Nat.not_lt_zero i)⟩
  have G0 : ∀ s, Fta s (setI s 247 52 (nI 0)) := fun s => ⟨Fr_setI (by omega), fun i hi => I_ne (Or.inr hi)⟩
  have n0 : ∀ s, TRm (0, fun _ => 0) (setI s 247 52 (nI 0)) := fun s => ⟨I_at _ _ _ _, fun i hi => absurd hi (Nat.not_lt_zero i)⟩
  have mr0 : ∀ s, XM X s → MR X.1 (setI s 247 52 (nI 0)) := fun s mm => MR_eq mm.1 (I_ne (Or.inr (by decide))) (I_ne (Or.inr (by decide))) (I_ne (Or.inr (by decide))) (fun y h1 h2 => ((G0 s).1.1 y (by omega)).1)
  have cpre : f_X11_act x y z σ = bd2 (f_X10_pieceAt x (setI σ 230 0 (nI 0))) (fun v3 s2 => nl v3 (some (nI 0, s2)) fun q4 => if y < 0 then some (nI 0, s2) else (if y < nI 3 then (if y = 0 then ((chkP [6, 4, 8, 9] s2 q4).bind fun c13 => bd2 (f_V_tells c13 q4 z 230 21 s2) fun v12 s11 => some (v12, s11)) else (if y = nI 1 then ((chkP [6, 4, 8, 9] s2 q4).bind fun c10 => bd2 (f_V_binds c10 q4 z 230 21 s2) fun v9 s8 => some (v9, s8)) else ((chkP [6, 4, 8, 9] s2 q4).bind fun c7 => bd2 (f_V_weighs c7 q4 z 230 21 s2) fun v6 s5 => some (v6, s5)))) else some (nI 0, s2))) := by
    unfold f_X11_act
    rw [wrI_ok (show 0 < 21 by decide) (by decide), bind_s]
  have mpre : ∀ s, XM X s → f_X12_act x y z s = (if b2 (inR x (nP X.1)) = 0 then some (nI 0, setI s 247 52 (nI 0)) else if y < 0 then some (nI 0, setI s 247 52 (nI 0)) else if nI 2 < y then some (nI 0, setI s 247 52 (nI 0)) else if y = 0 then bd2 (f_X12_tells x z (setI s 247 52 (nI 0))) (fun v9 s8 => some (v9, s8)) else if y = nI 1 then bd2 (f_X12_binds x z (setI s 247 52 (nI 0))) (fun v7 s6 => some (v7, s6)) else bd2 (f_X12_weighs x z (setI s 247 52 (nI 0))) (fun v5 s4 => some (v5, s4))) := by
    intro s mm
    unfold f_X12_act
    rw [pfI_s, bind_s, t_isPiece (mr0 s mm), bd2_s]
  have idle : f_X11_act x y z σ = some (nI 0, setI σ 230 0 (nI 0)) → (∀ s, XM X s → f_X12_act x y z s = some (nI 0, setI s 247 52 (nI 0))) → OUT (f_X11_act x y z) (f_X12_act x y z) σ := fun e1 e2 => OUT_t h (T := (0, fun _ => 0)) (Nat.zero_le _) e1 F0 t0 (fun mm => ⟨_, e2 _ mm, G0 _, n0 _⟩)
  cases g1 : inR x (nP X.1) with
  | false => exact idle (by rw [cpre, t_pieceAt_no c0 g1, bd2_s, nl_n]) (fun s mm => by rw [mpre s mm, g1, if_pos b2f0])
  | true =>
    obtain ⟨k, hk, rfl⟩ := inR_of g1 (by omega)
    obtain ⟨q, e, p, -⟩ := t_pieceAt a c0 hk
    have k3 := (a.2.2.2.2.1 k hk).1
    rw [e, bd2_s, nl_s] at cpre
    by_cases y0 : y < 0
    · exact idle (by rw [cpre, if_pos y0]) (fun s mm => by rw [mpre s mm, g1, if_neg b2t0, if_pos y0])
    · obtain ⟨n, hn', rfl⟩ := nI_of y0
      by_cases w : 2 < n
      · exact idle (by rw [cpre, if_neg y0, if_neg (fun v => by have := (nI_ltI (by omega) (by omega)).mp v; omega)]) (fun s mm => by rw [mpre s mm, g1, if_neg b2t0, if_neg y0, if_pos ((nI_ltI (by omega) (by omega)).mpr w)])
      · rw [if_neg y0, if_pos ((nI_ltI (by omega) (by omega)).mpr (by omega)), PO_ck p (clsP_in _), bind_s, bind_s, bind_s] at cpre
        have kp0 : ∀ s, XM X s → KP2 (setI s 247 52 (nI 0)) k (pk X.1 k) (pp X.1 k) := fun s mm => ⟨by rw [I_ne (Or.inl (by decide))]; exact (mm.1.2.2.2.1 k hk).1, by rw [I_ne (Or.inl (by decide))]; exact (mm.1.2.2.2.1 k hk).2.2.1⟩
        have mp2 : ∀ s, XM X s → f_X12_act (nI k) (nI n) z s = (if nI n = 0 then bd2 (f_X12_tells (nI k) z (setI s 247 52 (nI 0))) (fun v9 s8 => some (v9, s8)) else if nI n = nI 1 then bd2 (f_X12_binds (nI k) z (setI s 247 52 (nI 0))) (fun v7 s6 => some (v7, s6)) else bd2 (f_X12_weighs (nI k) z (setI s 247 52 (nI 0))) (fun v5 s4 => some (v5, s4))) := fun s mm => by
          rw [mpre s mm, g1, if_neg b2t0, if_neg y0, if_neg (fun v => by have := (nI_ltI (by omega) (by omega)).mp v; omega)]
        rcases (show n = 0 ∨ n = 1 ∨ n = 2 by omega) with rfl | rfl | rfl
        · obtain ⟨s, e1, t1, F1⟩ := c_tells t0 (by decide) p k3 z
          rw [if_pos (by decide), e1, bd2_s] at cpre
          refine OUT_t h (by have := sTe_le (pk X.1 k) (pp X.1 k) z (0, fun _ => 0); omega) cpre (F0.tr F1) t1 (fun mm => ?_)
          obtain ⟨u, e2, t2, F2⟩ := m_tells (n0 s) (by decide) (show k < 16 by omega) (kp0 s mm) k3 z
          exact ⟨u, by rw [mp2 s mm, if_pos (by decide), e2, bd2_s], (G0 s).tr F2, t2⟩
        · obtain ⟨s, e1, t1, F1⟩ := c_binds t0 (by decide) p k3 z
          rw [if_neg (by decide), if_pos rfl, e1, bd2_s] at cpre
          refine OUT_t h (by have := sBi_le (pk X.1 k) (pp X.1 k) k z (0, fun _ => 0); omega) cpre (F0.tr F1) t1 (fun mm => ?_)
          obtain ⟨u, e2, t2, F2⟩ := m_binds (n0 s) (by decide) (show k < 16 by omega) (kp0 s mm) k3 z
          exact ⟨u, by rw [mp2 s mm, if_neg (by decide), if_pos rfl, e2, bd2_s], (G0 s).tr F2, t2⟩
        · obtain ⟨s, e1, t1, F1⟩ := c_weighs t0 (by decide) p k3 z
          rw [if_neg (by decide), if_neg (by decide), e1, bd2_s] at cpre
          refine OUT_t h (by have := sWe_le (pk X.1 k) (pp X.1 k) k z (0, fun _ => 0); omega) cpre (F0.tr F1) t1 (fun mm => ?_)
          obtain ⟨u, e2, t2, F2⟩ := m_weighs (n0 s) (by decide) (show k < 16 by omega) (kp0 s mm) k3 z
          exact ⟨u, by rw [mp2 s mm, if_neg (by decide), if_neg (by decide), e2, bd2_s], (G0 s).tr F2, t2⟩
end
