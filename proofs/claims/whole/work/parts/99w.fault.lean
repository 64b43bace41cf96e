section
/-! ===== a text was read: the fault ===== -/
variable {A : AW} {H : SHV} {X : XS} {σ s u : ST} {ft : Int32}
def SF (ft : Int32) (σ s : ST) : Prop := Fr (fun y => (188 ≤ y ∧ y ≤ 194) ∨ y = 0) σ s ∧ (∀ k, k ≠ 13 → s.1 0 k = σ.1 0 k) ∧ s.1 0 13 = ft ∧ (s.1 189 3 = 0 ∨ s.1 189 3 = 1) ∧ s.1 189 5 = σ.1 189 5
def MFd (ft : Int32) (σ u : ST) : Prop := Fr (fun y => y = 247) σ u ∧ (∀ k, k ≠ 21 → k ≠ 22 → k ≠ 60 → u.1 247 k = σ.1 247 k) ∧ u.1 247 21 = ft
def xf (X : XS) (ft : Int32) : XS := (X.1, X.2.1, X.2.2.1, ft, X.2.2.2.2)
theorem VB_sf (vb : VB σ) (h : SF ft σ s) : VB s := by
  obtain ⟨F, -, -, h3, h5⟩ := h
  obtain ⟨v1, v2, v3, v4⟩ := vb
  refine ⟨fun k p hk hp => ?_, fun h hh => ?_, h3, by rw [h5]; exact v4⟩
  · rw [F.T (by omega), F.T (by omega)] at hp
    obtain ⟨c, e⟩ := v1 k p hk hp
    exact ⟨c, chkP_sub e ⟨[], by rw [F.2, List.append_nil]⟩⟩
  · rw [F.I (by omega), F.I (by omega), F.I (by omega), F.I (by omega)]
    exact v2 h hh
theorem CI_sf (i : CI A σ) (h : SF ft σ s) : CI A s := by
  obtain ⟨F, e, -⟩ := h
  refine ⟨?_, ?_, ?_⟩
  · rw [e 11 (by decide), e 12 (by decide)]; exact i.1
  · rw [e 11 (by decide)]; exact fun q => TB_fr (i.2.1 q) F (fun y hy => by omega)
  · rw [e 12 (by decide)]; exact fun q => NW_fw (i.2.2 q) F (fun y hy => by omega)
theorem XC_sf (o : XO X) (m : XC X σ) (h : SF ft σ s) : XC (xf X ft) s := by
  obtain ⟨m1, m2, m3, m4, m5, ⟨m6, m7⟩, m8⟩ := m
  have F := h.1
  refine ⟨CR_fr o.1 m1 F (fun x hx => by omega), CI_sf m2 h, SHC_eq m3 (fun x h1 h2 => ⟨(F.1 x (by omega)).1, (F.1 x (by omega)).2.1⟩), fun i h1 h2 => by rw [F.I (by omega)]; exact m4 i h1 h2, h.2.2.1, ⟨by rw [F.I (by omega)]; exact m6, fun i hi => by rw [F.I (by omega)]; exact m7 i hi⟩, IC_eq o.2.2.2 m8 (h.2.1 10 (by decide)) (Sm_fr F (fun x hx => by omega)) (VB_sf m8.2 h)⟩
theorem XM_mf (m : XM X σ) (h : MFd ft σ u) : XM (xf X ft) u := by
  obtain ⟨m1, m2, m3, m4, ⟨m5, m6⟩, m7⟩ := m
  obtain ⟨F, e, e21⟩ := h
  refine ⟨MR_eq m1 (e 0 (by decide) (by decide) (by decide)) (e 4 (by decide) (by decide) (by decide)) (e 9 (by decide) (by decide) (by decide)) (fun y h1 h2 => (F.1 y (by omega)).1), SHM_eq m2 (F.1 _ (by omega)).1 (F.1 _ (by omega)).1 (F.1 _ (by omega)).2.1, fun i h1 h2 => by rw [F.I (by omega)]; exact m3 i h1 h2, e21, ⟨by rw [e 52 (by decide) (by decide) (by decide)]; exact m5, fun i hi => by rw [F.I (by omega)]; exact m6 i hi⟩, IM_eq m7 (e 53 (by decide) (by decide) (by decide)) (fun x h1 h2 => (F.1 x (by omega)).1)⟩
/-- a refusal, the fault changed -/
theorem OUT_rf {c m : ST → Option (Int32 × ST)} {v : Int32} {j : Nat} (h : XR X σ) (h1 : 1 ≤ j) (h8 : j < 8) (f : SF ft σ s) (e : c σ = some (v, rC j s)) (hm : ∀ τ, XM X τ → ∃ u, MFd ft τ u ∧ m τ = some (v, rM j u)) : OUT c m σ := by
  have o2 : XO (xf X ft) := h.1
  have F1 : Fr (fun y => (188 ≤ y ∧ y ≤ 194) ∨ y = 0 ∨ y = 229) σ (rC j s) := (f.1.mono (fun y hy => by omega)).tr (Fr_setI (by omega))
  refine OUT_mk (X' := xR (xf X ft) j) h o2 e (XC_r o2 (XC_sf h.1 h.2.1 f) h1 h8) (FrC_w F1 (fun y hy => by omega)) (fun m1 => ?_)
  obtain ⟨u, g, e2⟩ := hm _ m1
  exact ⟨rM j u, e2, XM_r (XM_mf m1 g) h1 h8, (g.1.mono (fun y hy => by omega)).tr (Fr_setI (by omega))⟩
theorem MC_XM (m : XM X σ) : MC X.1 X.2.1 σ := ⟨m.1, m.2.1⟩
/-- the class read a text -/
theorem t_trouble {MF : ST → Option (Int32 × ST)} {G : ST → Prop} {k : Nat} {z : Int32} (hk : k < 8) (jr : JR A H MF G σ (f_X5_read (231 + 2 * k) z σ)) : ∃ v s, f_X11_readingTrouble (nI k) z σ = some (if v = -1 then 0 else -6, s) ∧ SF v σ s ∧ MDv A H MF v ∧ ((v = -1 ∧ ∃ u, G u ∧ ∀ y, y ≠ 0 → s.1 y = u.1 y) ∨ (v ≠ -1 ∧ ¬ v < 0)) := by
  obtain ⟨v, u, e, F, k4, z3, md, g⟩ := jr
  have F1 : Fr (fun y => y = 0) u (setI u 0 13 v) := Fr_setI rfl
  refine ⟨v, setI u 0 13 v, ?_, ⟨(F.mono (fun y hy => by omega)).tr (F1.mono (fun y hy => by omega)), fun i hi => by rw [I_ne (Or.inr hi), F.I (by omega)], I_at _ _ _ _, by rw [F1.I (by omega)]; exact z3, by rw [F1.I (by omega)]; exact k4 5 (by decide)⟩, md, ?_⟩
  · unfold f_X11_readingTrouble
    rw [ixR_ok hk (by decide), bind_s, e, bd2_s, pfI_s, bind_s, I_at]
    by_cases w : v = -1
    · rw [if_pos w, if_pos w]; rfl
    · rw [if_neg w, if_neg w]
  · rcases g with ⟨h1, h2⟩ | h
    · exact Or.inl ⟨h1, u, h2, fun y hy => (F1.1 y hy).1⟩
    · exact Or.inr h
theorem SF_rf (vb : VB σ) : SF (σ.1 0 13) σ σ := ⟨Fr.rf _ _, fun _ _ => rfl, rfl, vb.2.2.1, rfl⟩
end
