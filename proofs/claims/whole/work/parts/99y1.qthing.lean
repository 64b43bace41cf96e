section
/-! ===== thing ===== -/
variable {X : XS} {σ τ : ST} {ft : Int32} {k s : Nat}
theorem kind_g {β : Type} (x : Int32) {p q : β} : (if x < 0 then p else if nI 3 < x then p else q) = if inR x 4 = true then q else p := by
  by_cases h : x < 0
  · rw [if_pos h, inR_f1 h, if_neg (by decide)]
  · obtain ⟨k, hk, rfl⟩ := nI_of h
    rw [if_neg h, inR_nI hk (by decide)]
    by_cases w : 3 < k
    · rw [if_pos ((nI_ltI (by omega) hk).mpr w), decide_eq_false (by omega), if_neg (by decide)]
    · rw [if_neg (fun q => w ((nI_ltI (by omega) hk).mp q)), decide_eq_true (by omega), if_pos rfl]
theorem MFd_60 {v : Int32} : MFd (τ.1 247 21) τ (setI τ 247 60 v) := ⟨Fr_setI rfl, fun k _ _ h => I_ne (Or.inr h), I_ne (Or.inr (by decide))⟩
theorem MFd_w {u : ST} {v : Int32} (h : MFd ft τ σ) (w : W22 σ u) : MFd v τ (setI u 247 21 v) := ⟨(h.1.tr w.1).tr (Fr_setI rfl), fun k h1 h2 h3 => by rw [I_ne (Or.inr h1), w.2 k h2]; exact h.2.1 k h1 h2 h3, I_at _ _ _ _⟩
theorem MFd_s60 {u : ST} {v : Int32} (h : MFd ft τ u) : MFd ft τ (setI u 247 60 v) := ⟨h.1.tr (Fr_setI rfl), fun k h1 h2 h3 => by rw [I_ne (Or.inr h3)]; exact h.2.1 k h1 h2 h3, by rw [I_ne (Or.inr (by decide))]; exact h.2.2⟩
/-- the reference up to the fault -/
theorem m_thing_pre (m : XM X τ) (r : RD X.1 X.2.1 s) (hk : 2 ≤ k) (hk3 : k ≤ 3) {v : Int32} (md : MDv X.1 X.2.1 (f_X12_conditionFault (nI s)) v) : ∃ τ2, MFd v τ τ2 ∧ f_X12_thing (nI k) (nI s) τ = if v < 0 then ((rdI τ2 264 8 (nI s)).bind fun v23 => (pfI τ2 247 60 v23).bind fun s24 => f_X12_thing_74 (nI k) (nI s) s24) else (bd2 (f_X12_no (-6) τ2) fun v26 s25 => some (v26, s25)) := by
  have m1 := XM_mf m (MFd_60 (τ := τ) (v := nI 0))
  obtain ⟨τ', w, e⟩ := md _ ⟨m1.1, m1.2.1⟩
  refine ⟨setI τ' 247 21 v, MFd_w (MFd_60 (τ := τ) (v := nI 0)) w, ?_⟩
  have rt0 : rt X.2.1 s = nI 0 := if_pos r.2.2
  unfold f_X12_thing
  rw [kind_g, guardT (show k < 4 by omega) (by decide), if_pos rfl, pfI_s, bind_s, if_pos ((nI_ltI (by omega) (by omega)).mpr (show 1 < k by omega)), m_noRow r.1 m1.2.1 r.2.1, bd2_s, rt0, if_neg (by decide), e, bd2_s, pfI_s, bind_s, I_at]
theorem m_thing_no (hk : 2 ≤ k) (hk3 : k ≤ 3) {y v : Int32} {j : Nat} (e : ∀ u, MFd (τ.1 247 21) τ u → f_X12_noRow y u = some (v, u)) (hv : v < 0) (hj : -v = nI j) (hj8 : j < 8) : f_X12_thing (nI k) y τ = some (v, rM j (setI τ 247 60 (nI 0))) := by
  unfold f_X12_thing
  rw [kind_g, guardT (show k < 4 by omega) (by decide), if_pos rfl, pfI_s, bind_s, if_pos ((nI_ltI (by omega) (by omega)).mpr (show 1 < k by omega)), e _ MFd_60, bd2_s, if_pos hv, m_no hj hj8, bd2_s]
theorem c_thing (hk : k < 4) {y : Int32} : f_X11_thing (nI k) y σ = if 2 ≤ k then f_X11_thing_23 (nI k) y σ else f_X11_thing_50 (nI k) σ := by
  unfold f_X11_thing
  rw [c_isKind, guardT hk (by decide), bd2_s, if_neg b2t0]
  rcases (show k = 0 ∨ k = 1 ∨ k = 2 ∨ k = 3 by omega) with rfl | rfl | rfl | rfl
  · rw [if_neg (by decide), if_neg (by decide), if_neg (by decide)]
  · rw [if_neg (by decide), if_neg (by decide), if_neg (by decide)]
  · rw [if_pos rfl, if_pos (by decide)]
  · rw [if_neg (by decide), if_pos rfl, if_pos (by decide)]
theorem CC_GC {A : AW} {H : SHV} {j : Nat} (h : GC A H s j σ) : CC σ 190 (CMr (σ.1 191) (σ.1 192) (σ.1 193) (σ.1 194) j) := ⟨j, h.2.1, h.1, fun _ _ _ _ => rfl⟩
theorem q_thing (h : XR X σ) (x y : Int32) : OUT (f_X11_thing x y) (f_X12_thing x y) σ := by
  have a := h.1.1
  have o := h.1.2.1
  have vb : VB σ := h.2.1.2.2.2.2.2.2.2
  have c13 : σ.1 0 13 = X.2.2.2.1 := h.2.1.2.2.2.2.1
  cases g1 : inR x 4 with
  | false => exact OUT_ref h (v := -1) (j := 1) (by decide) (by decide) (by unfold f_X11_thing; rw [c_isKind, g1, bd2_s, if_pos b2f0, c_refuse (j := 1) (by decide) (by decide), bd2_s]) (fun s m => by unfold f_X12_thing; rw [kind_g, g1, if_neg (by decide), m_no (j := 1) (by decide) (by decide), bd2_s])
  | true =>
    obtain ⟨k, hk, rfl⟩ := inR_of g1 (by decide)
    have ft0 : ∀ τ, XM X τ → τ.1 247 21 = σ.1 0 13 := fun τ m => m.2.2.2.1.trans c13.symm
    by_cases k2 : 2 ≤ k
    · have ref : ∀ v j, 1 ≤ j → j < 8 → -v = nI j → v < 0 → ¬ v = 0 → f_X11_rowTrouble y σ = some (v, σ) → (∀ τ, SHM X.2.1 τ → f_X12_noRow y τ = some (v, τ)) → OUT (f_X11_thing (nI k) y) (f_X12_thing (nI k) y) σ := fun v j h1 h8 hv hn hz e1 e2 => by
        refine OUT_rf h h1 h8 (SF_rf vb) (v := v) ?_ (fun τ m => ⟨setI τ 247 60 (nI 0), by rw [← ft0 τ m]; exact MFd_60, m_thing_no k2 (by omega) (fun u hu => e2 u (XM_mf m hu).2.1) hn hv h8⟩)
        rw [c_thing hk, if_pos k2]
        unfold f_X11_thing_23 f_X11_thing_40
        rw [e1, bd2_s, if_neg hz, if_neg hz, c_refuse hv h8, bd2_s]
      cases g2 : inR y 8 with
      | false => exact ref (-1) 1 (by decide) (by decide) (by decide) (by decide) (by decide) (c_rowTrouble_no g2) (fun τ m => m_noRow_no g2)
      | true =>
        obtain ⟨s, hs, rfl⟩ := inR_of g2 (by decide)
        rcases rt_or X.2.1 s with ⟨rt0, hq1⟩ | ⟨j, h1, h8, hv, hn, hz⟩
        · have r : RD X.1 X.2.1 s := ⟨o, hs, hq1⟩
          have l := RD_60 r
          obtain ⟨v, s0, e, f, md, g⟩ := t_trouble hs (t_readC a h.2.1.1 r h.2.1.2.2.1)
          have ec : f_X11_thing (nI k) (nI s) σ = f_X11_thing_40 (nI k) (if v = -1 then 0 else -6) s0 := by
            rw [c_thing hk, if_pos k2]
            unfold f_X11_thing_23
            rw [c_rowTrouble o h.2.1.2.2.1 hs, bd2_s, rt0, if_pos (show nI 0 = 0 by decide), e, bd2_s]
          rcases g with ⟨rfl, u, ⟨j, gc⟩, eu⟩ | ⟨vn, v0⟩
          · have gc2 : GC X.1 X.2.1 s (j + 1) s0 := GC_eq gc (fun y h1 h2 => eu y (by omega))
            refine OUT_thing (g := CMr (s0.1 191) (s0.1 192) (s0.1 193) (s0.1 194) (j + 1)) (n := hn X.2.1 s) (t := lt X.2.1 s) (y := nI s) h (show k ≤ 3 by omega) f ?_ (fun _ => CC_GC gc2) l (fun _ t' e' => TM_GC gc2 l e') (fun h10 => cpy_r r h10) (fun τ m => ?_)
            · rw [ec, if_pos rfl]
              unfold f_X11_thing_40
              rw [if_pos rfl]
            · obtain ⟨τ2, mf, e2⟩ := m_thing_pre m r k2 (by omega) md
              refine ⟨setI τ2 247 60 (nI (hn X.2.1 s)), MFd_s60 mf, I_at _ _ _ _, ?_⟩
              rw [e2, if_pos (by decide), rdI_ok hs (by decide), ((XM_mf m mf).2.1 s hs).2.1 hq1, bind_s, pfI_s, bind_s]
              rfl
          · refine OUT_rf (v := -6) (j := 6) h (by decide) (by decide) f ?_ (fun τ m => ?_)
            · rw [ec, if_neg vn]
              unfold f_X11_thing_40
              rw [if_neg (by decide), c_refuse (j := 6) (by decide) (by decide), bd2_s]
            · obtain ⟨τ2, mf, e2⟩ := m_thing_pre m r k2 (by omega) md
              exact ⟨τ2, mf, by rw [e2, if_neg v0, m_no (j := 6) (by decide) (by decide), bd2_s]⟩
        · exact ref _ j h1 h8 hv hn hz (c_rowTrouble o h.2.1.2.2.1 hs) (fun τ m => m_noRow o m hs)
    · refine OUT_thing (g := fun _ _ => true) (n := 0) (t := fun _ => 0) (y := y) h (show k ≤ 3 by omega) (SF_rf vb) ?_ (fun q => absurd q k2) (by decide) (fun q => absurd q k2) (fun _ => cpy_0) (fun τ m => ⟨setI τ 247 60 (nI 0), by rw [← ft0 τ m]; exact MFd_60, I_at _ _ _ _, ?_⟩)
      · rw [c_thing hk, if_neg k2]
      · unfold f_X12_thing
        rw [kind_g, guardT hk (by decide), if_pos rfl, pfI_s, bind_s, if_neg (fun q => by have := (nI_ltI (by omega) (by omega)).mp q; omega)]
end
