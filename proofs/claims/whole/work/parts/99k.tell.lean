section
/-! ===== seen, span, was ===== -/
variable {A : AW} {X : XS} {σ : ST} {H : SHV}
def lim (A : AW) (t : Nat) : Nat := if kd A t = 3 then 8 else 2
theorem lim_le (t : Nat) : lim A t ≤ 8 := by unfold lim; split <;> omega
theorem lim_g (y : Int32) (t : Nat) {β : Type} {p q : β} : (if y < 0 then p else if nI (lim A t - 1) < y then p else q) = if inR y (lim A t) = true then q else p := by
  have hl : lim A t = 8 ∨ lim A t = 2 := by unfold lim; split <;> omega
  by_cases h : y < 0
  · rw [if_pos h, inR_f1 h, if_neg (by decide)]
  · obtain ⟨k, hk, rfl⟩ := nI_of h
    rw [if_neg h, inR_nI hk (by omega)]
    by_cases w : lim A t - 1 < k
    · rw [if_pos ((nI_ltI (by omega) hk).mpr w), decide_eq_false (by omega), if_neg (by decide)]
    · rw [if_neg (fun q => w ((nI_ltI (by omega) hk).mp q)), decide_eq_true (by omega), if_pos rfl]
theorem c_canHave (a : AOK A) (c : CR 2 A σ) {t : Nat} (ht : t < nT A) (y : Int32) : f_X11_canHave (nI t) y σ = some (b2 (inR y (lim A t)), σ) := by
  have hT := nT10 a
  unfold f_X11_canHave
  rw [c_isRunning a c, bd2_s]
  have e : (if b2 (isR A (nI t)) = 0 then f_X11_canHave_19 y (nI 1) σ else f_X11_canHave_19 y (nI 7) σ) = if nI (lim A t - 1) < y then some (nI 0, σ) else some (nI 1, σ) := by
    unfold isR lim f_X11_canHave_19
    rw [guardT ht (by omega), nI_cl (by omega), Bool.true_and]
    by_cases w : kd A t = 3
    · rw [decide_eq_true w, if_neg b2t0, if_pos w]
    · rw [decide_eq_false w, if_pos b2f0, if_neg w]
  rw [e, lim_g, b2_g]
theorem m_isValue (a : AOK A) (m : MR A σ) {t : Nat} (ht : t < nT A) (y : Int32) : f_X12_isValue (nI t) y σ = some (b2 (inR y (lim A t)), σ) := by
  have hT := nT10 a
  have hk := a.2.1 t ht
  unfold f_X12_isValue
  rw [rdI_ok (show t < 10 by omega) (by decide), (m.2.1 t ht).1]
  simp only [bind_s]
  have e : (if nI (kd A t) = nI 3 then f_X12_isValue_21 y (nI 7) σ else f_X12_isValue_21 y (nI 1) σ) = if nI (lim A t - 1) < y then some (nI 0, σ) else some (nI 1, σ) := by
    unfold lim f_X12_isValue_21
    by_cases w : kd A t = 3
    · rw [if_pos (congrArg nI w), if_pos w]
    · rw [if_neg (fun q => w ((nI_eq (by omega) (by omega)).mp q)), if_neg w]
  rw [e, lim_g, b2_g]
theorem n16 (a : AOK A) (m : MR A σ) {β : Type} {p q : β} : (if σ.1 247 9 = nI 16 then p else q) = if nP A < 16 then q else p := by
  have hP := a.1.2.2
  rw [m.1.2.2]
  by_cases w : nP A < 16
  · rw [if_neg (fun z => by have := (nI_eq (by omega) (by omega)).mp z; omega), if_pos w]
  · rw [if_pos (congrArg nI (show nP A = 16 by omega)), if_neg w]
theorem rmP0 {k : Nat} (hk : k ≠ 1) : (rmP A k = true) = (nP A < 16) := by
  unfold rmP
  rw [decide_eq_false hk]
  simp
theorem q_seen (h : XR X σ) (x y z : Int32) : OUT (f_X11_seen x y z) (f_X12_seen x y z) σ := by
  have a := h.1.1
  have c := h.2.1.1
  have hH := a.1.2.1
  cases g1 : inR x (nH X.1) with
  | false => exact OUT_ref h (j := 1) (by decide) (by decide) (by unfold f_X11_seen; rw [c_isHappening c, g1, bd2_s, if_pos b2f0, c_refuse (j := 1) (by decide) (by decide), bd2_s]) (fun s m => by unfold f_X12_seen; rw [t_isHappening m.1, g1, bd2_s, if_pos b2f0, m_no (j := 1) (by decide) (by decide), bd2_s])
  | true =>
    cases g2 : inR z 6 with
    | false => exact OUT_ref h (j := 1) (by decide) (by decide) (by unfold f_X11_seen; rw [c_isHappening c, g1, bd2_s, if_neg b2t0, c_isMouth, g2, bd2_s, if_pos b2f0, c_refuse (j := 1) (by decide) (by decide), bd2_s]) (fun s m => by unfold f_X12_seen; rw [t_isHappening m.1, g1, bd2_s, if_neg b2t0, t_isMouth, g2, bd2_s, if_pos b2f0, m_no (j := 1) (by decide) (by decide), bd2_s])
    | true =>
      cases g3 : inR y 12 with
      | false => exact OUT_ref h (j := 6) (by decide) (by decide) (by unfold f_X11_seen; rw [c_isHappening c, g1, bd2_s, if_neg b2t0, c_isMouth, g2, bd2_s, if_neg b2t0, c_isHour, g3, bd2_s, if_pos b2f0, c_refuse (j := 6) (by decide) (by decide), bd2_s]) (fun s m => by unfold f_X12_seen; rw [t_isHappening m.1, g1, bd2_s, if_neg b2t0, t_isMouth, g2, bd2_s, if_neg b2t0, t_isHour, g3, bd2_s, if_pos b2f0, m_no (j := 6) (by decide) (by decide), bd2_s])
      | true =>
        obtain ⟨w, hw, rfl⟩ := inR_of g1 (by omega)
        obtain ⟨mo, hmo, rfl⟩ := inR_of g2 (by omega)
        obtain ⟨p, hp, rfl⟩ := inR_of g3 (by omega)
        refine OUT_p (k := 0) (w := w) (p := p) (q := p) (v := 0) (m := mo) h ⟨by omega, by omega, hp, by omega, hmo, by omega, fun _ => hw, fun _ => rfl, by omega, fun _ => rfl⟩ ?_ (fun u mu => ?_)
        · unfold f_X11_seen
          rw [c_isHappening c, g1, bd2_s, if_neg b2t0, c_isMouth, g2, bd2_s, if_neg b2t0, c_isHour, g3, bd2_s, if_neg b2t0]
          cases f_X11_tell (nI 0) (nI w) (nI p) (nI p) (nI 0) (nI mo) σ <;> rfl
        · unfold f_X12_seen
          rw [t_isHappening mu.1, g1, bd2_s, if_neg b2t0, t_isMouth, g2, bd2_s, if_neg b2t0, t_isHour, g3, bd2_s, if_neg b2t0, n16 a mu.1, m_no (j := 7) (by decide) (by decide), bd2_s]
          simp only [rmP0 (A := X.1) (show 0 ≠ 1 by decide)]
          split
          · cases f_X12_piece (nI 0) (nI w) (nI p) (nI p) (nI 0) (nI mo) u <;> rfl
          · rfl
theorem q_span (h : XR X σ) (x y z : Int32) {b : Nat} (hb : b ≤ 1) (r : Int32) : OUT (f_X11_span x y z (nI b) r) (f_X12_span x y z (nI b) r) σ := by
  have a := h.1.1
  have c := h.2.1.1
  have hH := a.1.2.1
  cases g1 : inR x (nH X.1) with
  | false => exact OUT_ref h (j := 1) (by decide) (by decide) (by unfold f_X11_span; rw [c_isHappening c, g1, bd2_s, if_pos b2f0, c_refuse (j := 1) (by decide) (by decide), bd2_s]) (fun s m => by unfold f_X12_span; rw [t_isHappening m.1, g1, bd2_s, if_pos b2f0, m_no (j := 1) (by decide) (by decide), bd2_s])
  | true =>
    cases g2 : inR r 6 with
    | false => exact OUT_ref h (j := 1) (by decide) (by decide) (by unfold f_X11_span; rw [c_isHappening c, g1, bd2_s, if_neg b2t0, c_isMouth, g2, bd2_s, if_pos b2f0, c_refuse (j := 1) (by decide) (by decide), bd2_s]) (fun s m => by unfold f_X12_span; rw [t_isHappening m.1, g1, bd2_s, if_neg b2t0, t_isMouth, g2, bd2_s, if_pos b2f0, m_no (j := 1) (by decide) (by decide), bd2_s])
    | true =>
      cases g3 : inHH y z with
      | false => exact OUT_ref h (j := 6) (by decide) (by decide) (by unfold f_X11_span; rw [c_isHappening c, g1, bd2_s, if_neg b2t0, c_isMouth, g2, bd2_s, if_neg b2t0, c_areHours, g3, bd2_s, if_pos b2f0, c_refuse (j := 6) (by decide) (by decide), bd2_s]) (fun s m => by unfold f_X12_span; rw [t_isHappening m.1, g1, bd2_s, if_neg b2t0, t_isMouth, g2, bd2_s, if_neg b2t0, t_areHours, g3, bd2_s, if_pos b2f0, m_no (j := 6) (by decide) (by decide), bd2_s])
      | true =>
        obtain ⟨w, hw, rfl⟩ := inR_of g1 (by omega)
        obtain ⟨mo, hmo, rfl⟩ := inR_of g2 (by omega)
        obtain ⟨p, q, hpq, hq12, rfl, rfl⟩ := inHH_of g3
        rcases (show b = 0 ∨ b = 1 by omega) with rfl | rfl
        · refine OUT_p (k := 1) (w := w) (p := p) (q := q) (v := 0) (m := mo) h ⟨by omega, hpq, hq12, by omega, hmo, by omega, fun _ => hw, by omega, by omega, fun _ => rfl⟩ ?_ (fun u mu => ?_)
          · unfold f_X11_span
            rw [c_isHappening c, g1, bd2_s, if_neg b2t0, c_isMouth, g2, bd2_s, if_neg b2t0, c_areHours, g3, bd2_s, if_neg b2t0, if_pos (show nI 0 = 0 by decide)]
            cases f_X11_tell (nI 1) (nI w) (nI p) (nI q) (nI 0) (nI mo) σ <;> rfl
          · have hc := mu.1
            unfold f_X12_span f_X12_span_68
            rw [t_isHappening mu.1, g1, bd2_s, if_neg b2t0, t_isMouth, g2, bd2_s, if_neg b2t0, t_areHours, g3, bd2_s, if_neg b2t0, n16 a mu.1, m_no (j := 7) (by decide) (by decide), bd2_s, if_pos (show nI 0 = 0 by decide), m_spanPieces a mu.1, bd2_s, m_no (j := 7) (by decide) (by decide), bd2_s, if_pos (show nI 0 = 0 by decide)]
            have hcnt := a.2.2.2.2.2.1
            by_cases w16 : nP X.1 < 16
            · rw [if_pos w16]
              by_cases w2 : cnt (pk X.1) 1 (nP X.1) = 2
              · rw [if_pos (congrArg nI w2), if_neg (show ¬ rmP X.1 1 = true by unfold rmP; simp [w2])]
              · rw [if_neg (fun v => w2 ((nI_eq (by omega) (by omega)).mp v)), if_pos (show rmP X.1 1 = true by unfold rmP; simp [w16]; omega)]
                cases f_X12_piece (nI 1) (nI w) (nI p) (nI q) (nI 0) (nI mo) u <;> rfl
            · rw [if_neg w16, if_neg (show ¬ rmP X.1 1 = true by unfold rmP; simp [w16])]
        · refine OUT_p (k := 3) (w := w) (p := p) (q := q) (v := 0) (m := mo) h ⟨by omega, hpq, hq12, by omega, hmo, by omega, fun _ => hw, by omega, by omega, fun _ => rfl⟩ ?_ (fun u mu => ?_)
          · unfold f_X11_span
            rw [c_isHappening c, g1, bd2_s, if_neg b2t0, c_isMouth, g2, bd2_s, if_neg b2t0, c_areHours, g3, bd2_s, if_neg b2t0, if_neg (show ¬ nI 1 = 0 by decide)]
            cases f_X11_tell (nI 3) (nI w) (nI p) (nI q) (nI 0) (nI mo) σ <;> rfl
          · unfold f_X12_span f_X12_span_68
            rw [t_isHappening mu.1, g1, bd2_s, if_neg b2t0, t_isMouth, g2, bd2_s, if_neg b2t0, t_areHours, g3, bd2_s, if_neg b2t0, n16 a mu.1, m_no (j := 7) (by decide) (by decide), bd2_s, if_neg (show ¬ nI 1 = 0 by decide), if_neg (show ¬ nI 1 = 0 by decide)]
            simp only [rmP0 (A := X.1) (show 3 ≠ 1 by decide)]
            split
            · cases f_X12_piece (nI 3) (nI w) (nI p) (nI q) (nI 0) (nI mo) u <;> rfl
            · rfl
theorem q_was (h : XR X σ) (x y z r1 r2 : Int32) : OUT (f_X11_was x y z r1 r2) (f_X12_was x y z r1 r2) σ := by
  have a := h.1.1
  have c := h.2.1.1
  have hT := nT10 a
  cases g1 : inR x (nT X.1) with
  | false => exact OUT_ref h (j := 1) (by decide) (by decide) (by unfold f_X11_was; rw [c_isThing c, g1, bd2_s, if_pos b2f0, c_refuse (j := 1) (by decide) (by decide), bd2_s]) (fun s m => by unfold f_X12_was; rw [t_isThing m.1, g1, bd2_s, if_pos b2f0, m_no (j := 1) (by decide) (by decide), bd2_s])
  | true =>
    obtain ⟨w, hw, rfl⟩ := inR_of g1 (by omega)
    cases g2 : inR r2 6 with
    | false => exact OUT_ref h (j := 1) (by decide) (by decide) (by unfold f_X11_was; rw [c_isThing c, g1, bd2_s, if_neg b2t0, c_isMouth, g2, bd2_s, if_pos b2f0, c_refuse (j := 1) (by decide) (by decide), bd2_s]) (fun s m => by unfold f_X12_was; rw [t_isThing m.1, g1, bd2_s, if_neg b2t0, t_isMouth, g2, bd2_s, if_pos b2f0, m_no (j := 1) (by decide) (by decide), bd2_s])
    | true =>
      cases g3 : inHH z r1 with
      | false => exact OUT_ref h (j := 6) (by decide) (by decide) (by unfold f_X11_was; rw [c_isThing c, g1, bd2_s, if_neg b2t0, c_isMouth, g2, bd2_s, if_neg b2t0, c_areHours, g3, bd2_s, if_pos b2f0, c_refuse (j := 6) (by decide) (by decide), bd2_s]) (fun s m => by unfold f_X12_was; rw [t_isThing m.1, g1, bd2_s, if_neg b2t0, t_isMouth, g2, bd2_s, if_neg b2t0, t_areHours, g3, bd2_s, if_pos b2f0, m_no (j := 6) (by decide) (by decide), bd2_s])
      | true =>
        obtain ⟨mo, hmo, rfl⟩ := inR_of g2 (by omega)
        obtain ⟨p, q, hpq, hq12, rfl, rfl⟩ := inHH_of g3
        cases g4 : inR y (lim X.1 w) with
        | false => exact OUT_ref h (j := 6) (by decide) (by decide) (by unfold f_X11_was; rw [c_isThing c, g1, bd2_s, if_neg b2t0, c_isMouth, g2, bd2_s, if_neg b2t0, c_areHours, g3, bd2_s, if_neg b2t0, c_canHave a c hw, g4, bd2_s, if_pos b2f0, c_refuse (j := 6) (by decide) (by decide), bd2_s]) (fun s m => by unfold f_X12_was; rw [t_isThing m.1, g1, bd2_s, if_neg b2t0, t_isMouth, g2, bd2_s, if_neg b2t0, t_areHours, g3, bd2_s, if_neg b2t0, m_isValue a m.1 hw, g4, bd2_s, if_pos b2f0, m_no (j := 6) (by decide) (by decide), bd2_s])
        | true =>
          have ll := lim_le (A := X.1) w
          obtain ⟨v, hv', rfl⟩ := inR_of g4 (by omega)
          refine OUT_p (k := 2) (w := w) (p := p) (q := q) (v := v) (m := mo) h ⟨by omega, hpq, hq12, by omega, hmo, fun _ => hw, by omega, by omega, fun _ z => by unfold lim at hv'; rw [if_neg z] at hv'; omega, by omega⟩ ?_ (fun u mu => ?_)
          · unfold f_X11_was
            rw [c_isThing c, g1, bd2_s, if_neg b2t0, c_isMouth, g2, bd2_s, if_neg b2t0, c_areHours, g3, bd2_s, if_neg b2t0, c_canHave a c hw, g4, bd2_s, if_neg b2t0]
            cases f_X11_tell (nI 2) (nI w) (nI p) (nI q) (nI v) (nI mo) σ <;> rfl
          · unfold f_X12_was
            rw [t_isThing mu.1, g1, bd2_s, if_neg b2t0, t_isMouth, g2, bd2_s, if_neg b2t0, t_areHours, g3, bd2_s, if_neg b2t0, m_isValue a mu.1 hw, g4, bd2_s, if_neg b2t0, n16 a mu.1, m_no (j := 7) (by decide) (by decide), bd2_s]
            simp only [rmP0 (A := X.1) (show 2 ≠ 1 by decide)]
            split
            · cases f_X12_piece (nI 2) (nI w) (nI p) (nI q) (nI v) (nI mo) u <;> rfl
            · rfl
end
