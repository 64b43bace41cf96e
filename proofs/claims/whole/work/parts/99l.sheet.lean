section
/-! ===== sheet ===== -/
variable {A : AW} {X : XS} {σ : ST} {H : SHV}
def tf (A : AW) (K W P Q V : Int32) : Bool := inR K 4 && (inHH P Q && ((!decide (K = 0) || decide (P = Q)) && ((if K = nI 2 then (inR W (nT A) && inR V (lim A W.toNatClampNeg)) else inR W (nH A)) && rmP A K.toNatClampNeg)))
def tA (A : AW) (K W P Q V : Int32) (m : Nat) : AW := aP A K.toNatClampNeg W.toNatClampNeg P.toNatClampNeg Q.toNatClampNeg (if K = nI 2 then V.toNatClampNeg else 0) m
theorem tf_of (a : AOK A) {K W P Q V : Int32} {m : Nat} (hm : m < 6) (h : tf A K W P Q V = true) : ∃ k w p q v, K = nI k ∧ W = nI w ∧ P = nI p ∧ Q = nI q ∧ (if K = nI 2 then V else nI 0) = nI v ∧ PK A k w p q v m ∧ rmP A k = true ∧ tA A K W P Q V m = aP A k w p q v m := by
  have hT := nT10 a
  have hH := a.1.2.1
  unfold tf at h
  rw [Bool.and_eq_true, Bool.and_eq_true, Bool.and_eq_true, Bool.and_eq_true] at h
  obtain ⟨h1, h2, h3, h4, h5⟩ := h
  obtain ⟨k, hk, rfl⟩ := inR_of h1 (by decide)
  obtain ⟨p, q, hpq, hq12, rfl, rfl⟩ := inHH_of h2
  rw [nI_cl (by omega)] at h5
  have e0 : k = 0 → p = q := fun z => by
    rw [decide_eq_true (show nI k = 0 by rw [z]; rfl)] at h3
    exact (nI_eq (by omega) (by omega)).mp (of_decide_eq_true h3)
  unfold tA
  by_cases z : k = 2
  · have z' : nI k = nI 2 := congrArg nI z
    rw [if_pos z', Bool.and_eq_true] at h4
    obtain ⟨w, hw, rfl⟩ := inR_of h4.1 (by omega)
    rw [nI_cl (by omega)] at h4
    have ll := lim_le (A := A) w
    obtain ⟨v, hv', rfl⟩ := inR_of h4.2 (by omega)
    refine ⟨k, w, p, q, v, rfl, rfl, rfl, rfl, by rw [if_pos z'], ⟨by omega, hpq, hq12, by omega, hm, fun _ => hw, by omega, by omega, fun _ z2 => ?_, by omega⟩, h5, ?_⟩
    · unfold lim at hv'; rw [if_neg z2] at hv'; omega
    · rw [if_pos z', nI_cl (by omega), nI_cl (by omega), nI_cl (by omega), nI_cl (by omega), nI_cl (by omega)]
  · have z' : ¬ nI k = nI 2 := fun y => z ((nI_eq (by omega) (by omega)).mp y)
    rw [if_neg z'] at h4
    obtain ⟨w, hw, rfl⟩ := inR_of h4 (by omega)
    refine ⟨k, w, p, q, 0, rfl, rfl, rfl, rfl, by rw [if_neg z'], ⟨by omega, hpq, hq12, by omega, hm, by omega, fun _ => hw, e0, by omega, fun _ => rfl⟩, h5, ?_⟩
    rw [if_neg z', nI_cl (by omega), nI_cl (by omega), nI_cl (by omega), nI_cl (by omega)]
/-- the letter of a cell -/
def lt (H : SHV) (s j : Nat) : Int32 := (hv H s j).toInt32
theorem t_intAt (o : HOK A H) (c : SHC H σ) {s j : Nat} (hs : s < 8) (hj : j < hn H s) : f_X7_intAt (231 + 2 * s) (nI j) σ = some (lt H s j, σ) := by
  have l := (o s hs).1
  unfold f_X7_intAt
  rw [t_cellAt o c hs, guardT hj (by omega), if_pos rfl, bd2_s, nI_cl (by omega)]
  rfl
theorem c_isKind (y : Int32) : f_X11_isKind y σ = some (b2 (inR y 4), σ) := by unfold f_X11_isKind; rw [in_g, b2_g]
theorem bd_id {x : Option (Int32 × ST)} {v : Int32} : bd2 x (fun _ s => some (v, s)) = x.bind (fun p => some (v, p.2)) := rfl
theorem t_tellFrom (a : AOK A) (o : HOK A H) (c : CR 2 A σ) (i : CI A σ) (sc : SHC H σ) {s at_ m : Nat} (hs : s < 8) (hat : at_ + 5 ≤ hn H s) (hm : m < 6) : (tf A (lt H s at_) (lt H s (at_ + 1)) (lt H s (at_ + 2)) (lt H s (at_ + 3)) (lt H s (at_ + 4)) = false ∧ f_X11_tellFrom (231 + 2 * s) (nI at_) (nI m) σ = some (nI 0, σ)) ∨ (tf A (lt H s at_) (lt H s (at_ + 1)) (lt H s (at_ + 2)) (lt H s (at_ + 3)) (lt H s (at_ + 4)) = true ∧ ∃ u, f_X11_tellFrom (231 + 2 * s) (nI at_) (nI m) σ = some (nI 1, u) ∧ Ftl 1 σ u ∧ CR 2 (tA A (lt H s at_) (lt H s (at_ + 1)) (lt H s (at_ + 2)) (lt H s (at_ + 3)) (lt H s (at_ + 4)) m) u ∧ CI (tA A (lt H s at_) (lt H s (at_ + 1)) (lt H s (at_ + 2)) (lt H s (at_ + 3)) (lt H s (at_ + 4)) m) u ∧ (VB σ → VB u)) := by
  have hT := nT10 a
  have hH := a.1.2.1
  have l := (o s hs).1
  have pre : f_X11_tellFrom (231 + 2 * s) (nI at_) (nI m) σ = (if b2 (inR (lt H s at_) 4) = 0 then some (nI 0, σ) else if b2 (inHH (lt H s (at_ + 2)) (lt H s (at_ + 3))) = 0 then some (nI 0, σ) else if lt H s at_ = 0 then (if lt H s (at_ + 2) = lt H s (at_ + 3) then f_X11_tellFrom_75 (nI m) (lt H s at_) (lt H s (at_ + 1)) (lt H s (at_ + 2)) (lt H s (at_ + 3)) (lt H s (at_ + 4)) σ else some (nI 0, σ)) else f_X11_tellFrom_75 (nI m) (lt H s at_) (lt H s (at_ + 1)) (lt H s (at_ + 2)) (lt H s (at_ + 3)) (lt H s (at_ + 4)) σ) := by
    unfold f_X11_tellFrom
    simp only [nI_add]
    rw [t_intAt o sc hs (show at_ < hn H s by omega), bd2_s, t_intAt o sc hs (show at_ + 1 < hn H s by omega), bd2_s, t_intAt o sc hs (show at_ + 2 < hn H s by omega), bd2_s, t_intAt o sc hs (show at_ + 3 < hn H s by omega), bd2_s, t_intAt o sc hs (show at_ + 4 < hn H s by omega), bd2_s, c_isKind, bd2_s, c_areHours, bd2_s]
  generalize lt H s at_ = K at *
  generalize lt H s (at_ + 1) = W at *
  generalize lt H s (at_ + 2) = P at *
  generalize lt H s (at_ + 3) = Q at *
  generalize lt H s (at_ + 4) = V at *
  rw [pre]
  cases g1 : inR K 4 with
  | false =>
    left
    rw [if_pos b2f0]
    exact ⟨by unfold tf; rw [g1]; rfl, rfl⟩
  | true =>
    rw [if_neg b2t0]
    cases g2 : inHH P Q with
    | false =>
      left
      rw [if_pos b2f0]
      exact ⟨by unfold tf; rw [g1, g2]; rfl, rfl⟩
    | true =>
      rw [if_neg b2t0]
      by_cases g3 : K = 0 ∧ P ≠ Q
      · left
        rw [if_pos g3.1, if_neg g3.2]
        exact ⟨by unfold tf; rw [g1, g2, decide_eq_true g3.1, decide_eq_false g3.2]; rfl, rfl⟩
      · have e75 : (if K = 0 then (if P = Q then f_X11_tellFrom_75 (nI m) K W P Q V σ else some (nI 0, σ)) else f_X11_tellFrom_75 (nI m) K W P Q V σ) = f_X11_tellFrom_75 (nI m) K W P Q V σ := by
          by_cases z : K = 0
          · rw [if_pos z, if_pos (Classical.byContradiction fun y => g3 ⟨z, y⟩)]
          · rw [if_neg z]
        have g3' : (!decide (K = 0) || decide (P = Q)) = true := by
          by_cases z : K = 0
          · rw [decide_eq_true (Classical.byContradiction fun y => g3 ⟨z, y⟩ : P = Q), Bool.or_true]
          · rw [decide_eq_false z]; rfl
        rw [e75]
        have e4 : f_X11_tellFrom_75 (nI m) K W P Q V σ = f_X11_tellFrom_115 (nI m) K W P Q V (b2 (if K = nI 2 then (inR W (nT A) && inR V (lim A W.toNatClampNeg)) else inR W (nH A))) σ := by
          unfold f_X11_tellFrom_75 f_X11_tellFrom_105
          by_cases z : K = nI 2
          · rw [if_pos z, if_pos z, c_isThing c, bd2_s]
            cases g4 : inR W (nT A) with
            | false => rw [if_pos b2f0]; rfl
            | true =>
              obtain ⟨w, hw, rfl⟩ := inR_of g4 (by omega)
              rw [if_neg b2t0, c_canHave a c hw, bd2_s, nI_cl (by omega)]
              cases g5 : inR V (lim A w) with
              | false => rw [if_pos b2f0]; rfl
              | true => rw [if_neg b2t0]; rfl
          · rw [if_neg z, if_neg z, c_isHappening c, bd2_s]
        rw [e4]
        obtain ⟨k, hk, rfl⟩ := inR_of g1 (by decide)
        have tfe : tf A (nI k) W P Q V = ((if nI k = nI 2 then (inR W (nT A) && inR V (lim A W.toNatClampNeg)) else inR W (nH A)) && rmP A k) := by
          unfold tf
          rw [g1, g2, g3', nI_cl (by omega)]
          rfl
        unfold f_X11_tellFrom_115
        cases g4 : (if nI k = nI 2 then (inR W (nT A) && inR V (lim A W.toNatClampNeg)) else inR W (nH A)) with
        | false =>
          left
          rw [tfe, g4, if_pos b2f0]
          exact ⟨rfl, rfl⟩
        | true =>
          rw [if_neg b2t0, t_roomP a c (show k ≤ 3 by omega), bd2_s]
          cases g5 : rmP A k with
          | false =>
            left
            rw [tfe, g4, g5, if_pos b2f0]
            exact ⟨rfl, rfl⟩
          | true =>
            right
            have htf : tf A (nI k) W P Q V = true := by rw [tfe, g4, g5]; rfl
            rw [if_neg b2t0]
            obtain ⟨k', w, p, q, v, e1, rfl, rfl, rfl, ev, pk, r, et⟩ := tf_of a hm htf
            have ek : k' = k := (nI_eq (show k' < 2 ^ 31 by have := pk.1; omega) (by omega)).mp e1.symm
            subst ek
            obtain ⟨u, e, F, c2, i2, vb⟩ := c_tell a c i pk r
            refine ⟨htf, u, ?_, F, by rw [et]; exact c2, by rw [et]; exact i2, vb⟩
            by_cases z : nI k' = nI 2
            · rw [if_pos z] at ev ⊢
              rw [ev, e, bd2_s]
            · rw [if_neg z] at ev ⊢
              rw [ev, e, bd2_s]
/-- how the sheet's rows come -/
def shA (H : SHV) (s m : Nat) : Nat → AW → Nat → Nat → AW × Nat
  | 0, A, _, c => (A, c)
  | r + 1, A, at_, c => if tf A (lt H s at_) (lt H s (at_ + 1)) (lt H s (at_ + 2)) (lt H s (at_ + 3)) (lt H s (at_ + 4)) = true then shA H s m r (tA A (lt H s at_) (lt H s (at_ + 1)) (lt H s (at_ + 2)) (lt H s (at_ + 3)) (lt H s (at_ + 4)) m) (at_ + 5) (c + 1) else (A, c)
theorem tA_ok (a : AOK A) (o : HOK A H) {K W P Q V : Int32} {m : Nat} (hm : m < 6) (h : tf A K W P Q V = true) : AOK (tA A K W P Q V m) ∧ HOK (tA A K W P Q V m) H := by
  obtain ⟨k, w, p, q, v, -, -, -, -, -, pk, r, et⟩ := tf_of a hm h
  rw [et]
  refine ⟨AOK_aP a pk r, fun s hs => ⟨(o s hs).1, (o s hs).2.1, fun z => ⟨((o s hs).2.2 z).1, ?_⟩⟩⟩
  rw [nP_aP]
  have := ((o s hs).2.2 z).2
  omega
theorem SHC_tl {n : Nat} {u : ST} (sc : SHC H σ) (F : Ftl n σ u) : SHC H u := SHC_eq sc (fun x h1 h2 => ⟨(F.1.1 x (by omega)).1, (F.1.1 x (by omega)).2.1⟩)
theorem t_csheet {s m i n : Nat} (hs : s < 8) (hm : m < 6) (hin : i + n < 2 ^ 31) : ∀ r A at_ c fuel σ, at_ + 5 * r = i + n → r < fuel → AOK A → HOK A H → CR 2 A σ → CI A σ → SHC H σ → i + n ≤ hn H s → ∃ u, f_X11_sheet_82 fuel (nI s) (nI i) (nI n) (nI m) (nI c) (nI at_) σ = some (nI (shA H s m r A at_ c).2, u) ∧ Ftl r σ u ∧ CR 2 (shA H s m r A at_ c).1 u ∧ CI (shA H s m r A at_ c).1 u ∧ AOK (shA H s m r A at_ c).1 ∧ HOK (shA H s m r A at_ c).1 H ∧ (VB σ → VB u) := by
  intro r
  induction r with
  | zero =>
    intro A at_ c fuel σ h1 h2 a o cr ci sc hl
    obtain ⟨f, rfl⟩ : ∃ j, fuel = j + 1 := ⟨fuel - 1, by omega⟩
    rw [f_X11_sheet_82, nI_add, if_neg (fun w => by have := (nI_ltI (by omega) (by omega)).mp w; omega)]
    exact ⟨σ, rfl, Ftl.rf σ, cr, ci, a, o, id⟩
  | succ r ih =>
    intro A at_ c fuel σ h1 h2 a o cr ci sc hl
    obtain ⟨f, rfl⟩ : ∃ j, fuel = j + 1 := ⟨fuel - 1, by omega⟩
    rw [f_X11_sheet_82, nI_add, if_pos ((nI_ltI (by omega) (by omega)).mpr (by omega)), ixR_ok hs (by decide)]
    simp only [bind_s]
    have e := t_tellFrom a o cr ci sc hs (show at_ + 5 ≤ hn H s by omega) hm
    unfold shA
    rcases e with ⟨e1, e2⟩ | ⟨e1, u, e2, F, c2, i2, vb⟩
    · rw [e1, e2, bd2_s, if_pos (show nI 0 = 0 by decide), if_neg (by decide)]
      exact ⟨σ, rfl, ⟨(Ftl.rf σ).1, by omega, (Ftl.rf σ).2.2⟩, cr, ci, a, o, id⟩
    · obtain ⟨a2, o2⟩ := tA_ok (H := H) a o hm e1
      rw [e1, e2, bd2_s, if_neg (show ¬ nI 1 = 0 by decide), if_pos rfl, nI_add, nI_add]
      obtain ⟨u2, g1, g2, g3, g4, g5, g6, g7⟩ := ih _ (at_ + 5) (c + 1) f u (by omega) (by omega) a2 o2 c2 i2 (SHC_tl sc F) hl
      refine ⟨u2, g1, ?_, g3, g4, g5, g6, fun z => g7 (vb z)⟩
      have := F.tr g2
      rw [Nat.add_comm] at this
      exact this
/-! the reference's -/
theorem t_mstep (a : AOK A) (mr : MR A σ) {k91 : Int32 → Int32 → Int32 → Int32 → Int32 → Int32 → ST → Option (Int32 × ST)} (x1 x2 x3 x4 x6 x7 K W P Q V : Int32) : (if K < 0 then f_X12_sheet_217 k91 x1 x2 x3 x4 x6 x7 K W P Q V σ else (if K < (nI 4) then (bd2 (f_X12_areHours P Q σ) fun v26 s25 => if v26 = 0 then (f_X12_sheet_217 k91 x1 x2 x3 x4 x6 x7 K W P Q V s25) else (if (s25.1 247 9) < (nI 16) then (f_X12_sheet_218 k91 x1 x2 x3 x4 x6 x7 K W P Q V (nI 1) s25) else (f_X12_sheet_217 k91 x1 x2 x3 x4 x6 x7 K W P Q V s25))) else (f_X12_sheet_217 k91 x1 x2 x3 x4 x6 x7 K W P Q V σ))) = if tf A K W P Q V = true then bd2 (f_X12_piece K W P Q (if K = nI 2 then V else nI 0) x4 σ) (fun _ s15 => k91 x1 x2 x3 x4 (x6 + nI 1) (x7 + nI 5) s15) else some (x6, σ) := by
  have hT := nT10 a
  have hH := a.1.2.1
  have hP := a.1.2.2
  have no308 : f_X12_sheet_308 k91 x1 x2 x3 x4 x6 x7 K W P Q V (nI 0) σ = some (x6, σ) := by unfold f_X12_sheet_308; rw [if_pos (by decide)]
  have n255 : f_X12_sheet_255 k91 x1 x2 x3 x4 x6 x7 K W P Q V σ = some (x6, σ) := by unfold f_X12_sheet_255 f_X12_sheet_256; exact no308
  have n305 : f_X12_sheet_305 k91 x1 x2 x3 x4 x6 x7 K W P Q V σ = some (x6, σ) := by unfold f_X12_sheet_305 f_X12_sheet_306; exact no308
  have n217 : f_X12_sheet_217 k91 x1 x2 x3 x4 x6 x7 K W P Q V σ = some (x6, σ) := by
    unfold f_X12_sheet_217 f_X12_sheet_218
    rw [n255, n305]
    by_cases z : K = nI 2
    · rw [if_pos z, if_pos (by decide)]
    · rw [if_neg z, if_pos (by decide)]
  have y308 : f_X12_sheet_308 k91 x1 x2 x3 x4 x6 x7 K W P Q V (nI 1) σ = bd2 (f_X12_piece K W P Q (if K = nI 2 then V else nI 0) x4 σ) (fun _ s15 => k91 x1 x2 x3 x4 (x6 + nI 1) (x7 + nI 5) s15) := by
    unfold f_X12_sheet_308
    rw [if_neg (show ¬ nI 1 = 0 by decide)]
    by_cases z : K = nI 2
    · rw [if_pos z, if_pos z]
    · rw [if_neg z, if_neg z]
  rw [n217]
  by_cases k0 : K < 0
  · rw [if_pos k0, if_neg (show ¬ tf A K W P Q V = true by unfold tf; rw [inR_f1 k0]; exact fun z => by cases z)]
  · rw [if_neg k0]
    by_cases k4 : K < nI 4
    · rw [if_pos k4, t_areHours, bd2_s]
      obtain ⟨k, hk, rfl⟩ := nI_of k0
      have hk4 := (nI_ltI hk (by decide)).mp k4
      have tfe : tf A (nI k) W P Q V = (inHH P Q && ((!decide (nI k = 0) || decide (P = Q)) && ((if nI k = nI 2 then (inR W (nT A) && inR V (lim A W.toNatClampNeg)) else inR W (nH A)) && rmP A k))) := by
        unfold tf
        rw [guardT hk4 (by decide), nI_cl (by omega)]
        rfl
      rw [tfe]
      cases g2 : inHH P Q with
      | false => rw [if_pos b2f0]; exact n217
      | true =>
        rw [if_neg b2t0, Bool.true_and, mr.1.2.2]
        by_cases p16 : nP A < 16
        · rw [if_pos ((nI_ltI (by omega) (by omega)).mpr p16)]
          unfold f_X12_sheet_218
          by_cases z : nI k = nI 2
          · have zk : k = 2 := (nI_eq (by omega) (by omega)).mp z
            have rk : rmP A k = true := by rw [rmP0 (by omega)]; exact p16
            rw [if_pos z, if_neg (show ¬ nI 1 = 0 by decide), if_pos z, rk, t_isThing mr, bd2_s, decide_eq_false (show ¬ nI k = 0 from nI_n0 (by omega) (by omega))]
            cases g4 : inR W (nT A) with
            | false => rw [if_pos b2f0, n255]; rfl
            | true =>
              obtain ⟨w, hw, rfl⟩ := inR_of g4 (by omega)
              rw [if_neg b2t0, m_isValue a mr hw, bd2_s, nI_cl (by omega)]
              cases g5 : inR V (lim A w) with
              | false => rw [if_pos b2f0, n255]; rfl
              | true =>
                rw [if_neg b2t0]
                unfold f_X12_sheet_256
                rw [y308, if_pos z, if_pos (show ((!false || decide (P = Q)) && (true && true && true)) = true by rfl)]
          · rw [if_neg z, if_neg (show ¬ nI 1 = 0 by decide), if_neg z, t_isHappening mr, bd2_s]
            cases g4 : inR W (nH A) with
            | false =>
              rw [if_pos b2f0, n305, if_neg (fun y => by rw [Bool.false_and, Bool.and_false] at y; cases y)]
            | true =>
              rw [if_neg b2t0]
              have y301 : f_X12_sheet_301 k91 x1 x2 x3 x4 x6 x7 (nI k) W P Q V σ = bd2 (f_X12_piece (nI k) W P Q (if nI k = nI 2 then V else nI 0) x4 σ) (fun _ s15 => k91 x1 x2 x3 x4 (x6 + nI 1) (x7 + nI 5) s15) := by unfold f_X12_sheet_301 f_X12_sheet_306; exact y308
              have y287 : f_X12_sheet_287 k91 x1 x2 x3 x4 x6 x7 (nI k) W P Q V σ = if rmP A k = true then bd2 (f_X12_piece (nI k) W P Q (if nI k = nI 2 then V else nI 0) x4 σ) (fun _ s15 => k91 x1 x2 x3 x4 (x6 + nI 1) (x7 + nI 5) s15) else some (x6, σ) := by
                unfold f_X12_sheet_287
                rw [y301, m_spanPieces a mr, bd2_s, n305]
                by_cases z1 : k = 1
                · subst z1
                  have hc := cnt_le (pk A) 1 (nP A)
                  rw [if_pos rfl]
                  by_cases z2 : cnt (pk A) 1 (nP A) < 2
                  · rw [if_pos ((nI_ltI (by omega) (by omega)).mpr z2), y301, if_pos (show rmP A 1 = true by unfold rmP; simp [p16, z2])]
                  · rw [if_neg (fun y => z2 ((nI_ltI (by omega) (by omega)).mp y)), if_neg (show ¬ rmP A 1 = true by unfold rmP; simp [z2])]
                · rw [if_neg (fun y => z1 ((nI_eq (by omega) (by omega)).mp y)), if_pos (show rmP A k = true by rw [rmP0 z1]; exact p16)]
              rw [if_neg z] at y287 ⊢
              by_cases z0 : nI k = 0
              · rw [if_pos z0, decide_eq_true z0]
                by_cases zpq : P = Q
                · rw [if_pos zpq, decide_eq_true zpq, y287]; rfl
                · rw [if_neg zpq, decide_eq_false zpq, n305]; rfl
              · rw [if_neg z0, decide_eq_false z0, y287]; rfl
        · rw [if_neg (fun y => p16 ((nI_ltI (by omega) (by omega)).mp y)), n217, if_neg (show ¬ _ = true from fun y => by
            rw [Bool.and_eq_true, Bool.and_eq_true] at y
            exact p16 (rmP_16 y.2.2))]
    · rw [if_neg k4, if_neg (show ¬ tf A K W P Q V = true by unfold tf; rw [inR_f2 (Int32.not_lt.mp k4)]; exact fun z => by cases z)]
/-- what stays where the reference takes pieces -/
def Ftm (σ u : ST) : Prop := Fr (fun y => y = 247 ∨ (255 ≤ y ∧ y ≤ 261)) σ u ∧ ∀ i, i ≠ 9 → u.1 247 i = σ.1 247 i
theorem Ftm.rf (σ : ST) : Ftm σ σ := ⟨Fr.rf _ _, fun _ _ => rfl⟩
theorem Ftm.tr {σ s u : ST} (h : Ftm σ s) (g : Ftm s u) : Ftm σ u := ⟨h.1.tr g.1, fun i hi => (g.2 i hi).trans (h.2 i hi)⟩
theorem SHM_tm {u : ST} (sm : SHM H σ) (F : Ftm σ u) : SHM H u := SHM_eq sm (F.1.1 _ (by omega)).1 (F.1.1 _ (by omega)).1 (F.1.1 _ (by omega)).2.1
theorem t_msheet {s m i n : Nat} (hs : s < 8) (hm : m < 6) (hin : i + n < 2 ^ 31) : ∀ r A at_ c fuel σ, at_ + 5 * r = i + n → r < fuel → AOK A → HOK A H → MR A σ → SHM H σ → i + n ≤ hn H s → ∃ u, f_X12_sheet_91 fuel (nI s) (nI i) (nI n) (nI m) (nI c) (nI at_) σ = some (nI (shA H s m r A at_ c).2, u) ∧ Ftm σ u ∧ MR (shA H s m r A at_ c).1 u := by
  intro r
  induction r with
  | zero =>
    intro A at_ c fuel σ h1 h2 a o mr sm hl
    obtain ⟨f, rfl⟩ : ∃ j, fuel = j + 1 := ⟨fuel - 1, by omega⟩
    rw [f_X12_sheet_91, nI_add, if_neg (fun w => by have := (nI_ltI (by omega) (by omega)).mp w; omega)]
    exact ⟨σ, rfl, Ftm.rf σ, mr⟩
  | succ r ih =>
    intro A at_ c fuel σ h1 h2 a o mr sm hl
    have l := (o s hs).1
    obtain ⟨f, rfl⟩ : ∃ j, fuel = j + 1 := ⟨fuel - 1, by omega⟩
    have rd : ∀ j, at_ + j < 60 → rdJ σ 265 480 (nI (60 * s + (at_ + j))) = some (hv H s (at_ + j)) := fun j hj => by rw [rdJ_ok (show 60 * s + (at_ + j) < 480 by omega) (by decide), (sm s hs).2.2 _ hj]
    have r0 := rd 0 (by omega)
    rw [Nat.add_zero] at r0
    rw [f_X12_sheet_91, nI_add, if_pos ((nI_ltI (by omega) (by omega)).mpr (by omega))]
    simp only [nI_mul, nI_add, Nat.add_assoc]
    rw [r0, rd 1 (by omega), rd 2 (by omega), rd 3 (by omega), rd 4 (by omega)]
    simp only [bind_s]
    have st := t_mstep a mr (k91 := f_X12_sheet_91 f) (nI s) (nI i) (nI n) (nI m) (nI c) (nI at_) (lt H s at_) (lt H s (at_ + 1)) (lt H s (at_ + 2)) (lt H s (at_ + 3)) (lt H s (at_ + 4))
    unfold shA
    rw [show (hv H s at_).toInt32 = lt H s at_ from rfl, show (hv H s (at_ + 1)).toInt32 = lt H s (at_ + 1) from rfl, show (hv H s (at_ + 2)).toInt32 = lt H s (at_ + 2) from rfl, show (hv H s (at_ + 3)).toInt32 = lt H s (at_ + 3) from rfl, show (hv H s (at_ + 4)).toInt32 = lt H s (at_ + 4) from rfl, st]
    cases e1 : tf A (lt H s at_) (lt H s (at_ + 1)) (lt H s (at_ + 2)) (lt H s (at_ + 3)) (lt H s (at_ + 4)) with
    | false =>
      rw [if_neg (by decide), if_neg (by decide)]
      exact ⟨σ, rfl, Ftm.rf σ, mr⟩
    | true =>
      obtain ⟨a2, o2⟩ := tA_ok (H := H) a o hm e1
      obtain ⟨k, w, p, q, v, g1, g2, g3, g4, g5, pk, rr, et⟩ := tf_of a hm e1
      obtain ⟨u, e2, F, e7, m2⟩ := m_piece a mr pk (rmP_16 rr)
      rw [if_pos rfl, if_pos rfl, g5, g1, g2, g3, g4, e2, bd2_s, nI_add, nI_add]
      rw [g1, g2, g3, g4] at et a2 o2
      obtain ⟨u2, f1, f2, f3⟩ := ih _ (at_ + 5) (c + 1) f u (by omega) (by omega) a2 o2 (by rw [et]; exact m2) (SHM_tm sm ⟨F, e7⟩) hl
      exact ⟨u2, f1, (show Ftm σ u from ⟨F, e7⟩).tr f2, f3⟩
theorem dv5 {n : Nat} (h : n < 2 ^ 31) : nI n - nI n / nI 5 * nI 5 = 0 ↔ n % 5 = 0 := by
  have e : nI n - nI n / nI 5 * nI 5 = nI (n % 5) := by
    rw [pk_div h (by omega) (by omega), nI_mul, nI_sub (Nat.div_mul_le_self n 5)]
    congr 1
    omega
  rw [e]
  exact ⟨fun z => (nI_eq (b := 0) (by omega) (by omega)).mp z, fun z => by rw [z]; rfl⟩
theorem q_sheet (h : XR X σ) (x y z r : Int32) : OUT (f_X11_sheet x y z r) (f_X12_sheet x y z r) σ := by
  have a := h.1.1
  have o := h.1.2.1
  have c := h.2.1.1
  have sc := h.2.1.2.2.1
  cases g1 : inR r 6 with
  | false => exact OUT_ref h (v := -1) (j := 1) (by decide) (by decide) (by unfold f_X11_sheet f_X11_sheet_17; rw [c_isMouth, g1, bd2_s, if_pos b2f0, if_neg (show ¬ (-1 : Int32) = 0 by decide), c_refuse (j := 1) (by decide) (by decide), bd2_s]) (fun s m => by unfold f_X12_sheet; rw [t_isMouth, g1, bd2_s, if_pos b2f0, m_no (j := 1) (by decide) (by decide), bd2_s])
  | true =>
    obtain ⟨m, hm, rfl⟩ := inR_of g1 (by decide)
    cases g2 : inR x 8 with
    | false => exact OUT_ref h (v := -1) (j := 1) (by decide) (by decide) (by unfold f_X11_sheet f_X11_sheet_17; rw [c_isMouth, g1, bd2_s, if_neg b2t0, c_rowTrouble_no g2, bd2_s, if_neg (show ¬ (-1 : Int32) = 0 by decide), c_refuse (j := 1) (by decide) (by decide), bd2_s]) (fun s m => by unfold f_X12_sheet; rw [t_isMouth, g1, bd2_s, if_neg b2t0, m_noRow_no g2, bd2_s, if_pos (by decide), m_no (j := 1) (by decide) (by decide), bd2_s])
    | true =>
      obtain ⟨s, hs, rfl⟩ := inR_of g2 (by decide)
      have l := (o s hs).1
      rcases rt_or X.2.1 s with ⟨r1, r2⟩ | ⟨j, j1, j8, r1, r2, r3⟩
      · have cpre : f_X11_sheet (nI s) y z (nI m) σ = f_X11_sheet_17 (nI s) y z (nI m) (nI 0) σ := by unfold f_X11_sheet; rw [c_isMouth, g1, bd2_s, if_neg b2t0, c_rowTrouble o sc hs, bd2_s, r1]
        have mpre : ∀ u, XM X u → f_X12_sheet (nI s) y z (nI m) u = (if z < 0 then some (-4, rM 4 u) else if y < 0 then some (-5, rM 5 u) else if 0 < lg_cmp (y.toInt64 + z.toInt64) ((nI (hn X.2.1 s)).toInt64) then some (-5, rM 5 u) else if z - z / nI 5 * nI 5 = 0 then f_X12_sheet_91 FU (nI s) y z (nI m) (nI 0) y u else some (-6, rM 6 u)) := by
          intro u mu
          unfold f_X12_sheet
          rw [t_isMouth, g1, bd2_s, if_neg b2t0, m_noRow o mu.2.1 hs, bd2_s, r1, if_neg (by decide), rdI_ok hs (by decide), (mu.2.1 s hs).2.1 r2]
          simp only [bind_s, m_no (σ := u) (v := -4) (j := 4) (by decide) (by decide), m_no (σ := u) (v := -5) (j := 5) (by decide) (by decide), m_no (σ := u) (v := -6) (j := 6) (by decide) (by decide), bd2_s]
        by_cases z0 : z < 0
        · exact OUT_ref h (v := -4) (j := 4) (by decide) (by decide) (by rw [cpre]; unfold f_X11_sheet_17; rw [if_pos (show nI 0 = 0 by decide), if_pos z0, c_refuse (j := 4) (by decide) (by decide), bd2_s]) (fun u mu => by rw [mpre u mu, if_pos z0])
        · obtain ⟨n, hn', rfl⟩ := nI_of z0
          have c2 : f_X11_sheet (nI s) y (nI n) (nI m) σ = (if b2 (rcx y n (hn X.2.1 s)) = 0 then some (-5, rC 5 σ) else if nI n - nI n / nI 5 * nI 5 = 0 then f_X11_sheet_82 FU (nI s) y (nI n) (nI m) (nI 0) y σ else some (-6, rC 6 σ)) := by
            rw [cpre]
            unfold f_X11_sheet_17
            rw [if_pos (show nI 0 = 0 by decide), if_neg z0, ixR_ok hs (by decide)]
            simp only [bind_s]
            rw [t_reaches o sc hs hn', bd2_s, c_refuse (v := -5) (j := 5) (by decide) (by decide), bd2_s, c_refuse (v := -6) (j := 6) (by decide) (by decide), bd2_s]
          cases g3 : rcx y n (hn X.2.1 s) with
          | false =>
            refine OUT_ref h (v := -5) (j := 5) (by decide) (by decide) (by rw [c2, g3, if_pos b2f0]) (fun u mu => ?_)
            rw [mpre u mu, if_neg z0]
            by_cases y0 : y < 0
            · rw [if_pos y0]
            · obtain ⟨i, hi, rfl⟩ := nI_of y0
              rw [rcx_n hi] at g3
              have := of_decide_eq_false g3
              rw [if_neg y0, if_pos ((lgj hi hn' (by omega)).mpr (by omega))]
          | true =>
            obtain ⟨i, hi, rfl, hi2⟩ := rcx_of g3
            rw [g3, if_neg b2t0] at c2
            have mp2 : ∀ u, XM X u → f_X12_sheet (nI s) (nI i) (nI n) (nI m) u = (if nI n - nI n / nI 5 * nI 5 = 0 then f_X12_sheet_91 FU (nI s) (nI i) (nI n) (nI m) (nI 0) (nI i) u else some (-6, rM 6 u)) := fun u mu => by
              rw [mpre u mu, if_neg z0, if_neg (nI_pos hi), if_neg (fun w => by have := (lgj hi hn' (by omega)).mp w; omega)]
            by_cases z5 : n % 5 = 0
            · rw [if_pos ((dv5 hn').mpr z5)] at c2
              obtain ⟨s2, e, F, c3, i3, a3, o3, vb⟩ := t_csheet (H := X.2.1) hs hm (show i + n < 2 ^ 31 by omega) (n / 5) X.1 i 0 FU σ (by omega) (by rw [FU_eq]; omega) a o c h.2.1.2.1 sc hi2
              refine OUT_w (A' := (shA X.2.1 s m (n / 5) X.1 i 0).1) (ft := X.2.2.2.1) h a3 o3 (c2.trans e) ⟨fun x hx => F.1.1 x (by omega), F.1.2⟩ (by have := F.2.1; omega) (F.2.2 10 (by decide)) ((F.2.2 13 (by decide)).trans h.2.1.2.2.2.2.1) c3 i3 vb (fun m1 => ?_)
              obtain ⟨u, e2, F2, m2⟩ := t_msheet (H := X.2.1) hs hm (show i + n < 2 ^ 31 by omega) (n / 5) X.1 i 0 FU s2 (by omega) (by rw [FU_eq]; omega) a o m1.1 m1.2.1 hi2
              refine ⟨u, by rw [mp2 s2 m1, if_pos ((dv5 hn').mpr z5), e2], F2.1.mono (fun y hy => by omega), fun x hx => ⟨(F2.1.1 x (by omega)).1, (F2.1.1 x (by omega)).2.1⟩, F2.2 52 (by decide), F2.2 53 (by decide), (F2.2 21 (by decide)).trans m1.2.2.2.1, m2⟩
            · have z5' : ¬ nI n - nI n / nI 5 * nI 5 = 0 := fun w => z5 ((dv5 hn').mp w)
              exact OUT_ref h (v := -6) (j := 6) (by decide) (by decide) (by rw [c2, if_neg z5']) (fun u mu => by rw [mp2 u mu, if_neg z5'])
      · exact OUT_ref h j1 j8 (by unfold f_X11_sheet f_X11_sheet_17; rw [c_isMouth, g1, bd2_s, if_neg b2t0, c_rowTrouble o sc hs, bd2_s, if_neg r3, c_refuse r1 j8, bd2_s]) (fun u mu => by unfold f_X12_sheet; rw [t_isMouth, g1, bd2_s, if_neg b2t0, m_noRow o mu.2.1 hs, bd2_s, if_pos r2, m_no r1 j8, bd2_s])
end
