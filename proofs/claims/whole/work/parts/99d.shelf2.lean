section
/-! ===== shelves: set, copy, says ===== -/
variable {X : XS} {σ : ST} {A : AW} {H : SHV}
/-- what is put in keeps its lowest bits -/
def nar (v6 : Int32) (y : Int64) : Int64 := if (v6 - (nI 100)) = nI 0 then (((((y).toInt32)).toInt8.toInt32)).toInt64 else if (v6 - (nI 100)) = nI 1 then (((((y).toInt32)).toInt16.toInt32)).toInt64 else if (v6 - (nI 100)) = nI 2 then ((y).toInt32).toInt64 else y
theorem m_set_w {s j : Nat} {y : Int64} (hs : s < 8) (hj : j < 60) (v6 : Int32) : (if (v6 - (nI 100)) = 0 then
    ((wrJ σ 265 480 (((nI 60) * nI s) + nI j) ((((((y).toInt32)).toInt8.toInt32)).toInt64)).bind fun s10 =>
    some ((nI 1), s10))
    else (if (v6 - (nI 100)) = (nI 1) then
    ((wrJ σ 265 480 (((nI 60) * nI s) + nI j) ((((((y).toInt32)).toInt16.toInt32)).toInt64)).bind fun s9 =>
    some ((nI 1), s9))
    else (if (v6 - (nI 100)) = (nI 2) then
    ((wrJ σ 265 480 (((nI 60) * nI s) + nI j) ((((y).toInt32)).toInt64)).bind fun s8 =>
    some ((nI 1), s8))
    else ((wrJ σ 265 480 (((nI 60) * nI s) + nI j) y).bind fun s7 =>
    some ((nI 1), s7))))) = some (nI 1, setJ σ 265 (60 * s + j) (nar v6 y)) := by
  have e : ∀ w : Int64, wrJ σ 265 480 (((nI 60) * nI s) + nI j) w = some (setJ σ 265 (60 * s + j) w) := fun w => by rw [nI_mul, nI_add, wrJ_ok (show 60 * s + j < 480 by omega) (by decide)]
  simp only [e, bind_s]
  unfold nar
  by_cases w0 : v6 - nI 100 = nI 0
  · rw [if_pos (show v6 - nI 100 = 0 from w0), if_pos w0]
  · rw [if_neg (show ¬ v6 - nI 100 = 0 from w0), if_neg w0]
    by_cases w1 : v6 - nI 100 = nI 1
    · rw [if_pos w1, if_pos w1]
    · rw [if_neg w1, if_neg w1]
      by_cases w2 : v6 - nI 100 = nI 2
      · rw [if_pos w2, if_pos w2]
      · rw [if_neg w2, if_neg w2]
theorem t_put (o : HOK A H) (c : SHC H σ) {s j : Nat} (hs : s < 8) (hj : j < hn H s) (y : Int64) : f_X7_put (231 + 2 * s) (nI j) y σ = some (setJ σ (231 + 2 * s + 1) j (nar (hI (hq H s)) y)) := by
  have l := (o s hs).1
  have e : f_X7_narrowed (231 + 2 * s) y σ = some (nar (hI (hq H s)) y, σ) := by
    unfold f_X7_narrowed nar
    rw [(c s hs).1]
    by_cases w0 : hI (hq H s) - nI 100 = nI 0
    · rw [if_pos w0, if_pos w0]
    · rw [if_neg w0, if_neg w0]
      by_cases w1 : hI (hq H s) - nI 100 = nI 1
      · rw [if_pos w1, if_pos w1]
      · rw [if_neg w1, if_neg w1]
        by_cases w2 : hI (hq H s) - nI 100 = nI 2
        · rw [if_pos w2, if_pos w2]
        · rw [if_neg w2, if_neg w2]
  unfold f_X7_put
  rw [t_has c hs, guardT hj (by omega), bd2_s, if_neg b2t0, e, bd2_s, wrJ_ok (show j < 60 by omega) (by decide)]
  simp only [bind_s]
theorem q_set (h : XR X σ) (x y : Int32) (z : Int64) : OUT (f_X11_set x y z) (f_X12_set x y z) σ := by
  have o := h.1.2.1
  have c := h.2.1.2.2.1
  cases g1 : inR x 8 with
  | false => exact OUT_ref h (j := 1) (by decide) (by decide) (by unfold f_X11_set; rw [c_rowTrouble_no g1, bd2_s, if_neg (by decide), c_refuse (j := 1) (by decide) (by decide), bd2_s]) (fun s m => by unfold f_X12_set; rw [m_noRow_no g1, bd2_s, if_pos (by decide), m_no (j := 1) (by decide) (by decide), bd2_s])
  | true =>
    obtain ⟨s, hs, rfl⟩ := inR_of g1 (by decide)
    have l := (o s hs).1
    rcases rt_or X.2.1 s with ⟨r1, r2⟩ | ⟨j, j1, j8, r1, r2, r3⟩
    · cases g2 : inR y (hn X.2.1 s) with
      | false =>
        refine OUT_ref h (v := -5) (j := 5) (by decide) (by decide) ?_ (fun u m => ?_)
        · unfold f_X11_set
          rw [c_rowTrouble o c hs, bd2_s, r1, if_pos (by decide), ixR_ok hs (by decide)]
          simp only [bind_s]
          rw [t_has c hs, g2, bd2_s, if_pos b2f0, c_refuse (j := 5) (by decide) (by decide), bd2_s]
        · unfold f_X12_set
          rw [m_noRow o m.2.1 hs, bd2_s, r1, if_neg (by decide)]
          by_cases y0 : y < 0
          · rw [if_pos y0, m_no (j := 5) (by decide) (by decide), bd2_s]
          · rw [if_neg y0, rdI_ok hs (by decide)]
            simp only [bind_s]
            rw [(m.2.1 s hs).2.1 r2]
            by_cases yl : y < nI (hn X.2.1 s)
            · rw [inR_t y0 (Int32.not_le.mpr yl)] at g2; cases g2
            · rw [if_neg yl, m_no (j := 5) (by decide) (by decide), bd2_s]
      | true =>
        obtain ⟨j, hj, rfl⟩ := inR_of g2 (by omega)
        have F : Fr (fun y => y = 231 + 2 * s ∨ y = 231 + 2 * s + 1) σ (setJ σ (231 + 2 * s + 1) j (nar (hI (hq X.2.1 s)) z)) := Fr_setJ (Or.inr rfl)
        refine OUT_sh (H := hSet X.2.1 s (hq X.2.1 s) (hn X.2.1 s) (fun i => if i = j then nar (hI (hq X.2.1 s)) z else hv X.2.1 s i)) (s := setJ σ (231 + 2 * s + 1) j (nar (hI (hq X.2.1 s)) z)) (v := nI 1) h (HOK_set o l (o s hs).2.1 (o s hs).2.2) ?_ (F.mono (fun y hy => by omega)) (SHC_set c hs F (by rw [I_setJ]; exact (c s hs).1) (by rw [I_setJ]; exact (c s hs).2.1) (fun i hi => ?_)) (fun m1 => ?_)
        · unfold f_X11_set
          rw [c_rowTrouble o c hs, bd2_s, r1, if_pos (by decide), ixR_ok hs (by decide)]
          simp only [bind_s]
          rw [t_has c hs, g2, bd2_s, if_neg b2t0, t_put o c hs hj]
          simp only [bind_s]
        · show _ = if i = j then _ else _
          by_cases e : i = j
          · subst e; rw [J_at, if_pos rfl]
          · rw [J_ne (Or.inr e), if_neg e]; exact (c s hs).2.2 i hi
        · have m := m1.2.1
          generalize setJ σ (231 + 2 * s + 1) j (nar (hI (hq X.2.1 s)) z) = w at *
          refine ⟨setJ w 265 (60 * s + j) (nar (hI (hq X.2.1 s)) z), ?_, Fr_setJ (by omega), SHM_set m hs (fun i _ => by rw [I_setJ]) (fun i _ => by rw [I_setJ]) (fun i hi => J_ne (Or.inr (by omega))) (by rw [I_setJ]; exact (m s hs).1) (fun q => by rw [I_setJ]; exact (m s hs).2.1 q) (fun i hi => ?_)⟩
          · unfold f_X12_set
            rw [m_noRow o m hs, bd2_s, r1, if_neg (by decide), if_neg (nI_pos (by omega)), rdI_ok hs (by decide)]
            simp only [bind_s]
            rw [(m s hs).2.1 r2, if_pos ((nI_ltI (by omega) (by omega)).mpr hj), rdI_ok hs (by decide)]
            simp only [bind_s]
            rw [(m s hs).1]
            exact m_set_w hs (by omega) (hI (hq X.2.1 s))
          · show _ = if i = j then _ else _
            by_cases e : i = j
            · subst e; rw [J_at, if_pos rfl]
            · rw [J_ne (Or.inr (by omega)), if_neg e]; exact (m s hs).2.2 i hi
    · exact OUT_ref h j1 j8 (by unfold f_X11_set; rw [c_rowTrouble o c hs, bd2_s, if_neg r3, c_refuse r1 j8, bd2_s]) (fun u m => by unfold f_X12_set; rw [m_noRow o m.2.1 hs, bd2_s, if_pos r2, m_no r1 j8, bd2_s])
/-! says -/
theorem t_isOf_c {q k kind : Nat} (p : PO σ q k A) (hk : pk A k ≤ 3) (hkind : kind ≤ 3) : f_X11_isOf q (nI kind) σ = some (b2 (decide (kind = 0 ∨ pk A k = kind ∨ (kind = 1 ∧ pk A k = 3))), σ) := by
  unfold f_X11_isOf
  rw [PO_chk p]
  simp only [bind_s]
  have hc : clsP (pk A k) = [6, 8, 9, 4].getD (pk A k) 6 := by
    rcases (show pk A k = 0 ∨ pk A k = 1 ∨ pk A k = 2 ∨ pk A k = 3 by omega) with e | e | e | e <;> rw [e] <;> rfl
  rw [hc]
  rcases (show kind = 0 ∨ kind = 1 ∨ kind = 2 ∨ kind = 3 by omega) with rfl | rfl | rfl | rfl <;> rcases (show pk A k = 0 ∨ pk A k = 1 ∨ pk A k = 2 ∨ pk A k = 3 by omega) with e | e | e | e <;> rw [e] <;> rfl
def sayV (A : AW) (kind k : Nat) : Nat := if kind = 0 then pm A k else if kind = 2 then pv A k else pq A k
theorem q_says (h : XR X σ) (x y : Int32) : OUT (f_X11_says x y) (f_X12_says x y) σ := by
  have a := h.1.1
  have o := h.1.2.1
  have c := h.2.1.2.2.1
  have hP := a.1.2.2
  cases g1 : inR x 8 with
  | false => exact OUT_ref h (j := 1) (by decide) (by decide) (by unfold f_X11_says; rw [c_isShelf, g1, bd2_s, if_pos b2f0, c_refuse (j := 1) (by decide) (by decide), bd2_s]) (fun s m => by unfold f_X12_says; rw [m_isShelf, g1, bd2_s, if_pos b2f0, m_no (j := 1) (by decide) (by decide), bd2_s])
  | true =>
    obtain ⟨s, hs, rfl⟩ := inR_of g1 (by decide)
    have ck : f_X11_isKind y σ = some (b2 (inR y 4), σ) := by unfold f_X11_isKind; rw [in_g, b2_g]
    cases g2 : inR y 4 with
    | false =>
      refine OUT_ref h (v := -1) (j := 1) (by decide) (by decide) (by unfold f_X11_says; rw [c_isShelf, g1, bd2_s, if_neg b2t0, ck, g2, bd2_s, if_pos b2f0, c_refuse (j := 1) (by decide) (by decide), bd2_s]) (fun u m => ?_)
      unfold f_X12_says
      rw [m_isShelf, g1, bd2_s, if_neg b2t0]
      by_cases y0 : y < 0
      · rw [if_pos y0, m_no (j := 1) (by decide) (by decide), bd2_s]
      · rw [if_neg y0]
        by_cases y3 : nI 3 < y
        · rw [if_pos y3, m_no (j := 1) (by decide) (by decide), bd2_s]
        · obtain ⟨k, hk, rfl⟩ := lt4 y0 y3
          rw [guardT (show k < 4 by omega) (by decide)] at g2
          cases g2
    | true =>
      obtain ⟨kind, hkd, rfl⟩ := inR_of g2 (by decide)
      have y0 : ¬ nI kind < 0 := nI_pos (by omega)
      have y3 : ¬ nI 3 < nI kind := fun w => by have := (nI_ltI (by omega) (by omega)).mp w; omega
      by_cases w : 101 ≤ hq X.2.1 s
      · refine OUT_ref h (v := -2) (j := 2) (by decide) (by decide) ?_ (fun u m => ?_)
        · unfold f_X11_says
          rw [c_isShelf, g1, bd2_s, if_neg b2t0, ck, g2, bd2_s, if_neg b2t0, ixR_ok hs (by decide)]
          simp only [bind_s]
          rw [c_holdsRow o c hs, bd2_s, decide_eq_true w, if_neg b2t0, c_refuse (j := 2) (by decide) (by decide), bd2_s]
        · unfold f_X12_says
          rw [m_isShelf, g1, bd2_s, if_neg b2t0, if_neg y0, if_neg y3, m_isRow o m.2.1 hs, bd2_s, decide_eq_true w, if_neg b2t0, m_no (j := 2) (by decide) (by decide), bd2_s]
      · have l := (o s hs).2.2 (by omega)
        by_cases w0 : hq X.2.1 s = 0
        · have g3 : inR (hI (hq X.2.1 s)) (nP X.1) = false := by rw [w0]; exact inR_f1 (by decide)
          refine OUT_ref h (v := -3) (j := 3) (by decide) (by decide) ?_ (fun u m => ?_)
          · unfold f_X11_says
            rw [c_isShelf, g1, bd2_s, if_neg b2t0, ck, g2, bd2_s, if_neg b2t0, ixR_ok hs (by decide)]
            simp only [bind_s]
            rw [c_holdsRow o c hs, bd2_s, decide_eq_false w, if_pos b2f0]
            rw [(c s hs).1, t_pieceAt_no h.2.1.1 g3, bd2_s, nl_n, c_refuse (j := 3) (by decide) (by decide), bd2_s]
          · unfold f_X12_says
            rw [m_isShelf, g1, bd2_s, if_neg b2t0, if_neg y0, if_neg y3, m_isRow o m.2.1 hs, bd2_s, decide_eq_false w, if_pos b2f0, rdI_ok hs (by decide)]
            simp only [bind_s]
            rw [(m.2.1 s hs).1, w0, if_pos (by decide), m_no (j := 3) (by decide) (by decide), bd2_s]
        · obtain ⟨k, hk⟩ : ∃ k, hq X.2.1 s = k + 1 := ⟨hq X.2.1 s - 1, by omega⟩
          have hkP : k < nP X.1 := by omega
          obtain ⟨k3, -, q12, v7, m6, -⟩ := a.2.2.2.2.1 k hkP
          obtain ⟨q, eq, p, -⟩ := t_pieceAt a h.2.1.1 hkP
          -- the reference's row behind its tests
          have mrow : ∀ u, XM X u → f_X12_says_97 (nI kind) (nI k) u = some (nI (sayV X.1 kind k), u) := by
            intro u m
            obtain ⟨-, -, -, m3, m4, m5, -⟩ := m.1.2.2.2.1 k hkP
            unfold f_X12_says_97 sayV
            by_cases z0 : kind = 0
            · rw [if_pos (show nI kind = 0 by rw [z0]; rfl), rdI_ok (show k < 16 by omega) (by decide), m5, if_pos z0]
              simp only [bind_s]
            · rw [if_neg (nI_n0 z0 (by omega)), if_neg z0]
              by_cases z2 : kind = 2
              · rw [if_pos (congrArg nI z2), rdI_ok (show k < 16 by omega) (by decide), m4, if_pos z2]
                simp only [bind_s]
              · rw [if_neg (fun z => z2 ((nI_eq (by omega) (by omega)).mp z)), rdI_ok (show k < 16 by omega) (by decide), m3, if_neg z2]
                simp only [bind_s]
          have mkind : ∀ u, XM X u → u.1 255 k = nI (pk X.1 k) := fun u m => (m.1.2.2.2.1 k hkP).1
          have mpre : ∀ u, XM X u → f_X12_says (nI s) (nI kind) u = (if nI kind = 0 then f_X12_says_97 (nI kind) (nI k) u else if nI kind = nI (pk X.1 k) then f_X12_says_97 (nI kind) (nI k) u else if nI kind = nI 1 then (if nI (pk X.1 k) = nI 3 then f_X12_says_97 (nI kind) (nI k) u else some (-2, rM 2 u)) else some (-2, rM 2 u)) := by
            intro u m
            have r16 : rdI u 255 16 (nI k) = some (nI (pk X.1 k)) := by rw [rdI_ok (show k < 16 by omega) (by decide), mkind u m]
            unfold f_X12_says
            rw [m_isShelf, g1, bd2_s, if_neg b2t0, if_neg y0, if_neg y3, m_isRow o m.2.1 hs, bd2_s, decide_eq_false w, if_pos b2f0, rdI_ok hs (by decide)]
            simp only [bind_s]
            rw [(m.2.1 s hs).1, hk, hI_z, if_neg (nI_pos (by omega))]
            simp only [r16, bind_s, m_no (σ := u) (v := -2) (j := 2) (by decide) (by decide), bd2_s]
          have cpre : f_X11_says (nI s) (nI kind) σ = (if b2 (decide (kind = 0 ∨ pk X.1 k = kind ∨ (kind = 1 ∧ pk X.1 k = 3))) = 0 then some (-2, rC 2 σ) else some (nI (sayV X.1 kind k), σ)) := by
            unfold f_X11_says
            rw [c_isShelf, g1, bd2_s, if_neg b2t0, ck, g2, bd2_s, if_neg b2t0, ixR_ok hs (by decide)]
            simp only [bind_s]
            rw [c_holdsRow o c hs, bd2_s, decide_eq_false w, if_pos b2f0]
            rw [(c s hs).1, hk, hI_z, eq, bd2_s, nl_s, t_isOf_c p k3 (show kind ≤ 3 by omega), bd2_s, c_refuse (v := -2) (j := 2) (by decide) (by decide), bd2_s, PO_rd p, PO_rd p, PO_rd p]
            simp only [bind_s]
            rw [p.2.2.2.2.2.2.2, p.2.2.2.2.2.2.1, p.2.2.2.2.2.1]
            unfold sayV
            by_cases z0 : kind = 0
            · rw [if_pos z0, if_pos (show nI kind = 0 by rw [z0]; rfl)]
            · rw [if_neg z0, if_neg (show ¬ nI kind = 0 from fun z => z0 ((nI_eq (b := 0) (by omega) (by omega)).mp z))]
              by_cases z2 : kind = 2
              · rw [if_pos z2, if_pos (congrArg nI z2)]
              · rw [if_neg z2, if_neg (fun z => z2 ((nI_eq (by omega) (by omega)).mp z))]
          by_cases ok : kind = 0 ∨ pk X.1 k = kind ∨ (kind = 1 ∧ pk X.1 k = 3)
          · refine OUT_same h (v := nI (sayV X.1 kind k)) (by rw [cpre, decide_eq_true ok, if_neg b2t0]) ?_
            rw [mpre σ h.2.2, mrow σ h.2.2]
            by_cases z0 : kind = 0
            · rw [if_pos (show nI kind = 0 by rw [z0]; rfl)]
            · rw [if_neg (nI_n0 z0 (by omega))]
              by_cases z1 : pk X.1 k = kind
              · rw [if_pos (congrArg nI z1.symm)]
              · rw [if_neg (fun z => z1 ((nI_eq (by omega) (by omega)).mp z.symm))]
                have : kind = 1 ∧ pk X.1 k = 3 := by omega
                rw [if_pos (congrArg nI this.1), if_pos (congrArg nI this.2)]
          · refine OUT_ref h (v := -2) (j := 2) (by decide) (by decide) (by rw [cpre, decide_eq_false ok, if_pos b2f0]) (fun u m => ?_)
            rw [mpre u m, if_neg (fun z => by have := (nI_eq (b := 0) (by omega) (by omega)).mp z; omega), if_neg (fun z => by have := (nI_eq (by omega) (by omega)).mp z; omega)]
            by_cases z1 : nI kind = nI 1
            · have := (nI_eq (by omega) (by omega)).mp z1
              rw [if_pos z1, if_neg (fun z => by have := (nI_eq (by omega) (by omega)).mp z; omega)]
            · rw [if_neg z1]
end
