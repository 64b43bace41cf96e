section
/-! ===== the class's calls: plan ===== -/
variable {A : AW} {σ : ST}
theorem AL_tb (k : Nat) : (AL A).testBit k = (decide (k < nP A) && decide (pb A k = 0)) := msk_tb _ _ _
theorem t_isPutBy (a : AOK A) (c : CR 2 A σ) {k : Nat} (hk : k < nP A) : f_X10_isPutBy (nI k) σ = some (nI (pb A k), σ) := by
  have hP := a.1.2.2
  have hb := (a.2.2.2.2.1 k hk).2.2.2.2.2.1
  have hl := msk_lt (fun k => decide (pb A k = 1)) (nP A)
  have hl2 : 2 ^ nP A ≤ 2 ^ 16 := Nat.pow_le_pow_right (by decide) hP
  have ht := msk_tb (fun k => decide (pb A k = 1)) k (nP A)
  have bq := bit_q (msk (fun k => decide (pb A k = 1)) (nP A)) (show k < 31 by omega) (by omega)
  unfold f_X10_isPutBy
  rw [c.1.2.2.2]
  rw [decide_eq_true hk] at ht
  rcases (show pb A k = 0 ∨ pb A k = 1 by omega) with e | e
  · rw [if_pos (bq.mpr (by rw [ht, e]; rfl)), e]
  · rw [if_neg (fun q => by have := bq.mp q; rw [ht, e] at this; cases this), e]
theorem t_isSeenIn (a : AOK A) (c : CR 2 A σ) {h : Nat} (hh : h < 12) : f_X10_isSeenIn (nI h) σ = some (b2 (sN A (AL A) (nP A) h), σ) := by
  have hP := a.1.2.2
  unfold f_X10_isSeenIn
  refine loopD (fun n i => f_X10_isSeenIn_2 n (nI h) (nI i) σ) (nP A) (fun i => sN A (AL A) i h = false) _ ?_ ?_ FU 0 (by rw [FU_eq]; omega) (Nat.zero_le _) rfl
  · intro n i hi hI
    obtain ⟨q, h1, p⟩ := c.2.2.2.2.1 i hi
    obtain ⟨k3, k1, k2, -, -, k6, -⟩ := a.2.2.2.2.1 i hi
    have ht : (AL A).testBit i = decide (pb A i = 0) := by rw [AL_tb, decide_eq_true hi]; rfl
    have hs : sN A (AL A) (i + 1) h = decide (pb A i = 0 ∧ pk A i = 0 ∧ pp A i = h) := by
      show (sN A (AL A) i h || decide ((AL A).testBit i = true ∧ pk A i = 0 ∧ pp A i = h)) = _
      rw [hI, Bool.false_or]
      exact decide_eq_decide.mpr (by rw [ht, decide_eq_true_eq])
    show (f_X10_isSeenIn_2 (n + 1) (nI h) (nI i) σ = f_X10_isSeenIn_2 n (nI h) (nI (i + 1)) σ ∧ sN A (AL A) (i + 1) h = false) ∨ f_X10_isSeenIn_2 (n + 1) (nI h) (nI i) σ = _
    rw [f_X10_isSeenIn_2, c.1.2.2.1, if_pos ((nI_ltI (by omega) (by omega)).mpr hi), rdT_ok (show i < 16 by omega) (by decide), h1]
    simp only [bind_s]
    rw [nl_s, PO_rd p, nI_add]
    simp only [bind_s]
    rw [p.2.2.1]
    by_cases c1 : pk A i = 0
    · rw [if_pos (show nI (pk A i) = 0 by rw [c1]; rfl), PO_rd p]
      simp only [bind_s]
      rw [p.2.2.2.2.1]
      by_cases c2 : pp A i = h
      · rw [if_pos (congrArg nI c2), t_isPutBy a c hi, bd2_s]
        by_cases c3 : pb A i = 0
        · right
          rw [if_pos (show nI (pb A i) = 0 by rw [c3]; rfl)]
          have : sN A (AL A) (nP A) h = true := by
            have g : sN A (AL A) (i + 1) h = true := by rw [hs]; exact decide_eq_true ⟨c3, c1, c2⟩
            have mono : ∀ m, i + 1 ≤ m → sN A (AL A) m h = true := by
              intro m
              induction m with
              | zero => intro q; omega
              | succ m ih =>
                intro q
                by_cases z : i + 1 = m + 1
                · rw [← z]; exact g
                · rw [sN, ih (by omega)]; rfl
            exact mono _ (by omega)
          rw [this]; rfl
        · left
          rw [if_neg (nI_n0 c3 (by omega))]
          exact ⟨rfl, by rw [hs]; exact decide_eq_false (fun q => c3 q.1)⟩
      · left
        rw [if_neg (fun q => c2 ((nI_eq (by omega) (by omega)).mp q))]
        exact ⟨rfl, by rw [hs]; exact decide_eq_false (fun q => c2 q.2.2)⟩
    · left
      rw [if_neg (nI_n0 c1 (by omega))]
      exact ⟨rfl, by rw [hs]; exact decide_eq_false (fun q => c1 q.2.1)⟩
  · intro n hI
    show f_X10_isSeenIn_2 (n + 1) (nI h) (nI (nP A)) σ = _
    rw [f_X10_isSeenIn_2, c.1.2.2.1, if_neg (fun w => Nat.lt_irrefl _ ((nI_ltI (by omega) (by omega)).mp w)), hI]
    rfl
theorem t_surelyH (a : AOK A) (n : NW A σ) (w : LE A (AL A) X0 < 100000000) {b h : Nat} (hb : b < nH A) (hh : h < 12) : ∃ B, f_X2_surely 197 (nI (10 + b)) (nI h) σ = some (b2 B, σ) ∧ (B = true ↔ ¬ EP A (AL A) X0 h 1024 [] (fun _ f s => hc A b (so A f (s % 32) (s / 32 % 8)) (s / 32 % 8) = false)) := by
  have hH := a.1.2.1
  obtain ⟨-, -, -, -, nt, -⟩ := n.1 w
  obtain ⟨⟨m4, n1, n2, n3⟩, -⟩ := nt h (by omega) hh
  have ex := EP_ex (h := h) a w hh
  have l4 : m4 < 2 ^ 17 := n3 ((eO_EP a (R := fun _ _ _ => True) (fun _ _ _ _ => Iff.rfl)).mpr ex)
  have b4 := n2 (10 + b) (by omega)
  rw [c_may a hb] at b4
  refine ⟨m4.testBit (10 + b), ?_, b4⟩
  unfold f_X2_surely
  rw [rdI_ok (show h < 12 from hh) (by decide), n1]
  simp only [bind_s]
  cases c4 : m4.testBit (10 + b) with
  | true =>
    rw [if_neg (fun q => by have := (bit_q m4 (show 10 + b < 31 by omega) (by omega)).mp q; rw [c4] at this; cases this)]
    rfl
  | false =>
    rw [if_pos ((bit_q m4 (by omega) (by omega)).mpr c4)]
    rfl
theorem sX0 {S h : Nat} (hh : h < 12) : sX A S X0 h = sN A S (nP A) h := by
  unfold sX
  rw [decide_eq_false (show ¬ h = X0.1 from fun q => by have : h = 99 := q; omega), Bool.or_false]
theorem t_wouldBring (a : AOK A) (c : CR 2 A σ) (tb : TB A σ) (n : NW A σ) (w : LE A (AL A) X0 < 100000000) {b i t q : Nat} (hb : b < nH A) (hi : i < 12) (ht : t < 10) (hq : q < 12) : ∃ u B, f_X11_wouldBring (nI b) (nI i) (nI t) (nI q) σ = some (b2 B, u) ∧ Ft σ u ∧ (B = true ↔ plG A t q i b) := by
  have hH := a.1.2.1
  unfold f_X11_wouldBring
  rw [t_isSeenIn a c hi, bd2_s]
  have e0 := sX0 (A := A) (S := AL A) hi
  cases c1 : sN A (AL A) (nP A) i with
  | true =>
    rw [if_neg b2t0]
    exact ⟨σ, false, rfl, Ft.rf _, fun z => (by cases z), fun z => (by have := z.1.1; rw [e0, c1] at this; cases this)⟩
  | false =>
    rw [if_pos b2f0, nI_add]
    obtain ⟨B, e1, hB⟩ := t_surelyH a n w hb hi
    rw [e1, bd2_s]
    cases B with
    | false =>
      rw [if_pos b2f0]
      exact ⟨σ, false, rfl, Ft.rf _, fun z => (by cases z), fun z => (by have := hB.mpr z.1.2; cases this)⟩
    | true =>
      rw [if_neg b2t0, t_inForce a c, bd2_s]
      obtain ⟨u, e2, F, fn⟩ := t_findX (x := (i, b)) a (Or.inr rfl) c tb (AL_lt a) (show i < 12 from hi) hb
      have e2 : f_X2_find 213 (nI (AL A)) (nI b) (nI i) σ = some (b2 (decide (LE A (AL A) (i, b) < 100000000)), u) := e2
      have F : Ft σ u := Fr.mono F (fun y hy => by omega)
      have pm : pmB A (AL A) i b := ⟨by rw [e0, c1], hB.mp rfl⟩
      rw [e2, bd2_s]
      by_cases z : LE A (AL A) (i, b) < 100000000
      · obtain ⟨u2, e3, F2, kp⟩ := t_keepBest (first := q) a (Or.inr rfl) (by omega) (CR_ft a c F) (TB_ft tb F) fn z
        have h2 := isv_le (A := A) (AL A) (i, b) q t
        rw [decide_eq_true z, if_neg b2t0, e3]
        simp only [bind_s]
        rw [t_soOf a kp (Nat.le_refl _) z hq ht, bd2_s]
        have F3 : Ft σ u2 := F.tr (Fr.mono F2 (fun y hy => by omega))
        by_cases d : isv A (AL A) (i, b) q t = 1
        · rw [if_pos (congrArg nI d)]
          exact ⟨u2, true, rfl, F3, fun _ => ⟨pm, z, d⟩, fun _ => rfl⟩
        · rw [if_neg (fun v => d ((nI_eq (by omega) (by omega)).mp v))]
          exact ⟨u2, false, rfl, F3, fun v => (by cases v), fun v => absurd v.2.2 d⟩
      · rw [decide_eq_false z, if_pos b2f0]
        exact ⟨u, false, rfl, F, fun v => (by cases v), fun v => absurd v.2.1 z⟩
theorem t_cplan41 (a : AOK A) (c : CR 2 A σ) (tb : TB A σ) (n : NW A σ) (w : LE A (AL A) X0 < 100000000) {t h i : Nat} (ht : t < 10) (hi : i < 12) (hh : h < 12) {k : Int32 → Int32 → Int32 → ST → Option (Int32 × ST)} : (∃ u, f_X11_plan_41 k FU (nI t) (nI h) (nI i) (nI 0) σ = k (nI t) (nI h) (nI i) u ∧ Ft σ u ∧ ∀ act, act < nH A → ¬ plG A t h i act) ∨ ∃ act u, act < nH A ∧ plG A t h i act ∧ (∀ b, b < act → ¬ plG A t h i b) ∧ f_X11_plan_41 k FU (nI t) (nI h) (nI i) (nI 0) σ = some (nI (10 * i + act), u) ∧ Ft σ u := by
  have hH := a.1.2.1
  refine loopX (fun n act u => f_X11_plan_41 k n (nI t) (nI h) (nI i) (nI act) u) (nH A) (fun act u => Ft σ u ∧ ∀ b, b < act → ¬ plG A t h i b) (fun r => (∃ u, r = k (nI t) (nI h) (nI i) u ∧ Ft σ u ∧ ∀ act, act < nH A → ¬ plG A t h i act) ∨ ∃ act u, act < nH A ∧ plG A t h i act ∧ (∀ b, b < act → ¬ plG A t h i b) ∧ r = some (nI (10 * i + act), u) ∧ Ft σ u) ?_ ?_ FU 0 σ (by rw [FU_eq]; omega) (Nat.zero_le _) ⟨Ft.rf _, fun b hb => by omega⟩
  · rintro m act u hact ⟨F, hm⟩
    have cu := CR_ft a c F
    obtain ⟨u1, B, e1, F1, hB⟩ := t_wouldBring a cu (TB_ft tb F) (NW_ft n F) w hact hi ht hh
    show (∃ y, f_X11_plan_41 k (m + 1) (nI t) (nI h) (nI i) (nI act) u = f_X11_plan_41 k m (nI t) (nI h) (nI i) (nI (act + 1)) y ∧ _) ∨ _
    rw [f_X11_plan_41, cu.1.2.1, if_pos ((nI_ltI (by omega) (by omega)).mpr hact), e1, bd2_s]
    cases B with
    | false =>
      rw [if_pos b2f0, nI_add]
      refine Or.inl ⟨u1, rfl, F.tr F1, fun b hb => ?_⟩
      by_cases z : b = act
      · rw [z]; exact fun v => by have := hB.mpr v; cases this
      · exact hm b (by omega)
    | true =>
      rw [if_neg b2t0, nI_mul, nI_add]
      exact Or.inr (Or.inr ⟨act, u1, hact, hB.mp rfl, hm, rfl, F.tr F1⟩)
  · rintro m u ⟨F, hm⟩
    left
    refine ⟨u, ?_, F, hm⟩
    show f_X11_plan_41 k (m + 1) _ _ _ (nI (nH A)) u = _
    rw [f_X11_plan_41, (CR_ft a c F).1.2.1, if_neg (fun w => Nat.lt_irrefl _ ((nI_ltI (by omega) (by omega)).mp w))]
theorem t_cplan32 (a : AOK A) (c : CR 2 A σ) (tb : TB A σ) (n : NW A σ) (w : LE A (AL A) X0 < 100000000) {t g h : Nat} (ht : t < 10) (hg : g ≤ h) (hh : h < 12) : ∃ u r, f_X11_plan_32 FU (nI t) (nI h) (nI g) σ = some (r, u) ∧ Ft σ u ∧ plA A t g h r := by
  refine loopX (fun n i u => f_X11_plan_32 n (nI t) (nI h) (nI i) u) h (fun i u => Ft σ u ∧ g ≤ i ∧ ∀ j b, g ≤ j → j < i → b < nH A → ¬ plG A t h j b) (fun o => ∃ u r, o = some (r, u) ∧ Ft σ u ∧ plA A t g h r) ?_ ?_ FU g σ (by rw [FU_eq]; omega) hg ⟨Ft.rf _, Nat.le_refl _, fun j b h1 h2 => by omega⟩
  · rintro m i u hi ⟨F, hgi, hm⟩
    show (∃ y, f_X11_plan_32 (m + 1) (nI t) (nI h) (nI i) u = f_X11_plan_32 m (nI t) (nI h) (nI (i + 1)) y ∧ _) ∨ _
    rw [f_X11_plan_32, if_pos ((nI_ltI (by omega) (by omega)).mpr hi)]
    rcases t_cplan41 a (CR_ft a c F) (TB_ft tb F) (NW_ft n F) w ht (show i < 12 by omega) hh (k := fun x1_8 x3_9 x4_10 s11 => (f_X11_plan_32 m) x1_8 x3_9 (x4_10 + nI 1) s11) with ⟨u1, e1, F1, n1⟩ | ⟨act, u1, h1, h2, h3, e1, F1⟩
    · left
      rw [e1, nI_add]
      refine ⟨u1, rfl, F.tr F1, by omega, fun j b q1 q2 q3 => ?_⟩
      by_cases z : j = i
      · rw [z]; exact n1 b q3
      · exact hm j b q1 (by omega) q3
    · right
      rw [e1]
      exact ⟨u1, _, rfl, F.tr F1, Or.inr ⟨i, act, hgi, hi, h1, h2, rfl, h3, hm⟩⟩
  · rintro m u ⟨F, -, hm⟩
    show ∃ u' r, f_X11_plan_32 (m + 1) (nI t) (nI h) (nI h) u = some (r, u') ∧ _
    rw [f_X11_plan_32, if_neg (fun w => Nat.lt_irrefl _ ((nI_ltI (by omega) (by omega)).mp w))]
    exact ⟨u, -1, rfl, F, Or.inl ⟨rfl, fun i act h1 h2 h3 => hm i act h1 h2 h3⟩⟩
theorem c_plan (a : AOK A) (c : CR 2 A σ) (i : CI A σ) {t g h : Nat} (ht : t < nT A) (hg : g ≤ h) (hh : h < 12) (hin : inHH (nI g) (nI h) = true) : ∃ u r, f_X11_plan (nI t) (nI g) (nI h) σ = some (r, u) ∧ Fxd σ u ∧ CI A u ∧ (LE A (AL A) X0 < 100000000 → plA A t g h r) ∧ (¬ LE A (AL A) X0 < 100000000 → r = -1) := by
  have hT := nT10 a
  obtain ⟨u, e, F, h11, h12, tb, n⟩ := t_current a c i
  have cu := CR_fc a c F
  unfold f_X11_plan
  rw [c_isThing c, guardT ht (by omega), bd2_s, if_neg b2t0, c_areHours, hin, bd2_s, if_neg b2t0, e]
  simp only [bind_s]
  by_cases w : LE A (AL A) X0 < 100000000
  · rw [NW_12 n, if_pos w, if_neg (LE_ne w)]
    obtain ⟨u1, r, e1, F1, p⟩ := t_cplan32 a cu tb n w (show t < 10 by omega) hg hh
    exact ⟨u1, r, e1, (Fxd_c F).tr (Fxd_t F1), CI_ft (CI_of h11 tb n) F1, fun _ => p, fun z => absurd w z⟩
  · rw [NW_12 n, if_neg w, if_pos rfl]
    exact ⟨u, -1, rfl, Fxd_c F, CI_of h11 tb n, fun z => absurd z w, fun _ => rfl⟩
theorem plA_un {t g h : Nat} {r r' : Int32} (p : plA A t g h r) (q : plA A t g h r') : r = r' := by
  rcases p with ⟨p1, p2⟩ | ⟨i, b, p1, p2, p3, p4, p5, p6, p7⟩ <;> rcases q with ⟨q1, q2⟩ | ⟨j, d, q1, q2, q3, q4, q5, q6, q7⟩
  · rw [p1, q1]
  · exact absurd q4 (p2 j d q1 q2 q3)
  · exact absurd p4 (q2 i b p1 p2 p3)
  · have e : i = j := by
      rcases Nat.lt_trichotomy i j with z | z | z
      · exact absurd p4 (q7 i b p1 z p3)
      · exact z
      · exact absurd q4 (p7 j d q1 z q3)
    subst e
    have e : b = d := by
      rcases Nat.lt_trichotomy b d with z | z | z
      · exact absurd p4 (q6 b z)
      · exact z
      · exact absurd q4 (p6 d z)
    rw [p5, q5, e]
theorem plA_eq {t g : Nat} {r : Int32} (p : plA A t g g r) : r = -1 := by
  rcases p with ⟨p1, -⟩ | ⟨i, b, p1, p2, -⟩
  · exact p1
  · omega
theorem c_plan_no (c : CR 2 A σ) {x y z : Int32} (h : (inR x (nT A) && inHH y z) = false) : f_X11_plan x y z σ = some (-1, σ) := by
  unfold f_X11_plan
  rw [c_isThing c, bd2_s]
  cases e : inR x (nT A) with
  | false => rw [if_pos b2f0]
  | true =>
    rw [e] at h
    have h' : inHH y z = false := h
    rw [if_neg b2t0, c_areHours, h', bd2_s, if_pos b2f0]
/-! seemed -/
theorem t_toldBy (a : AOK A) (c : CR 2 A σ) {mo h : Nat} (hm : mo < 6) (hh : h < 12) : f_X10_toldBy (nI mo) (nI h) σ = some (nI (seS A mo h (nP A)), σ) := by
  have hP := a.1.2.2
  unfold f_X10_toldBy
  refine loopC (fun n i => f_X10_toldBy_5 n (nI mo) (nI h) (nI (msk (fun k => decide (pm A k = mo ∧ pq A k ≤ h)) i)) (nI i) σ) (nP A) _ ?_ ?_ FU 0 (by rw [FU_eq]; omega) (Nat.zero_le _)
  · intro n i hi
    obtain ⟨q, h1, p⟩ := c.2.2.2.2.1 i hi
    obtain ⟨k3, k1, k2, -, k5, -⟩ := a.2.2.2.2.1 i hi
    have hs : msk (fun k => decide (pm A k = mo ∧ pq A k ≤ h)) (i + 1) = if decide (pm A i = mo ∧ pq A i ≤ h) = true then msk (fun k => decide (pm A k = mo ∧ pq A k ≤ h)) i ||| 2 ^ i else msk (fun k => decide (pm A k = mo ∧ pq A k ≤ h)) i := rfl
    have ob : nI (msk (fun k => decide (pm A k = mo ∧ pq A k ≤ h)) i) ||| (nI 1 <<< (nI i &&& 31)) = nI (msk (fun k => decide (pm A k = mo ∧ pq A k ≤ h)) i ||| 2 ^ i) := by rw [nI_shlm (by omega), Nat.one_mul]; exact nI_or _ _
    show f_X10_toldBy_5 (n + 1) (nI mo) (nI h) (nI (msk (fun k => decide (pm A k = mo ∧ pq A k ≤ h)) i)) (nI i) σ = f_X10_toldBy_5 n (nI mo) (nI h) (nI (msk (fun k => decide (pm A k = mo ∧ pq A k ≤ h)) (i + 1))) (nI (i + 1)) σ
    rw [f_X10_toldBy_5, c.1.2.2.1, if_pos ((nI_ltI (by omega) (by omega)).mpr hi), rdT_ok (show i < 16 by omega) (by decide), h1, hs, ob]
    generalize msk (fun k => decide (pm A k = mo ∧ pq A k ≤ h)) i = w at *
    simp only [bind_s]
    rw [nl_s, PO_rd p, nI_add]
    simp only [bind_s]
    rw [p.2.2.2.2.2.2.2]
    by_cases c1 : pm A i = mo
    · rw [if_pos (congrArg nI c1), PO_rd p]
      simp only [bind_s]
      rw [p.2.2.2.2.2.1]
      by_cases c2 : h < pq A i
      · rw [if_pos ((nI_ltI (by omega) (by omega)).mpr c2), if_neg (by rw [decide_eq_true_iff]; omega)]
      · rw [if_neg (fun z => c2 ((nI_ltI (by omega) (by omega)).mp z)), if_pos (decide_eq_true ⟨c1, by omega⟩)]
    · rw [if_neg (fun z => c1 ((nI_eq (by omega) (by omega)).mp z)), if_neg (by rw [decide_eq_true_iff]; exact fun z => c1 z.1)]
  · intro n
    show f_X10_toldBy_5 (n + 1) _ _ _ (nI (nP A)) σ = _
    rw [f_X10_toldBy_5, c.1.2.2.1, if_neg (fun w => Nat.lt_irrefl _ ((nI_ltI (by omega) (by omega)).mp w)), t_inForce a c, bd2_s]
    have o : nI (msk (fun k => decide (pm A k = mo ∧ pq A k ≤ h)) (nP A)) &&& nI (AL A) = nI (msk (fun k => decide (pm A k = mo ∧ pq A k ≤ h)) (nP A) &&& AL A) := nI_and _ _
    rw [o]
    congr 3
    apply Nat.eq_of_testBit_eq
    intro j
    unfold seS
    rw [Nat.testBit_and, msk_tb, AL_tb, msk_tb]
    by_cases z0 : j < nP A
    · by_cases z1 : pb A j = 0
      · simp [z0, z1]
      · simp [z0, z1]
    · simp [z0]
theorem c_seemed (a : AOK A) (c : CR 2 A σ) (i : CI A σ) {mo g t h : Nat} (hmo : mo < 6) (hg : g < 12) (ht : t < nT A) (hh : h < 12) : ∃ u, f_X11_seemed (nI mo) (nI g) (nI t) (nI h) σ = some (isA A (seS A mo g (nP A)) X0 t h, u) ∧ Fxd σ u ∧ CI A u := by
  have hT := nT10 a
  obtain ⟨u, e, F, h11, h12, tb, same⟩ := t_freshen a c i
  have cu := CR_fc a c F
  have iu : CI A u := ⟨fun _ => h11, fun _ => tb, fun q => by
    have z : σ.1 0 12 = 0 := h12.symm.trans q
    have := same z
    subst this
    exact i.2.2 z⟩
  obtain ⟨u1, e1, F1⟩ := t_seems a cu tb h11 (seS_lt a mo g) hh (show t < 10 by omega)
  refine ⟨u1, ?_, (Fxd_c F).tr (Fxd_t F1), CI_ft iu F1⟩
  have e2 : f_X11_seems (nI (seS A mo g (nP A))) (nI t) (nI h) σ = f_X11_seems (nI (seS A mo g (nP A))) (nI t) (nI h) u := by
    unfold f_X11_seems
    rw [e]
    have : f_X11_freshenTruth u = some u := by unfold f_X11_freshenTruth; rw [if_pos h11]
    rw [this]
  unfold f_X11_seemed
  rw [c_isMouth, guardT hmo (by decide), bd2_s, if_neg b2t0, c_isHour, guardT hg (by decide), bd2_s, if_neg b2t0, c_isThing c, guardT ht (by omega), bd2_s, if_neg b2t0, c_isHour, guardT hh (by decide), bd2_s, if_neg b2t0, t_toldBy a c hmo hg, bd2_s, e2, e1, bd2_s]
theorem c_seemed_no (c : CR 2 A σ) {x y z w : Int32} (h : (inR x 6 && (inR y 12 && (inR z (nT A) && inR w 12))) = false) : f_X11_seemed x y z w σ = some (-1, σ) := by
  unfold f_X11_seemed
  rw [c_isMouth, bd2_s]
  cases c1 : inR x 6 with
  | false => rw [if_pos b2f0]
  | true =>
    rw [if_neg b2t0, c_isHour, bd2_s]
    cases c2 : inR y 12 with
    | false => rw [if_pos b2f0]
    | true =>
      rw [if_neg b2t0, c_isThing c, bd2_s]
      cases c3 : inR z (nT A) with
      | false => rw [if_pos b2f0]
      | true =>
        rw [c1, c2, c3] at h
        have h' : inR w 12 = false := h
        rw [if_neg b2t0, c_isHour, h', bd2_s, if_pos b2f0]
end
