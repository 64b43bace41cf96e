section
/-! ===== one piece more ===== -/
def aP (A : AW) (k w p q v m : Nat) : AW := (fun a b => if a = 0 ∧ b = 2 then nP A + 1 else if b = nP A ∧ 4 ≤ a ∧ a ≤ 10 then (if a = 4 then k else if a = 5 then w else if a = 6 then p else if a = 7 then q else if a = 8 then v else if a = 9 then m else 0) else A.1 a b, A.2)
variable {A : AW} {k w p q v m : Nat}
theorem nT_aP : nT (aP A k w p q v m) = nT A := by simp [nT, aP]
theorem nH_aP : nH (aP A k w p q v m) = nH A := by simp [nH, aP]
theorem nP_aP : nP (aP A k w p q v m) = nP A + 1 := by simp [nP, aP]
theorem kd_aP : kd (aP A k w p q v m) = kd A := by funext i; simp [kd, aP]
theorem pr_aP : pr (aP A k w p q v m) = pr A := by funext i; simp [pr, aP]
theorem sr_aP : sr (aP A k w p q v m) = sr A := by funext i; simp [sr, aP]
theorem wt_aP : wt (aP A k w p q v m) = wt A := by funext i; simp [wt, aP]
theorem lwb_aP : lwb (aP A k w p q v m) = lwb A := by funext i; simp [lwb, aP]
theorem lwe_aP : lwe (aP A k w p q v m) = lwe A := by funext i; simp [lwe, aP]
theorem lws_aP : lws (aP A k w p q v m) = lws A := by funext i; simp [lws, aP]
theorem pk_aP (i : Nat) : pk (aP A k w p q v m) i = if i = nP A then k else pk A i := by simp [pk, aP]
theorem po_aP (i : Nat) : po (aP A k w p q v m) i = if i = nP A then w else po A i := by simp [po, aP]
theorem pp_aP (i : Nat) : pp (aP A k w p q v m) i = if i = nP A then p else pp A i := by simp [pp, aP]
theorem pq_aP (i : Nat) : pq (aP A k w p q v m) i = if i = nP A then q else pq A i := by simp [pq, aP]
theorem pv_aP (i : Nat) : pv (aP A k w p q v m) i = if i = nP A then v else pv A i := by simp [pv, aP]
theorem pm_aP (i : Nat) : pm (aP A k w p q v m) i = if i = nP A then m else pm A i := by simp [pm, aP]
theorem pb_aP (i : Nat) : pb (aP A k w p q v m) i = if i = nP A then 0 else pb A i := by simp [pb, aP]
theorem tc_aP : tc (aP A k w p q v m) = tc A := rfl
theorem hc_aP : hc (aP A k w p q v m) = hc A := rfl
theorem cK_aP : cK (aP A k w p q v m) = cK A := by funext i; simp only [cK, nT_aP, nH_aP, kd_aP, pr_aP, sr_aP, wt_aP, lwb_aP, lwe_aP, lws_aP, tc_aP, hc_aP]
theorem pl_aP : pl (aP A k w p q v m) = pl A := by funext i; simp only [pl, nT_aP, nH_aP, kd_aP, pr_aP, sr_aP, wt_aP, lwb_aP, lwe_aP, lws_aP, tc_aP, hc_aP]
theorem nzT_aP : nzT (aP A k w p q v m) = nzT A := by
  unfold nzT aP
  refine Prod.ext (funext fun a => funext fun b => ?_) rfl
  simp only
  by_cases h0 : a = 0
  · subst h0
    by_cases h2 : b = 2
    · subst h2; simp
    · simp [h2]
  · by_cases h1 : a = 2
    · subst h1; simp
    · by_cases h4 : 4 ≤ a ∧ a ≤ 11
      · simp [h0, h1, h4]
      · have : ¬ (b = nP A ∧ 4 ≤ a ∧ a ≤ 10) := by omega
        simp [h0, h1, h4, this]
theorem cnt_congr {f g : Nat → Nat} {k n : Nat} (h : ∀ i, i < n → f i = g i) : cnt f k n = cnt g k n := by
  induction n with
  | zero => rfl
  | succ n ih => rw [cnt, cnt, ih (fun i hi => h i (by omega)), h n (by omega)]
/-- a piece that can be told -/
def PK (A : AW) (k w p q v m : Nat) : Prop := k ≤ 3 ∧ p ≤ q ∧ q < 12 ∧ v ≤ 7 ∧ m < 6 ∧ (k = 2 → w < nT A) ∧ (k ≠ 2 → w < nH A) ∧ (k = 0 → p = q) ∧ (k = 2 → kd A w ≠ 3 → v ≤ 1) ∧ (k ≠ 2 → v = 0)
def rmP (A : AW) (k : Nat) : Bool := decide (nP A < 16) && (!decide (k = 1) || decide (cnt (pk A) 1 (nP A) < 2))
theorem rmP_16 (h : rmP A k = true) : nP A < 16 := by
  unfold rmP at h
  rw [Bool.and_eq_true] at h
  exact of_decide_eq_true h.1
theorem AOK_aP (a : AOK A) (h : PK A k w p q v m) (r : rmP A k = true) : AOK (aP A k w p q v m) := by
  have h16 := rmP_16 r
  have hc : k = 1 → cnt (pk A) 1 (nP A) < 2 := fun e => by
    unfold rmP at r
    rw [Bool.and_eq_true, decide_eq_true e] at r
    exact of_decide_eq_true r.2
  have ec : cnt (pk (aP A k w p q v m)) 1 (nP A) = cnt (pk A) 1 (nP A) := cnt_congr (fun i hi => by rw [pk_aP, if_neg (by omega)])
  obtain ⟨h1, h2, h3, h4, h5, h6, h7, h8, h9, h10⟩ := h
  unfold AOK at *
  obtain ⟨a1, a2, a3, a4, a5, a6, a7⟩ := a
  rw [nP_aP]
  refine ⟨⟨by rw [nT_aP]; exact a1.1, by rw [nH_aP]; exact a1.2.1, by omega⟩, by simp only [nT_aP, nH_aP, kd_aP, pr_aP, sr_aP, wt_aP, lwb_aP, lwe_aP, lws_aP, tc_aP, hc_aP, cK_aP, pl_aP]; exact a2, by simp only [nT_aP, nH_aP, kd_aP, pr_aP, sr_aP, wt_aP, lwb_aP, lwe_aP, lws_aP, tc_aP, hc_aP, cK_aP, pl_aP]; exact a3, by simp only [nT_aP, nH_aP, kd_aP, pr_aP, sr_aP, wt_aP, lwb_aP, lwe_aP, lws_aP, tc_aP, hc_aP, cK_aP, pl_aP]; exact a4, fun i hi => ?_, ?_, by simp only [nT_aP, nH_aP, kd_aP, pr_aP, sr_aP, wt_aP, lwb_aP, lwe_aP, lws_aP, tc_aP, hc_aP, cK_aP, pl_aP]; exact a7⟩
  · simp only [nT_aP, nH_aP, kd_aP, pr_aP, sr_aP, wt_aP, lwb_aP, lwe_aP, lws_aP, tc_aP, hc_aP, cK_aP, pl_aP, pk_aP, po_aP, pp_aP, pq_aP, pv_aP, pm_aP, pb_aP]
    by_cases e : i = nP A
    · simp only [if_pos e]
      exact ⟨h1, h2, h3, h4, h5, by omega, h6, h7, h8, h9⟩
    · simp only [if_neg e]
      exact a5 i (by omega)
  · rw [cnt, ec, pk_aP, if_pos rfl]
    split
    · rename_i e; have := hc e; omega
    · exact a6
variable {X : XS} {σ : ST}
theorem t_roomP (a : AOK A) (c : CR 2 A σ) (hk : k ≤ 3) : f_X10_hasRoomForPiece (nI k) σ = some (b2 (rmP A k), σ) := by
  have hP := a.1.2.2
  unfold f_X10_hasRoomForPiece rmP
  rw [c.1.2.2.1]
  by_cases h16 : nP A < 16
  · rw [if_pos ((nI_ltI (by omega) (by omega)).mpr h16), decide_eq_true h16, Bool.true_and]
    have hc := cnt_le (pk A) 1 (nP A)
    refine loopC (fun n i => f_X10_hasRoomForPiece_15 (fun x1_4 x2_5 s6 => if x1_4 = (nI 1) then (if x2_5 < (nI 2) then (some ((nI 1), s6)) else (some ((nI 0), s6))) else (some ((nI 1), s6))) n (nI k) (nI (cnt (pk A) 1 i)) (nI i) σ) (nP A) _ ?_ ?_ FU 0 (by rw [FU_eq]; omega) (Nat.zero_le _)
    · intro n i hi
      obtain ⟨pp, h1, ho⟩ := c.2.2.2.2.1 i hi
      have hk3 := (a.2.2.2.2.1 i hi).1
      have hs : cnt (pk A) 1 (i + 1) = if pk A i = 1 then cnt (pk A) 1 i + 1 else cnt (pk A) 1 i := rfl
      show f_X10_hasRoomForPiece_15 _ (n + 1) (nI k) (nI (cnt (pk A) 1 i)) (nI i) σ = f_X10_hasRoomForPiece_15 _ n (nI k) (nI (cnt (pk A) 1 (i + 1))) (nI (i + 1)) σ
      rw [f_X10_hasRoomForPiece_15, c.1.2.2.1, if_pos ((nI_ltI (by omega) (by omega)).mpr hi), rdT_ok (show i < 16 by omega) (by decide), h1, hs]
      simp only [bind_s]
      rw [nl_s, PO_rd ho, nI_add, nI_add]
      simp only [bind_s]
      rw [ho.2.2.1]
      by_cases z : pk A i = 1
      · rw [if_pos (congrArg nI z), if_pos z]
      · rw [if_neg (fun q => z ((nI_eq (by omega) (by omega)).mp q)), if_neg z]
    · intro n
      show f_X10_hasRoomForPiece_15 _ (n + 1) (nI k) (nI (cnt (pk A) 1 (nP A))) (nI (nP A)) σ = _
      rw [f_X10_hasRoomForPiece_15, c.1.2.2.1, if_neg (fun z => Nat.lt_irrefl _ ((nI_ltI (by omega) (by omega)).mp z))]
      by_cases z : k = 1
      · rw [if_pos (congrArg nI z), decide_eq_true z]
        by_cases z2 : cnt (pk A) 1 (nP A) < 2
        · rw [if_pos ((nI_ltI (by omega) (by omega)).mpr z2), decide_eq_true z2]; rfl
        · rw [if_neg (fun q => z2 ((nI_ltI (by omega) (by omega)).mp q)), decide_eq_false z2]; rfl
      · rw [if_neg (fun q => z ((nI_eq (by omega) (by omega)).mp q)), decide_eq_false z]; rfl
  · rw [if_neg (fun z => h16 ((nI_ltI (by omega) (by omega)).mp z)), decide_eq_false h16, Bool.false_and]; rfl
/-! the new piece's cells -/
theorem chkP_eq {s : ST} {cs : List Nat} {y : Nat} (h : s.2.2.2 = σ.2.2.2) : chkP cs s y = chkP cs σ y := by unfold chkP; rw [h]
theorem chkP_new {s : ST} {cs : List Nat} {c : Nat} {l : List Nat} (h : s.2.2.2 = l ++ [c]) (hc : c ∈ cs) : chkP cs s (296 + l.length) = some c := by
  unfold chkP
  rw [if_pos (by omega), h, show 296 + l.length - 296 = l.length by omega, List.getElem?_append_right (Nat.le_refl _), Nat.sub_self]
  show (if c ∈ cs then some c else none) = some c
  rw [if_pos hc]
def iP (s : ST) (y : Nat) (x1 x2 x3 x4 x5 x6 x7 : Int32) : ST := setI (setI (setI (setI (setI (setI (setI s y 0 x1) y 1 x2) y 2 x3) y 3 x4) y 4 x5) y 5 x6) y 6 x7
theorem iP_l (s : ST) (y : Nat) (x1 x2 x3 x4 x5 x6 x7 : Int32) : (iP s y x1 x2 x3 x4 x5 x6 x7).2 = s.2 := rfl
theorem t_init_ {s : ST} {y c : Nat} {x1 x2 x3 x4 x5 x6 x7 : Int32} (h : chkP [6, 4, 8, 9] s y = some c) : f_X6_init_ y x1 x2 x3 x4 x5 x6 x7 s = some (iP s y x1 x2 x3 x4 x5 x6 x7) := by
  have e : ∀ (u : ST), u.2 = s.2 → ∀ k v, pfP [6, 4, 8, 9] u y k v = some (setI u y k v) := fun u hu k v => by
    unfold pfP
    rw [chkP_eq (σ := s) (by rw [hu]), h]
    rfl
  unfold f_X6_init_ iP
  rw [e s rfl, bind_s, e _ (by exact rfl), bind_s, e _ (by exact rfl), bind_s, e _ (by exact rfl), bind_s, e _ (by exact rfl), bind_s, e _ (by exact rfl), bind_s, e _ (by exact rfl), bind_s]
/-- the state with a piece more -/
def nS1 (A : AW) (σ : ST) (k w p q v m : Nat) : ST := setI (setT (iP (newP σ (clsP k)) (296 + σ.2.2.2.length) (nI (nP A)) (nI k) (nI w) (nI p) (nI q) (nI v) (nI m)) 7 (nP A) (some (296 + σ.2.2.2.length))) 2 2 (nI (nP A + 1))
theorem nS1_tail (h16 : nP A < 16) (hk : k ≤ 3) : (wrT (iP (newP σ (clsP k)) (296 + σ.2.2.2.length) (nI (nP A)) (nI k) (nI w) (nI p) (nI q) (nI v) (nI m)) 7 16 (nI (nP A)) (some (296 + σ.2.2.2.length))) = some (setT (iP (newP σ (clsP k)) (296 + σ.2.2.2.length) (nI (nP A)) (nI k) (nI w) (nI p) (nI q) (nI v) (nI m)) 7 (nP A) (some (296 + σ.2.2.2.length))) := by
  unfold wrT
  rw [inR_nI (by omega) (by omega), decide_eq_true h16, nI_cl (by omega), if_pos rfl]
  show (chkP [6, 4, 8, 9] _ _).bind _ = _
  rw [chkP_new (c := clsP k) (l := σ.2.2.2) rfl (clsP_in k), bind_s]
theorem t_addPiece (a : AOK A) (c : CR 2 A σ) (h : PK A k w p q v m) (h16 : nP A < 16) : f_X10_addPiece (nI k) (nI w) (nI p) (nI q) (nI v) (nI m) σ = some (nI (nP A), nS1 A σ k w p q v m) := by
  obtain ⟨hk, -, -, -, -, -, -, h8, -, h10⟩ := h
  have ck : ∀ c cs, c ∈ cs → chkP cs (newP σ c) (296 + σ.2.2.2.length) = some c := fun c cs hc => chkP_new (c := c) (l := σ.2.2.2) rfl hc
  have e22 : ∀ (u : ST) (T : Option Nat), (setT (iP (newP σ (clsP k)) (296 + σ.2.2.2.length) (nI (nP A)) (nI k) (nI w) (nI p) (nI q) (nI v) (nI m)) 7 (nP A) T).1 2 2 = nI (nP A) := fun u T => by
    rw [I_setT]
    unfold iP
    rw [I_ne (Or.inl (by omega)), I_ne (Or.inl (by omega)), I_ne (Or.inl (by omega)), I_ne (Or.inl (by omega)), I_ne (Or.inl (by omega)), I_ne (Or.inl (by omega)), I_ne (Or.inl (by omega))]
    show (if 2 = 296 + σ.2.2.2.length then _ else σ.1 2) 2 = _
    rw [if_neg (by omega)]
    exact c.1.2.2.1
  have tl := nS1_tail (σ := σ) (w := w) (p := p) (q := q) (v := v) (m := m) h16 hk
  have fin : ((wrT (iP (newP σ (clsP k)) (296 + σ.2.2.2.length) (nI (nP A)) (nI k) (nI w) (nI p) (nI q) (nI v) (nI m)) 7 16 (nI (nP A)) (some (296 + σ.2.2.2.length))).bind fun s5 => (pfI s5 2 2 ((s5.1 2 2) + (nI 1))).bind fun s6 => some (nI (nP A), s6)) = some (nI (nP A), nS1 A σ k w p q v m) := by
    rw [tl, bind_s, pfI_s, bind_s, e22 σ, nI_add]
    rfl
  unfold f_X10_addPiece nwP
  rw [c.1.2.2.1, if_pos ((nI_ltI (by omega) (by omega)).mpr h16)]
  rcases (show k = 0 ∨ k = 1 ∨ k = 2 ∨ k = 3 by omega) with rfl | rfl | rfl | rfl
  · have hq := h8 rfl
    have hv := h10 (by decide)
    subst hq hv
    rw [if_neg (by decide), if_neg (by decide), if_neg (by decide), bd2_s, ck 6 [6] (by decide), bind_s]
    unfold f_X6_init
    rw [ck 6 _ (by decide), bind_s, t_init_ (ck 6 _ (by decide)), bind_s, bind_s]
    exact fin
  · have hv := h10 (by decide)
    subst hv
    rw [if_pos (by decide), bd2_s, ck 8 [8] (by decide), bind_s]
    unfold f_X8_init
    rw [ck 8 _ (by decide), bind_s, t_init_ (ck 8 _ (by decide)), bind_s, bind_s]
    exact fin
  · rw [if_neg (by decide), if_pos (by decide), bd2_s, ck 9 [9] (by decide), bind_s]
    unfold f_X9_init
    rw [ck 9 _ (by decide), bind_s, t_init_ (ck 9 _ (by decide)), bind_s, bind_s]
    exact fin
  · have hv := h10 (by decide)
    subst hv
    rw [if_neg (by decide), if_neg (by decide), if_pos (by decide), bd2_s, ck 4 [4] (by decide), bind_s]
    unfold f_X4_init f_X8_init_
    rw [ck 4 _ (by decide), bind_s, ck 4 _ (by decide), bind_s, t_init_ (ck 4 _ (by decide)), bind_s, bind_s, bind_s]
    exact fin
/-- what stays where pieces are told -/
def Ftl (n : Nat) (σ s : ST) : Prop := Sm (fun x => x ≠ 0 ∧ x ≠ 2 ∧ x ≠ 7 ∧ x < 296 + σ.2.2.2.length) σ s ∧ s.2.2.2.length ≤ σ.2.2.2.length + n ∧ ∀ k, k ≠ 12 → s.1 0 k = σ.1 0 k
theorem Ftl.rf (σ : ST) : Ftl 0 σ σ := ⟨⟨fun _ _ => ⟨rfl, rfl, rfl⟩, [], by rw [List.append_nil]⟩, Nat.le_refl _, fun _ _ => rfl⟩
theorem Ftl.tr {n n' : Nat} {σ s u : ST} (h : Ftl n σ s) (g : Ftl n' s u) : Ftl (n + n') σ u := by
  obtain ⟨⟨h1, l, hl⟩, h2, h3⟩ := h
  obtain ⟨⟨g1, l', gl⟩, g2, g3⟩ := g
  have hle : σ.2.2.2.length ≤ s.2.2.2.length := by rw [hl, List.length_append]; omega
  refine ⟨⟨fun x hx => ?_, l ++ l', by rw [gl, hl, List.append_assoc]⟩, by omega, fun k hk => (g3 k hk).trans (h3 k hk)⟩
  have q1 := h1 x hx
  have q2 := g1 x ⟨hx.1, hx.2.1, hx.2.2.1, by have := hx.2.2.2; omega⟩
  exact ⟨q2.1.trans q1.1, q2.2.1.trans q1.2.1, q2.2.2.trans q1.2.2⟩
theorem nS1_I (y i : Nat) (h2 : y ≠ 2 ∨ i ≠ 2) (hy : y ≠ 296 + σ.2.2.2.length) : (nS1 A σ k w p q v m).1 y i = σ.1 y i := by
  unfold nS1 iP
  rw [I_ne (by omega), I_setT, I_ne (Or.inl hy), I_ne (Or.inl hy), I_ne (Or.inl hy), I_ne (Or.inl hy), I_ne (Or.inl hy), I_ne (Or.inl hy), I_ne (Or.inl hy)]
  show (if y = 296 + σ.2.2.2.length then _ else σ.1 y) i = _
  rw [if_neg hy]
theorem nS1_22 : (nS1 A σ k w p q v m).1 2 2 = nI (nP A + 1) := by unfold nS1; rw [I_at]
theorem nS1_P : (nS1 A σ k w p q v m).1 (296 + σ.2.2.2.length) 0 = nI (nP A) ∧ (nS1 A σ k w p q v m).1 (296 + σ.2.2.2.length) 1 = nI k ∧ (nS1 A σ k w p q v m).1 (296 + σ.2.2.2.length) 2 = nI w ∧ (nS1 A σ k w p q v m).1 (296 + σ.2.2.2.length) 3 = nI p ∧ (nS1 A σ k w p q v m).1 (296 + σ.2.2.2.length) 4 = nI q ∧ (nS1 A σ k w p q v m).1 (296 + σ.2.2.2.length) 5 = nI v ∧ (nS1 A σ k w p q v m).1 (296 + σ.2.2.2.length) 6 = nI m := by
  have n2 : 296 + σ.2.2.2.length ≠ 2 := by omega
  unfold nS1 iP
  refine ⟨?_, ?_, ?_, ?_, ?_, ?_, ?_⟩
  · rw [I_ne (Or.inl n2), I_setT, I_ne (Or.inr (by decide)), I_ne (Or.inr (by decide)), I_ne (Or.inr (by decide)), I_ne (Or.inr (by decide)), I_ne (Or.inr (by decide)), I_ne (Or.inr (by decide)), I_at]
  · rw [I_ne (Or.inl n2), I_setT, I_ne (Or.inr (by decide)), I_ne (Or.inr (by decide)), I_ne (Or.inr (by decide)), I_ne (Or.inr (by decide)), I_ne (Or.inr (by decide)), I_at]
  · rw [I_ne (Or.inl n2), I_setT, I_ne (Or.inr (by decide)), I_ne (Or.inr (by decide)), I_ne (Or.inr (by decide)), I_ne (Or.inr (by decide)), I_at]
  · rw [I_ne (Or.inl n2), I_setT, I_ne (Or.inr (by decide)), I_ne (Or.inr (by decide)), I_ne (Or.inr (by decide)), I_at]
  · rw [I_ne (Or.inl n2), I_setT, I_ne (Or.inr (by decide)), I_ne (Or.inr (by decide)), I_at]
  · rw [I_ne (Or.inl n2), I_setT, I_ne (Or.inr (by decide)), I_at]
  · rw [I_ne (Or.inl n2), I_setT, I_at]
theorem nS1_F : Ftl 1 σ (nS1 A σ k w p q v m) := by
  refine ⟨⟨fun x hx => ⟨funext fun i => nS1_I x i (Or.inl hx.2.1) (by omega), rfl, ?_⟩, [clsP k], rfl⟩, by show (σ.2.2.2 ++ [clsP k]).length ≤ _; rw [List.length_append]; exact Nat.le_refl _, fun i _ => nS1_I 0 i (Or.inl (by decide)) (by omega)⟩
  show (if x = 7 then _ else σ.2.2.1 x) = _
  rw [if_neg hx.2.2.1]
theorem CR_aP (a : AOK A) (c : CR 2 A σ) (hk : k ≤ 3) : CR 2 (aP A k w p q v m) (nS1 A σ k w p q v m) := by
  have hT := a.1.1
  have hH := a.1.2.1
  unfold CR at *
  simp only [nT_aP, nH_aP, kd_aP, pr_aP, sr_aP, wt_aP, lwb_aP, lwe_aP, lws_aP, tc_aP, hc_aP, cK_aP, pl_aP, nP_aP]
  obtain ⟨c1, c2, c3, c4, c5, c6⟩ := c
  have F : ∀ x, x ≠ 2 → x < 296 → (nS1 A σ k w p q v m).1 x = σ.1 x := fun x h2 h3 => funext fun i => nS1_I x i (Or.inl h2) (by omega)
  refine ⟨⟨?_, ?_, nS1_22, ?_⟩, fun i hi => ?_, fun i hi hk => ?_, fun h hh => ?_, fun j hj => ?_, fun m hm => ?_⟩
  · rw [nS1_I 2 0 (by omega) (by omega)]; exact c1.1
  · rw [nS1_I 2 1 (by omega) (by omega)]; exact c1.2.1
  · rw [nS1_I 2 3 (by omega) (by omega), c1.2.2.2, msk, pb_aP, if_pos rfl, if_neg (by decide)]
    refine congrArg nI (msk_congr (fun i hi => ?_))
    rw [pb_aP, if_neg (by omega)]
  · rw [F _ (by omega) (by omega), F _ (by omega) (by omega)]; exact c2 i hi
  · exact CC_sm (c3 i hi hk) (fun x h1 h2 => F x (by omega) (by omega))
  · obtain ⟨d0, d⟩ := c4 h hh
    refine ⟨CC_sm d0 (fun x h1 h2 => F x (by omega) (by omega)), ?_⟩
    rw [F _ (by omega) (by omega)]
    exact d
  · unfold PO
    simp only [pk_aP, po_aP, pp_aP, pq_aP, pv_aP, pm_aP, pb_aP]
    by_cases e : j = nP A
    · subst e
      simp only [if_pos]
      refine ⟨296 + σ.2.2.2.length, ?_, ⟨by omega, ?_⟩, nS1_P⟩
      · show (if 2 + 5 = 7 then va_up (σ.2.2.1 (2 + 5)) (nP A) (some (296 + σ.2.2.2.length)) else σ.2.2.1 (2 + 5)) (nP A) = _
        rw [if_pos rfl]
        simp [va_up]
      · show (σ.2.2.2 ++ [clsP k])[296 + σ.2.2.2.length - 296]? = _
        rw [show 296 + σ.2.2.2.length - 296 = σ.2.2.2.length by omega, List.getElem?_append_right (Nat.le_refl _), Nat.sub_self]
        rfl
    · simp only [if_neg e]
      obtain ⟨y, h1, ⟨h2, h3⟩, h4⟩ := c5 j (by omega)
      have hy : y - 296 < σ.2.2.2.length := (List.getElem?_eq_some_iff.mp h3).1
      refine ⟨y, ?_, ⟨h2, ?_⟩, ?_⟩
      · show (if 2 + 5 = 7 then va_up (σ.2.2.1 (2 + 5)) (nP A) (some (296 + σ.2.2.2.length)) else σ.2.2.1 (2 + 5)) j = _
        rw [if_pos rfl]
        unfold va_up
        rw [if_neg e]
        exact h1
      · show (σ.2.2.2 ++ [clsP k])[y - 296]? = _
        rw [List.getElem?_append_left hy]
        exact h3
      · rw [nS1_I y 0 (by omega) (by omega), nS1_I y 1 (by omega) (by omega), nS1_I y 2 (by omega) (by omega), nS1_I y 3 (by omega) (by omega), nS1_I y 4 (by omega) (by omega), nS1_I y 5 (by omega) (by omega), nS1_I y 6 (by omega) (by omega)]
        exact h4
  · rw [F _ (by omega) (by omega)]; exact c6 m hm
theorem VB_nS1 (vb : VB σ) : VB (nS1 A σ k w p q v m) := by
  refine VB_eq vb ⟨[clsP k], rfl⟩ (fun i _ => ?_) rfl (fun h hh => ⟨nS1_I _ _ (by omega) (by omega), nS1_I _ _ (by omega) (by omega), nS1_I _ _ (by omega) (by omega), nS1_I _ _ (by omega) (by omega)⟩) (nS1_I _ _ (by omega) (by omega)) (nS1_I _ _ (by omega) (by omega))
  by_cases e : i = nP A
  · right
    intro y hy
    have e2 : (nS1 A σ k w p q v m).2.2.1 7 i = some (296 + σ.2.2.2.length) := by
      show (if 7 = 7 then va_up (σ.2.2.1 7) (nP A) (some (296 + σ.2.2.2.length)) else σ.2.2.1 7) i = _
      rw [if_pos rfl]
      simp [va_up, e]
    rw [e2] at hy
    cases hy
    exact ⟨clsP k, chkP_new (l := σ.2.2.2) rfl (clsP_in k)⟩
  · left
    show (if 7 = 7 then va_up (σ.2.2.1 7) (nP A) (some (296 + σ.2.2.2.length)) else σ.2.2.1 7) i = _
    rw [if_pos rfl]
    simp [va_up, e]
/-- the class tells a piece -/
theorem c_tell (a : AOK A) (c : CR 2 A σ) (i : CI A σ) (h : PK A k w p q v m) (r : rmP A k = true) : ∃ s, f_X11_tell (nI k) (nI w) (nI p) (nI q) (nI v) (nI m) σ = some (nI (nP A), s) ∧ Ftl 1 σ s ∧ CR 2 (aP A k w p q v m) s ∧ CI (aP A k w p q v m) s ∧ (VB σ → VB s) := by
  have F0 : Fr (fun y => y = 0) σ (setI σ 0 12 1) := Fr_setI rfl
  have c1 := CR_fr a c F0 (fun x hx => by omega)
  have G0 : Ftl 0 σ (setI σ 0 12 1) := ⟨Sm_fr F0 (fun x hx => by omega), Nat.le_refl _, fun k hk => I_ne (Or.inr hk)⟩
  have GG := G0.tr (nS1_F (A := A) (k := k) (w := w) (p := p) (q := q) (v := v) (m := m))
  have e12 : (nS1 A (setI σ 0 12 1) k w p q v m).1 0 12 = 1 := by rw [nS1_I 0 12 (Or.inl (by decide)) (by omega), I_at]
  refine ⟨nS1 A (setI σ 0 12 1) k w p q v m, ?_, GG, CR_aP a c1 h.1, ⟨fun z => ?_, fun z => ?_, fun z => ?_⟩, fun vb => VB_nS1 (VB_fr vb F0 (fun y hy => by omega))⟩
  · unfold f_X11_tell
    rw [t_roomP a c h.1, r, bd2_s, if_neg b2t0, pfZ_1]
    simp only [bind_s]
    have := t_addPiece a c1 h (rmP_16 r)
    rw [show (setI σ 0 12 1 : ST) = setI σ 0 12 1 from rfl, this, bd2_s]
  · rw [e12] at z; exact absurd z (by decide)
  · rw [GG.2.2 11 (by decide)] at z
    have t := i.2.1 z
    have tb : TB A (nS1 A (setI σ 0 12 1) k w p q v m) := by
      intro f kept run h1 h2 h3
      rw [(GG.1.1 195 (by omega)).1, (GG.1.1 196 (by omega)).1]
      exact t f kept run h1 h2 h3
    exact (TB_nz _ _).mp (by rw [nzT_aP]; exact (TB_nz _ _).mpr tb)
  · rw [e12] at z; exact absurd z (by decide)
theorem c_tell_no (a : AOK A) (c : CR 2 A σ) (hk : k ≤ 3) (r : rmP A k = false) {x2 x3 x4 x5 x6 : Int32} : f_X11_tell (nI k) x2 x3 x4 x5 x6 σ = some (-7, rC 7 σ) := by
  unfold f_X11_tell
  rw [t_roomP a c hk, r, bd2_s, if_pos b2f0, c_refuse (j := 7) (by decide) (by decide), bd2_s]
/-- the reference takes it -/
theorem m_piece (a : AOK A) (mr : MR A σ) (h : PK A k w p q v m) (h16 : nP A < 16) : ∃ u, f_X12_piece (nI k) (nI w) (nI p) (nI q) (nI v) (nI m) σ = some (nI (nP A), u) ∧ Fr (fun y => y = 247 ∨ (255 ≤ y ∧ y ≤ 261)) σ u ∧ (∀ i, i ≠ 9 → u.1 247 i = σ.1 247 i) ∧ MR (aP A k w p q v m) u := by
  have e9 := mr.1.2.2
  unfold f_X12_piece
  rw [e9, wrI_ok h16 (by decide)]
  simp only [bind_s]
  rw [I_ne (Or.inl (by decide)), e9, wrI_ok h16 (by decide)]
  simp only [bind_s]
  rw [I_ne (Or.inl (by decide)), I_ne (Or.inl (by decide)), e9, wrI_ok h16 (by decide)]
  simp only [bind_s]
  rw [I_ne (Or.inl (by decide)), I_ne (Or.inl (by decide)), I_ne (Or.inl (by decide)), e9, wrI_ok h16 (by decide)]
  simp only [bind_s]
  rw [I_ne (Or.inl (by decide)), I_ne (Or.inl (by decide)), I_ne (Or.inl (by decide)), I_ne (Or.inl (by decide)), e9, wrI_ok h16 (by decide)]
  simp only [bind_s]
  rw [I_ne (Or.inl (by decide)), I_ne (Or.inl (by decide)), I_ne (Or.inl (by decide)), I_ne (Or.inl (by decide)), I_ne (Or.inl (by decide)), e9, wrI_ok h16 (by decide)]
  simp only [bind_s]
  rw [I_ne (Or.inl (by decide)), I_ne (Or.inl (by decide)), I_ne (Or.inl (by decide)), I_ne (Or.inl (by decide)), I_ne (Or.inl (by decide)), I_ne (Or.inl (by decide)), e9, wrI_ok h16 (by decide)]
  simp only [bind_s]
  rw [I_ne (Or.inl (by decide)), I_ne (Or.inl (by decide)), I_ne (Or.inl (by decide)), I_ne (Or.inl (by decide)), I_ne (Or.inl (by decide)), I_ne (Or.inl (by decide)), I_ne (Or.inl (by decide)), e9, pfI_s]
  simp only [bind_s]
  rw [I_at, nI_add, nI_sub (by omega), Nat.add_sub_cancel]
  have F : Fr (fun y => y = 247 ∨ (255 ≤ y ∧ y ≤ 261)) σ (setI (setI (setI (setI (setI (setI (setI (setI σ 255 (nP A) (nI k)) 256 (nP A) (nI w)) 257 (nP A) (nI p)) 258 (nP A) (nI q)) 259 (nP A) (nI v)) 260 (nP A) (nI m)) 261 (nP A) (nI 0)) 247 9 (nI (nP A + 1))) := (((((((Fr_setI (by omega)).tr (Fr_setI (by omega))).tr (Fr_setI (by omega))).tr (Fr_setI (by omega))).tr (Fr_setI (by omega))).tr (Fr_setI (by omega))).tr (Fr_setI (by omega))).tr (Fr_setI (by omega))
  have e : ∀ y j, y ≠ 247 → (j ≠ nP A ∨ y < 255 ∨ 261 < y) → (setI (setI (setI (setI (setI (setI (setI (setI σ 255 (nP A) (nI k)) 256 (nP A) (nI w)) 257 (nP A) (nI p)) 258 (nP A) (nI q)) 259 (nP A) (nI v)) 260 (nP A) (nI m)) 261 (nP A) (nI 0)) 247 9 (nI (nP A + 1))).1 y j = σ.1 y j := fun y j h1 h2 => by
    rw [I_ne (by omega), I_ne (by omega), I_ne (by omega), I_ne (by omega), I_ne (by omega), I_ne (by omega), I_ne (by omega), I_ne (by omega)]
  have e7 : ∀ i, i ≠ 9 → (setI (setI (setI (setI (setI (setI (setI (setI σ 255 (nP A) (nI k)) 256 (nP A) (nI w)) 257 (nP A) (nI p)) 258 (nP A) (nI q)) 259 (nP A) (nI v)) 260 (nP A) (nI m)) 261 (nP A) (nI 0)) 247 9 (nI (nP A + 1))).1 247 i = σ.1 247 i := fun i h1 => by
    rw [I_ne (by omega), I_ne (by omega), I_ne (by omega), I_ne (by omega), I_ne (by omega), I_ne (by omega), I_ne (by omega), I_ne (by omega)]
  refine ⟨_, rfl, F, e7, ?_⟩
  unfold MR MRr at *
  simp only [nT_aP, nH_aP, kd_aP, pr_aP, sr_aP, wt_aP, lwb_aP, lwe_aP, lws_aP, tc_aP, hc_aP, cK_aP, pl_aP, nP_aP, pk_aP, po_aP, pp_aP, pq_aP, pv_aP, pm_aP, pb_aP]
  obtain ⟨⟨m1, m2, m3⟩, n1, n2, n3, n4⟩ := mr
  refine ⟨⟨(e7 0 (by decide)).trans m1, (e7 4 (by decide)).trans m2, I_at _ _ _ _⟩, ?_, ?_, fun i hi => ?_, ?_⟩
  · rw [(F.1 248 (by omega)).1, (F.1 249 (by omega)).1, (F.1 250 (by omega)).1]; exact n1
  · rw [(F.1 251 (by omega)).1, (F.1 252 (by omega)).1, (F.1 253 (by omega)).1, (F.1 254 (by omega)).1]; exact n2
  · by_cases z : i = nP A
    · subst z
      simp only [if_pos]
      refine ⟨?_, ?_, ?_, ?_, ?_, ?_, ?_⟩
      · rw [I_ne (by omega), I_ne (by omega), I_ne (by omega), I_ne (by omega), I_ne (by omega), I_ne (by omega), I_ne (by omega), I_at]
      · rw [I_ne (by omega), I_ne (by omega), I_ne (by omega), I_ne (by omega), I_ne (by omega), I_ne (by omega), I_at]
      · rw [I_ne (by omega), I_ne (by omega), I_ne (by omega), I_ne (by omega), I_ne (by omega), I_at]
      · rw [I_ne (by omega), I_ne (by omega), I_ne (by omega), I_ne (by omega), I_at]
      · rw [I_ne (by omega), I_ne (by omega), I_ne (by omega), I_at]
      · rw [I_ne (by omega), I_ne (by omega), I_at]
      · rw [I_ne (by omega), I_at]
    · simp only [if_neg z]
      rw [e 255 i (by decide) (Or.inl z), e 256 i (by decide) (Or.inl z), e 257 i (by decide) (Or.inl z), e 258 i (by decide) (Or.inl z), e 259 i (by decide) (Or.inl z), e 260 i (by decide) (Or.inl z), e 261 i (by decide) (Or.inl z)]
      exact n3 i (by omega)
  · rw [(F.1 262 (by omega)).1]; exact n4
theorem m_spanPieces (a : AOK A) (mr : MR A σ) : f_X12_spanPieces σ = some (nI (cnt (pk A) 1 (nP A)), σ) := by
  have hP := a.1.2.2
  unfold f_X12_spanPieces
  refine loopC (fun n i => f_X12_spanPieces_4 n (nI (cnt (pk A) 1 i)) (nI i) σ) (nP A) _ ?_ ?_ FU 0 (by rw [FU_eq]; omega) (Nat.zero_le _)
  · intro n i hi
    have hk3 := (a.2.2.2.2.1 i hi).1
    have hs : cnt (pk A) 1 (i + 1) = if pk A i = 1 then cnt (pk A) 1 i + 1 else cnt (pk A) 1 i := rfl
    show f_X12_spanPieces_4 (n + 1) (nI (cnt (pk A) 1 i)) (nI i) σ = f_X12_spanPieces_4 n (nI (cnt (pk A) 1 (i + 1))) (nI (i + 1)) σ
    rw [f_X12_spanPieces_4, mr.1.2.2, if_pos ((nI_ltI (by omega) (by omega)).mpr hi), rdI_ok (show i < 16 by omega) (by decide), (mr.2.2.2.1 i hi).1, hs]
    simp only [bind_s]
    rw [nI_add, nI_add]
    by_cases z : pk A i = 1
    · rw [if_pos (congrArg nI z), if_pos z]
    · rw [if_neg (fun q => z ((nI_eq (by omega) (by omega)).mp q)), if_neg z]
  · intro n
    show f_X12_spanPieces_4 (n + 1) _ (nI (nP A)) σ = _
    rw [f_X12_spanPieces_4, mr.1.2.2, if_neg (fun z => Nat.lt_irrefl _ ((nI_ltI (by omega) (by omega)).mp z))]
/-- both take it -/
theorem OUT_p {c mm : ST → Option (Int32 × ST)} (h : XR X σ) (hk : PK X.1 k w p q v m) (hc : c σ = f_X11_tell (nI k) (nI w) (nI p) (nI q) (nI v) (nI m) σ) (hm : ∀ u, XM X u → mm u = if rmP X.1 k = true then f_X12_piece (nI k) (nI w) (nI p) (nI q) (nI v) (nI m) u else some (-7, rM 7 u)) : OUT c mm σ := by
  have a := h.1.1
  cases r : rmP X.1 k with
  | false => exact OUT_ref h (j := 7) (by decide) (by decide) (hc.trans (c_tell_no a h.2.1.1 hk.1 r)) (fun u mu => by rw [hm u mu, r, if_neg (by decide)])
  | true =>
    obtain ⟨s, e, F, c2, i2, vb⟩ := c_tell a h.2.1.1 h.2.1.2.1 hk r
    refine OUT_w (A' := aP X.1 k w p q v m) (ft := X.2.2.2.1) h (AOK_aP a hk r) (HOK_P h.1.2.1 (by rw [nP_aP]; omega)) (hc.trans e) ⟨fun x hx => F.1.1 x (by omega), F.1.2⟩ (by have := F.2.1; omega) (F.2.2 10 (by decide)) ((F.2.2 13 (by decide)).trans h.2.1.2.2.2.2.1) c2 i2 vb (fun m1 => ?_)
    obtain ⟨u, e2, F2, e7, m2⟩ := m_piece a m1.1 hk (rmP_16 r)
    refine ⟨u, by rw [hm s m1, r, if_pos rfl, e2], F2.mono (fun y hy => by omega), fun x hx => ⟨(F2.1 x (by omega)).1, (F2.1 x (by omega)).2.1⟩, e7 52 (by decide), e7 53 (by decide), (e7 21 (by decide)).trans m1.2.2.2.1, m2⟩
end
