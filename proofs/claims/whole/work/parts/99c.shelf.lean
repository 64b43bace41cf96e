section
/-! ===== shelves: their readers on both sides ===== -/
variable {X : XS} {σ : ST} {A : AW} {H : SHV}
theorem hI_z (q : Nat) : hI (q + 1) = nI q := rfl
theorem hI_t : ∀ q : Fin 105, decide (hI q.1 < nI 100) = decide (q.1 < 101) ∧ decide (hI q.1 = -1) = decide (q.1 = 0) ∧ decide (hI q.1 < 0) = decide (q.1 = 0) := by decide +kernel
theorem hI_100 {q : Nat} (h : q ≤ 104) : hI q < nI 100 ↔ q < 101 := decide_eq_decide.mp (hI_t ⟨q, by omega⟩).1
theorem hI_m1 {q : Nat} (h : q ≤ 104) : hI q = -1 ↔ q = 0 := decide_eq_decide.mp (hI_t ⟨q, by omega⟩).2.1
theorem hI_0 {q : Nat} (h : q ≤ 104) : hI q < 0 ↔ q = 0 := decide_eq_decide.mp (hI_t ⟨q, by omega⟩).2.2
theorem c_isShelf (x : Int32) : f_X11_isShelf x σ = some (b2 (inR x 8), σ) := by
  unfold f_X11_isShelf
  rw [in_g, b2_g]
theorem m_isShelf (x : Int32) : f_X12_isShelf x σ = some (b2 (inR x 8), σ) := by
  unfold f_X12_isShelf
  rw [in_g, b2_g]
theorem c_holdsRow (o : HOK A H) (c : SHC H σ) {s : Nat} (hs : s < 8) : f_X7_holdsRow (231 + 2 * s) σ = some (b2 (decide (101 ≤ hq H s)), σ) := by
  have q := (o s hs).2.1
  unfold f_X7_holdsRow
  rw [(c s hs).1]
  by_cases w : hq H s < 101
  · rw [if_pos ((hI_100 q).mpr w), decide_eq_false (by omega)]; rfl
  · rw [if_neg (fun z => w ((hI_100 q).mp z)), decide_eq_true (by omega)]; rfl
theorem c_holdsPiece (o : HOK A H) (c : SHC H σ) {s : Nat} (hs : s < 8) : f_X7_holdsPiece (231 + 2 * s) σ = some (b2 (decide (1 ≤ hq H s ∧ hq H s < 101)), σ) := by
  have q := (o s hs).2.1
  unfold f_X7_holdsPiece
  rw [(c s hs).1]
  by_cases w0 : hq H s = 0
  · rw [if_pos ((hI_m1 q).mpr w0), decide_eq_false (by omega)]; rfl
  · rw [if_neg (fun z => w0 ((hI_m1 q).mp z))]
    by_cases w : hq H s < 101
    · rw [if_pos ((hI_100 q).mpr w), decide_eq_true (by omega)]; rfl
    · rw [if_neg (fun z => w ((hI_100 q).mp z)), decide_eq_false (by omega)]; rfl
theorem m_isRow (o : HOK A H) (m : SHM H σ) {s : Nat} (hs : s < 8) : f_X12_isRow (nI s) σ = some (b2 (decide (101 ≤ hq H s)), σ) := by
  have q := (o s hs).2.1
  unfold f_X12_isRow
  rw [rdI_ok hs (by decide), (m s hs).1]
  simp only [bind_s]
  by_cases w : hq H s < 101
  · rw [if_pos ((hI_100 q).mpr w), decide_eq_false (by omega)]; rfl
  · rw [if_neg (fun z => w ((hI_100 q).mp z)), decide_eq_true (by omega)]; rfl
theorem m_holdsPiece (o : HOK A H) (m : SHM H σ) {s : Nat} (hs : s < 8) : f_X12_holdsPiece (nI s) σ = some (b2 (decide (1 ≤ hq H s ∧ hq H s < 101)), σ) := by
  have q := (o s hs).2.1
  unfold f_X12_holdsPiece
  rw [rdI_ok hs (by decide), (m s hs).1]
  simp only [bind_s]
  by_cases w0 : hq H s = 0
  · rw [if_pos ((hI_0 q).mpr w0), decide_eq_false (by omega)]; rfl
  · rw [if_neg (fun z => w0 ((hI_0 q).mp z))]
    by_cases w : hq H s < 101
    · rw [if_pos ((hI_100 q).mpr w), decide_eq_true (by omega)]; rfl
    · rw [if_neg (fun z => w ((hI_100 q).mp z)), decide_eq_false (by omega)]; rfl
/-- why the row in a shelf can't be had -/
def rt (H : SHV) (s : Nat) : Int32 := if 101 ≤ hq H s then nI 0 else if hq H s = 0 then -3 else -2
theorem c_rowTrouble (o : HOK A H) (c : SHC H σ) {s : Nat} (hs : s < 8) : f_X11_rowTrouble (nI s) σ = some (rt H s, σ) := by
  unfold f_X11_rowTrouble rt
  rw [c_isShelf, guardT hs (by decide), bd2_s, if_neg b2t0, ixR_ok hs (by decide)]
  simp only [bind_s]
  rw [c_holdsRow o c hs, bd2_s]
  by_cases w : 101 ≤ hq H s
  · rw [decide_eq_true w, if_neg b2t0, if_pos w]
  · rw [decide_eq_false w, if_pos b2f0, if_neg w, c_holdsPiece o c hs, bd2_s]
    by_cases w0 : hq H s = 0
    · rw [decide_eq_false (by omega), if_pos b2f0, if_pos w0]
    · rw [decide_eq_true (by omega), if_neg b2t0, if_neg w0]
theorem c_rowTrouble_no {x : Int32} (h : inR x 8 = false) : f_X11_rowTrouble x σ = some (-1, σ) := by
  unfold f_X11_rowTrouble
  rw [c_isShelf, h, bd2_s, if_pos b2f0]
theorem m_noRow (o : HOK A H) (m : SHM H σ) {s : Nat} (hs : s < 8) : f_X12_noRow (nI s) σ = some (rt H s, σ) := by
  have q := (o s hs).2.1
  unfold f_X12_noRow rt
  rw [m_isShelf, guardT hs (by decide), bd2_s, if_neg b2t0, rdI_ok hs (by decide), (m s hs).1]
  simp only [bind_s]
  by_cases w0 : hq H s = 0
  · rw [if_pos ((hI_0 q).mpr w0), if_neg (by omega), if_pos w0]
  · rw [if_neg (fun z => w0 ((hI_0 q).mp z)), m_isRow o m hs, bd2_s]
    by_cases w : 101 ≤ hq H s
    · rw [decide_eq_true w, if_neg b2t0, if_pos w]
    · rw [decide_eq_false w, if_pos b2f0, if_neg w, if_neg w0]
theorem m_noRow_no {x : Int32} (h : inR x 8 = false) : f_X12_noRow x σ = some (-1, σ) := by
  unfold f_X12_noRow
  rw [m_isShelf, h, bd2_s, if_pos b2f0]
theorem rt_or (H : SHV) (s : Nat) : rt H s = nI 0 ∧ 101 ≤ hq H s ∨ ∃ j, 1 ≤ j ∧ j < 8 ∧ -(rt H s) = nI j ∧ rt H s < 0 ∧ ¬ rt H s = 0 := by
  unfold rt
  by_cases w : 101 ≤ hq H s
  · rw [if_pos w]; exact Or.inl ⟨rfl, w⟩
  · rw [if_neg w]
    by_cases w0 : hq H s = 0
    · rw [if_pos w0]; exact Or.inr ⟨3, by decide, by decide, by decide, by decide, by decide⟩
    · rw [if_neg w0]; exact Or.inr ⟨2, by decide, by decide, by decide, by decide, by decide⟩
/-! a change of shelves -/
def xH (X : XS) (H : SHV) : XS := (X.1, H, X.2.2)
theorem XC_sh {s : ST} (o : XO X) (m : XC X σ) (F : Fr (fun y => 231 ≤ y ∧ y ≤ 246) σ s) (c : SHC H s) : XC (xH X H) s := by
  obtain ⟨m1, m2, m3, m4, m5, ⟨m6, m7⟩, m8⟩ := m
  refine ⟨CR_fr o.1 m1 F (fun x hx => by omega), CI_fw m2 F (fun y hy => by omega), c, fun i h1 h2 => by rw [F.I (by omega)]; exact m4 i h1 h2, by rw [F.I (by omega)]; exact m5, ⟨by rw [F.I (by omega)]; exact m6, fun i hi => by rw [F.I (by omega)]; exact m7 i hi⟩, IC_eq o.2.2.2 m8 (F.I (by omega) _) (Sm_fr F (fun x hx => by omega)) (VB_fr m8.2 F (fun y hy => by omega))⟩
theorem XM_sh {s : ST} (m : XM X σ) (F : Fr (fun y => 263 ≤ y ∧ y ≤ 265) σ s) (c : SHM H s) : XM (xH X H) s := by
  obtain ⟨m1, m2, m3, m4, ⟨m5, m6⟩, m7⟩ := m
  exact ⟨MR_eq m1 (F.I (by omega) _) (F.I (by omega) _) (F.I (by omega) _) (fun y h1 h2 => (F.1 y (by omega)).1), c, fun i h1 h2 => by rw [F.I (by omega)]; exact m3 i h1 h2, by rw [F.I (by omega)]; exact m4, ⟨by rw [F.I (by omega)]; exact m5, fun i hi => by rw [F.I (by omega)]; exact m6 i hi⟩, IM_eq m7 (F.I (by omega) _) (fun x h1 h2 => (F.1 x (by omega)).1)⟩
theorem OUT_sh {α : Type} {c m : ST → Option (α × ST)} {s : ST} {v : α} (h : XR X σ) (o : HOK X.1 H) (e : c σ = some (v, s)) (F : Fr (fun y => 231 ≤ y ∧ y ≤ 246) σ s) (hc : SHC H s) (hm : XM X s → ∃ u, m s = some (v, u) ∧ Fr (fun y => 263 ≤ y ∧ y ≤ 265) s u ∧ SHM H u) : OUT c m σ :=
  OUT_mk (X' := xH X H) h ⟨h.1.1, o, h.1.2.2⟩ e (XC_sh h.1 h.2.1 F hc) (FrC_w F (fun y hy => by omega)) (fun m1 => by
    obtain ⟨u, e2, F2, s2⟩ := hm m1
    exact ⟨u, e2, XM_sh m1 F2 s2, Fr.mono F2 (fun y hy => by omega)⟩)
def hSet (H : SHV) (s q n : Nat) (f : Nat → Int64) : SHV := (fun i => if i = s then q else H.1 i, fun i => if i = s then n else H.2.1 i, fun i => if i = s then f else H.2.2 i)
theorem hS_at (H : SHV) (s q n : Nat) (f : Nat → Int64) : hq (hSet H s q n f) s = q ∧ hn (hSet H s q n f) s = n ∧ ∀ j, hv (hSet H s q n f) s j = f j := by
  unfold hSet hq hn hv
  simp
theorem hS_ne (H : SHV) {s i : Nat} (q n : Nat) (f : Nat → Int64) (h : i ≠ s) : hq (hSet H s q n f) i = hq H i ∧ hn (hSet H s q n f) i = hn H i ∧ ∀ j, hv (hSet H s q n f) i j = hv H i j := by
  unfold hSet hq hn hv
  simp [h]
theorem HOK_set (o : HOK A H) {s q n : Nat} {f : Nat → Int64} (h1 : n ≤ 60) (h2 : q ≤ 104) (h3 : q < 101 → n = 0 ∧ q ≤ nP A) : HOK A (hSet H s q n f) := by
  intro i hi
  by_cases e : i = s
  · subst e
    obtain ⟨e1, e2, -⟩ := hS_at H i q n f
    rw [e1, e2]; exact ⟨h1, h2, h3⟩
  · obtain ⟨e1, e2, -⟩ := hS_ne H q n f e
    rw [e1, e2]; exact o i hi
theorem SHC_set {u : ST} (c : SHC H σ) {s q n : Nat} {f : Nat → Int64} (hs : s < 8) (F : Fr (fun y => y = 231 + 2 * s ∨ y = 231 + 2 * s + 1) σ u) (e0 : u.1 (231 + 2 * s) 0 = hI q) (e1 : u.1 (231 + 2 * s) 1 = nI n) (e2 : ∀ j, j < 60 → u.2.1 (231 + 2 * s + 1) j = f j) : SHC (hSet H s q n f) u := by
  intro i hi
  by_cases e : i = s
  · subst e
    obtain ⟨g1, g2, g3⟩ := hS_at H i q n f
    rw [g1, g2]
    exact ⟨e0, e1, fun j hj => by rw [g3]; exact e2 j hj⟩
  · obtain ⟨g1, g2, g3⟩ := hS_ne H q n f e
    rw [g1, g2, F.I (by omega), F.I (by omega)]
    exact ⟨(c i hi).1, (c i hi).2.1, fun j hj => by rw [g3, F.J (by omega)]; exact (c i hi).2.2 j hj⟩
theorem SHM_set {u : ST} (c : SHM H σ) {s q n : Nat} {f : Nat → Int64} (hs : s < 8) (F3 : ∀ i, i ≠ s → u.1 263 i = σ.1 263 i) (F4 : ∀ i, i ≠ s → u.1 264 i = σ.1 264 i) (F5 : ∀ j, j < 60 * s ∨ 60 * s + 60 ≤ j → u.2.1 265 j = σ.2.1 265 j) (e0 : u.1 263 s = hI q) (e1 : 101 ≤ q → u.1 264 s = nI n) (e2 : ∀ j, j < 60 → u.2.1 265 (60 * s + j) = f j) : SHM (hSet H s q n f) u := by
  intro i hi
  by_cases e : i = s
  · subst e
    obtain ⟨g1, g2, g3⟩ := hS_at H i q n f
    rw [g1, g2]
    exact ⟨e0, e1, fun j hj => by rw [g3]; exact e2 j hj⟩
  · obtain ⟨g1, g2, g3⟩ := hS_ne H q n f e
    rw [g1, g2, F3 i e, F4 i e]
    exact ⟨(c i hi).1, (c i hi).2.1, fun j hj => by rw [g3, F5 _ (by omega)]; exact (c i hi).2.2 j hj⟩
end
section
/-! ===== shelves: row, show, holds, element ===== -/
variable {X : XS} {σ : ST} {A : AW} {H : SHV}
theorem t_fillJ {a : Nat} : ∃ s, f_J7_fill_d0a16 a 60 0 σ = some s ∧ Fr (fun y => y = a) σ s ∧ s.1 = σ.1 ∧ ∀ j, j < 60 → s.2.1 a j = 0 := by
  unfold f_J7_fill_d0a16
  refine Exists.elim (loopE (fun n i s => f_J7_fill_d0a16_6 a 60 n 0 (nI i) (nI 60) s) 60 (fun i s => Fr (fun y => y = a) σ s ∧ s.1 = σ.1 ∧ ∀ j, j < i → s.2.1 a j = 0) (fun s => some s) ?_ ?_ FU 0 σ (by rw [FU_eq]; omega) (Nat.zero_le _) ⟨Fr.rf _ _, rfl, fun j hj => by omega⟩) ?_
  · rintro n i s hi ⟨F, e1, e2⟩ Q hQ
    show ∃ y, f_J7_fill_d0a16_6 a 60 (n + 1) 0 (nI i) (nI 60) s = f_J7_fill_d0a16_6 a 60 n 0 (nI (i + 1)) (nI 60) y ∧ _
    rw [f_J7_fill_d0a16_6, if_pos ((nI_ltI (by omega) (by omega)).mpr hi), wrJ_ok hi (by decide)]
    simp only [bind_s]
    rw [nI_add]
    refine ⟨_, rfl, hQ _ ⟨F.tr (Fr_setJ rfl), by rw [I_setJ]; exact e1, fun j hj => ?_⟩⟩
    by_cases e : j = i
    · subst e; rw [J_at]
    · rw [J_ne (Or.inr e)]; exact e2 j (by omega)
  · rintro n s -
    show f_J7_fill_d0a16_6 a 60 (n + 1) 0 (nI 60) (nI 60) s = _
    rw [f_J7_fill_d0a16_6, if_neg (by decide)]
  · rintro s ⟨e, F, e1, e2⟩
    exact ⟨s, e, F, e1, e2⟩
theorem t_mrow74 {s : Nat} (hs : s < 8) : ∃ u, f_X12_row_74 FU (nI s) (nI 0) σ = some (nI 1, u) ∧ Fr (fun y => y = 265) σ u ∧ (∀ j, j < 60 * s ∨ 60 * s + 60 ≤ j → u.2.1 265 j = σ.2.1 265 j) ∧ ∀ j, j < 60 → u.2.1 265 (60 * s + j) = 0 := by
  refine Exists.elim (loopE (fun n i u => f_X12_row_74 n (nI s) (nI i) u) 60 (fun i u => Fr (fun y => y = 265) σ u ∧ (∀ j, j < 60 * s ∨ 60 * s + 60 ≤ j → u.2.1 265 j = σ.2.1 265 j) ∧ ∀ j, j < i → u.2.1 265 (60 * s + j) = 0) (fun u => some (nI 1, u)) ?_ ?_ FU 0 σ (by rw [FU_eq]; omega) (Nat.zero_le _) ⟨Fr.rf _ _, fun _ _ => rfl, fun j hj => by omega⟩) ?_
  · rintro n i u hi ⟨F, e1, e2⟩ Q hQ
    show ∃ y, f_X12_row_74 (n + 1) (nI s) (nI i) u = f_X12_row_74 n (nI s) (nI (i + 1)) y ∧ _
    rw [f_X12_row_74, if_pos ((nI_ltI (by omega) (by omega)).mpr hi), nI_mul, nI_add, wrJ_ok (show 60 * s + i < 480 by omega) (by decide)]
    simp only [bind_s]
    rw [nI_add]
    refine ⟨_, rfl, hQ _ ⟨F.tr (Fr_setJ rfl), fun j hj => ?_, fun j hj => ?_⟩⟩
    · rw [J_ne (Or.inr (by omega))]; exact e1 j hj
    · by_cases e : j = i
      · subst e; rw [J_at]
      · rw [J_ne (Or.inr (by omega))]; exact e2 j (by omega)
  · rintro n u -
    show f_X12_row_74 (n + 1) _ (nI 60) u = _
    rw [f_X12_row_74, if_neg (by decide)]
  · rintro u ⟨e, F, e1, e2⟩
    exact ⟨u, e, F, e1, e2⟩
theorem lt4 {y : Int32} (h0 : ¬ y < 0) (h3 : ¬ nI 3 < y) : ∃ k, k ≤ 3 ∧ y = nI k := by
  obtain ⟨k, hk, rfl⟩ := nI_of h0
  exact ⟨k, Classical.byContradiction fun w => h3 ((nI_ltI (by omega) hk).mpr (by omega)), rfl⟩
theorem lt60 {y : Int32} (h0 : ¬ y < 0) (h3 : ¬ nI 60 < y) : ∃ k, k ≤ 60 ∧ y = nI k := by
  obtain ⟨k, hk, rfl⟩ := nI_of h0
  exact ⟨k, Classical.byContradiction fun w => h3 ((nI_ltI (by omega) hk).mpr (by omega)), rfl⟩
theorem q_row (h : XR X σ) (x y z : Int32) : OUT (f_X11_row x y z) (f_X12_row x y z) σ := by
  cases g1 : inR x 8 with
  | false => exact OUT_ref h (j := 1) (by decide) (by decide) (by unfold f_X11_row; rw [c_isShelf, g1, bd2_s, if_pos b2f0, c_refuse (j := 1) (by decide) (by decide), bd2_s]) (fun s m => by unfold f_X12_row; rw [m_isShelf, g1, bd2_s, if_pos b2f0, m_no (j := 1) (by decide) (by decide), bd2_s])
  | true =>
    obtain ⟨s, hs, rfl⟩ := inR_of g1 (by decide)
    by_cases g2 : z < 0
    · exact OUT_ref h (j := 4) (by decide) (by decide) (by unfold f_X11_row; rw [c_isShelf, g1, bd2_s, if_neg b2t0, if_pos g2, c_refuse (j := 4) (by decide) (by decide), bd2_s]) (fun s m => by unfold f_X12_row; rw [m_isShelf, g1, bd2_s, if_neg b2t0, if_pos g2, m_no (j := 4) (by decide) (by decide), bd2_s])
    by_cases g3 : y < 0
    · exact OUT_ref h (j := 6) (by decide) (by decide) (by unfold f_X11_row; rw [c_isShelf, g1, bd2_s, if_neg b2t0, if_neg g2, if_pos g3, c_refuse (j := 6) (by decide) (by decide), bd2_s]) (fun s m => by unfold f_X12_row; rw [m_isShelf, g1, bd2_s, if_neg b2t0, if_neg g2, if_pos g3, m_no (j := 6) (by decide) (by decide), bd2_s])
    by_cases g4 : nI 3 < y
    · exact OUT_ref h (j := 6) (by decide) (by decide) (by unfold f_X11_row; rw [c_isShelf, g1, bd2_s, if_neg b2t0, if_neg g2, if_neg g3, if_pos g4, c_refuse (j := 6) (by decide) (by decide), bd2_s]) (fun s m => by unfold f_X12_row; rw [m_isShelf, g1, bd2_s, if_neg b2t0, if_neg g2, if_neg g3, if_pos g4, m_no (j := 6) (by decide) (by decide), bd2_s])
    by_cases g5 : nI 60 < z
    · exact OUT_ref h (j := 7) (by decide) (by decide) (by unfold f_X11_row; rw [c_isShelf, g1, bd2_s, if_neg b2t0, if_neg g2, if_neg g3, if_neg g4, if_pos g5, c_refuse (j := 7) (by decide) (by decide), bd2_s]) (fun s m => by unfold f_X12_row; rw [m_isShelf, g1, bd2_s, if_neg b2t0, if_neg g2, if_neg g3, if_neg g4, if_pos g5, m_no (j := 7) (by decide) (by decide), bd2_s])
    obtain ⟨k, hk, rfl⟩ := lt4 g3 g4
    obtain ⟨l, hl, rfl⟩ := lt60 g2 g5
    obtain ⟨s2, e2, F2, i2, z2⟩ := t_fillJ (σ := setI (setI σ (231 + 2 * s) 0 (nI (100 + k))) (231 + 2 * s) 1 (nI l)) (a := 231 + 2 * s + 1)
    have F : Fr (fun y => y = 231 + 2 * s ∨ y = 231 + 2 * s + 1) σ s2 := ((Fr_setI (Or.inl rfl)).tr (Fr_setI (Or.inl rfl))).tr (F2.mono (fun y hy => Or.inr hy))
    refine OUT_sh (H := hSet X.2.1 s (101 + k) l (fun _ => 0)) (s := s2) (v := nI 1) h (HOK_set h.1.2.1 hl (by omega) (by omega)) ?_ (F.mono (fun y hy => by omega)) (SHC_set h.2.1.2.2.1 hs F ?_ ?_ z2) (fun m1 => ?_)
    · unfold f_X11_row f_X7_takeRow
      rw [c_isShelf, g1, bd2_s, if_neg b2t0, if_neg g2, if_neg g3, if_neg g4, if_neg g5, ixR_ok hs (by decide)]
      simp only [bind_s, pfI_s, nI_add]
      rw [e2]
      simp only [bind_s]
    · rw [i2, I_ne (Or.inr (by decide)), I_at]
      rw [show 101 + k = 100 + k + 1 by omega, hI_z]
    · rw [i2, I_at]
    · obtain ⟨u, e3, F3, o3, z3⟩ := t_mrow74 (σ := setI (setI s2 263 s (nI (100 + k))) 264 s (nI l)) hs
      have Fu : Fr (fun y => 263 ≤ y ∧ y ≤ 265) s2 u := ((Fr_setI (by omega)).tr (Fr_setI (by omega))).tr (F3.mono (fun y hy => by omega))
      refine ⟨u, ?_, Fu, SHM_set m1.2.1 hs (fun i hi => ?_) (fun i hi => ?_) (fun j hj => ?_) ?_ (fun _ => ?_) z3⟩
      · unfold f_X12_row
        rw [m_isShelf, g1, bd2_s, if_neg b2t0, if_neg g2, if_neg g3, if_neg g4, if_neg g5, nI_add, wrI_ok hs (by decide)]
        simp only [bind_s]
        rw [wrI_ok hs (by decide)]
        simp only [bind_s]
        rw [e3]
      · rw [F3.I (by decide), I_ne (Or.inl (by decide)), I_ne (Or.inr hi)]
      · rw [F3.I (by decide), I_ne (Or.inr hi), I_ne (Or.inl (by decide))]
      · rw [o3 j hj]; rfl
      · rw [F3.I (by decide), I_ne (Or.inl (by decide)), I_at]
        rw [show 101 + k = 100 + k + 1 by omega, hI_z]
      · rw [F3.I (by decide), I_at]
theorem q_holds (h : XR X σ) (x : Int32) : OUT (f_X11_holds x) (f_X12_holds x) σ := by
  cases g1 : inR x 8 with
  | false => exact OUT_same h (v := -1) (by unfold f_X11_holds; rw [c_isShelf, g1, bd2_s, if_pos b2f0]) (by unfold f_X12_holds; rw [m_isShelf, g1, bd2_s, if_pos b2f0])
  | true =>
    obtain ⟨s, hs, rfl⟩ := inR_of g1 (by decide)
    refine OUT_same h (v := hI (hq X.2.1 s)) ?_ ?_
    · unfold f_X11_holds
      rw [c_isShelf, g1, bd2_s, if_neg b2t0, ixR_ok hs (by decide)]
      simp only [bind_s]
      rw [(h.2.1.2.2.1 s hs).1]
    · unfold f_X12_holds
      rw [m_isShelf, g1, bd2_s, if_neg b2t0, rdI_ok hs (by decide)]
      simp only [bind_s]
      rw [(h.2.2.2.1 s hs).1]
theorem q_fault (h : XR X σ) : OUT f_X11_fault f_X12_fault σ :=
  OUT_same h (v := X.2.2.2.1) (by unfold f_X11_fault; rw [h.2.1.2.2.2.2.1]) (by unfold f_X12_fault; rw [h.2.2.2.2.2.1])
theorem t_has (c : SHC H σ) {s : Nat} (hs : s < 8) (y : Int32) : f_X7_has (231 + 2 * s) y σ = some (b2 (inR y (hn H s)), σ) := by
  unfold f_X7_has
  rw [(c s hs).2.1, in_g, b2_g]
theorem t_cellAt (o : HOK A H) (c : SHC H σ) {s : Nat} (hs : s < 8) (y : Int32) : f_X7_cellAt (231 + 2 * s) y σ = some (if inR y (hn H s) = true then hv H s y.toNatClampNeg else 0, σ) := by
  have l := (o s hs).1
  unfold f_X7_cellAt
  rw [t_has c hs, bd2_s]
  cases g : inR y (hn H s) with
  | false => rw [if_pos b2f0, if_neg (by decide)]
  | true =>
    obtain ⟨j, hj, rfl⟩ := inR_of g (by omega)
    rw [if_neg b2t0, rdJ_ok (show j < 60 by omega) (by decide), if_pos rfl, nI_cl (by omega)]
    simp only [bind_s]
    rw [(c s hs).2.2 j (by omega)]
theorem q_element (h : XR X σ) (x y : Int32) : OUT (f_X11_element x y) (f_X12_element x y) σ := by
  have o := h.1.2.1
  have c := h.2.1.2.2.1
  have m := h.2.2.2.1
  cases g1 : inR x 8 with
  | false => exact OUT_same h (v := 0) (by unfold f_X11_element; rw [c_isShelf, g1, bd2_s, if_pos b2f0]) (by unfold f_X12_element; rw [m_isShelf, g1, bd2_s, if_pos b2f0])
  | true =>
    obtain ⟨s, hs, rfl⟩ := inR_of g1 (by decide)
    have l := (o s hs)
    refine OUT_same h (v := if inR y (hn X.2.1 s) = true then hv X.2.1 s y.toNatClampNeg else 0) ?_ ?_
    · unfold f_X11_element
      rw [c_isShelf, g1, bd2_s, if_neg b2t0, ixR_ok hs (by decide)]
      simp only [bind_s]
      rw [t_cellAt o c hs, bd2_s]
    · unfold f_X12_element
      rw [m_isShelf, g1, bd2_s, if_neg b2t0, m_isRow o m hs, bd2_s]
      by_cases w : 101 ≤ hq X.2.1 s
      · rw [decide_eq_true w, if_neg b2t0]
        cases g : inR y (hn X.2.1 s) with
        | false =>
          rw [if_neg (show ¬ false = true by decide)]
          by_cases y0 : y < 0
          · rw [if_pos y0]
          · rw [if_neg y0, rdI_ok hs (by decide)]
            simp only [bind_s]
            rw [(m s hs).2.1 w]
            by_cases yl : y < nI (hn X.2.1 s)
            · rw [inR_t y0 (Int32.not_le.mpr yl)] at g; cases g
            · rw [if_neg yl]
        | true =>
          obtain ⟨j, hj, rfl⟩ := inR_of g (by omega)
          rw [if_neg (nI_pos (by omega)), rdI_ok hs (by decide)]
          simp only [bind_s]
          rw [(m s hs).2.1 w, if_pos ((nI_ltI (by omega) (by omega)).mpr hj), nI_mul, nI_add, rdJ_ok (show 60 * s + j < 480 by omega) (by decide), if_pos trivial, nI_cl (by omega)]
          simp only [bind_s]
          rw [(m s hs).2.2 j (by omega)]
      · have n0 : hn X.2.1 s = 0 := (l.2.2 (by omega)).1
        have g : inR y (hn X.2.1 s) = false := by
          rw [n0]
          by_cases y0 : y < 0
          · exact inR_f1 y0
          · exact inR_f2 (Int32.not_lt.mp y0)
        rw [decide_eq_false w, if_pos b2f0, g, if_neg (by decide)]
theorem q_show (h : XR X σ) (x y : Int32) : OUT (f_X11_show x y) (f_X12_show x y) σ := by
  have hP := h.1.1.1.2.2
  cases g1 : inR x 8 with
  | false => exact OUT_ref h (j := 1) (by decide) (by decide) (by unfold f_X11_show; rw [c_isShelf, g1, bd2_s, if_pos b2f0, c_refuse (j := 1) (by decide) (by decide), bd2_s]) (fun s m => by unfold f_X12_show; rw [m_isShelf, g1, bd2_s, if_pos b2f0, m_no (j := 1) (by decide) (by decide), bd2_s])
  | true =>
    obtain ⟨s, hs, rfl⟩ := inR_of g1 (by decide)
    have go : ∀ (q : Nat) (v : Int32), q ≤ nP X.1 → y = hI q → v = (if q = 0 then nI 0 else nI 1) → f_X11_show (nI s) y σ = f_X11_show_29 (nI s) y σ → (∀ u, XM X u → f_X12_show (nI s) y u = f_X12_show_27 (nI s) y u) → OUT (f_X11_show (nI s) y) (f_X12_show (nI s) y) σ := by
      intro q v hq' hy hvv e1 e2
      have F : Fr (fun y => y = 231 + 2 * s ∨ y = 231 + 2 * s + 1) σ (setI (setI σ (231 + 2 * s) 0 y) (231 + 2 * s) 1 (nI 0)) := (Fr_setI (Or.inl rfl)).tr (Fr_setI (Or.inl rfl))
      refine OUT_sh (H := hSet X.2.1 s q 0 (hv X.2.1 s)) (s := setI (setI σ (231 + 2 * s) 0 y) (231 + 2 * s) 1 (nI 0)) (v := v) h (HOK_set h.1.2.1 (by omega) (by omega) (fun _ => ⟨rfl, hq'⟩)) ?_ (F.mono (fun y hy => by omega)) (SHC_set h.2.1.2.2.1 hs F ?_ ?_ ?_) (fun m1 => ?_)
      · rw [e1]
        unfold f_X11_show_29 f_X7_takePiece
        rw [ixR_ok hs (by decide)]
        simp only [bind_s, pfI_s]
        by_cases w : q = 0
        · rw [if_pos (by rw [hy]; exact (hI_m1 (by omega)).mpr w), hvv, if_pos w]
        · rw [if_neg (by rw [hy]; exact fun z => w ((hI_m1 (by omega)).mp z)), hvv, if_neg w]
      · rw [I_ne (Or.inr (by decide)), I_at, hy]
      · rw [I_at]
      · intro j hj
        rw [J_setI, J_setI]
        exact (h.2.1.2.2.1 s hs).2.2 j hj
      · refine ⟨setI (setI (setI σ (231 + 2 * s) 0 y) (231 + 2 * s) 1 (nI 0)) 263 s y, ?_, Fr_setI (by omega), SHM_set m1.2.1 hs (fun i hi => I_ne (Or.inr hi)) (fun i hi => I_ne (Or.inl (by decide))) (fun j hj => by rw [J_setI]) (by rw [I_at, hy]) (fun z => by omega) (fun j hj => ?_)⟩
        · rw [e2 _ m1]
          unfold f_X12_show_27
          rw [wrI_ok hs (by decide)]
          simp only [bind_s]
          by_cases w : q = 0
          · rw [if_pos (by rw [hy]; exact (hI_0 (by omega)).mpr w), hvv, if_pos w]
          · rw [if_neg (by rw [hy]; exact fun z => w ((hI_0 (by omega)).mp z)), hvv, if_neg w]
        · rw [J_setI]
          exact (m1.2.1 s hs).2.2 j hj
    by_cases g2 : y = -1
    · refine go 0 (nI 0) (Nat.zero_le _) g2 rfl ?_ (fun u mu => ?_)
      · unfold f_X11_show
        rw [c_isShelf, g1, bd2_s, if_neg b2t0, if_pos g2]
      · unfold f_X12_show
        rw [m_isShelf, g1, bd2_s, if_neg b2t0, if_pos g2]
    · cases g3 : inR y (nP X.1) with
      | false =>
        refine OUT_ref h (v := -1) (j := 1) (by decide) (by decide) ?_ (fun s m => ?_)
        · unfold f_X11_show
          rw [c_isShelf, g1, bd2_s, if_neg b2t0, if_neg g2, t_pieceAt_no h.2.1.1 g3, bd2_s, nl_n, c_refuse (j := 1) (by decide) (by decide), bd2_s]
        · unfold f_X12_show
          rw [m_isShelf, g1, bd2_s, if_neg b2t0, if_neg g2, t_isPiece m.1, g3, bd2_s, if_pos b2f0, m_no (j := 1) (by decide) (by decide), bd2_s]
      | true =>
        obtain ⟨k, hk, rfl⟩ := inR_of g3 (by omega)
        refine go (k + 1) (nI 1) (by omega) (hI_z k).symm (by rw [if_neg (by omega)]) ?_ (fun u mu => ?_)
        · obtain ⟨q, e, -⟩ := t_pieceAt h.1.1 h.2.1.1 hk
          unfold f_X11_show
          rw [c_isShelf, g1, bd2_s, if_neg b2t0, if_neg g2, e, bd2_s, nl_s]
        · unfold f_X12_show
          rw [m_isShelf, g1, bd2_s, if_neg b2t0, if_neg g2, t_isPiece mu.1, g3, bd2_s, if_neg b2t0]
end
