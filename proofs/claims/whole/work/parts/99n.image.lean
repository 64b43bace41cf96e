section
/-! ===== the class copies a world ===== -/
variable {A B : AW} {X : XS} {σ : ST} {H : SHV} {a0 a1 : Nat}
theorem CMr_congr {r1 r2 r3 r4 q1 q2 q3 q4 : Nat → Int32} {n so run : Nat} (hn : n ≤ 30) (e : ∀ i, i < 30 → q1 i = r1 i ∧ q2 i = r2 i ∧ q3 i = r3 i ∧ q4 i = r4 i) : CMr q1 q2 q3 q4 n so run = CMr r1 r2 r3 r4 n so run := by
  unfold CMr
  congr 1
  refine anyN_congr (fun i hi => ?_)
  obtain ⟨e1, e2, e3, e4⟩ := e i (by omega)
  unfold mt
  rw [e1, e2, e3, e4]
theorem CC_to {s : ST} {c d : Nat} {g : Nat → Nat → Bool} (h : CC σ c g) (e0 : s.1 d 0 = σ.1 c 0) (e : ∀ i j, 1 ≤ i → i ≤ 4 → j < 30 → s.1 (d + i) j = σ.1 (c + i) j) : CC s d g := by
  obtain ⟨n, h1, h2, h3⟩ := h
  refine ⟨n, h1, e0.trans h2, fun so run h4 h5 => ?_⟩
  rw [CMr_congr h1 (fun i hi => ⟨e 1 i (by omega) (by omega) hi, e 2 i (by omega) (by omega) hi, e 3 i (by omega) (by omega) hi, e 4 i (by omega) (by omega) hi⟩)]
  exact h3 so run h4 h5
theorem cpI_30 {n : Nat} {x y : Nat} (hn : n < 2 ^ 31) (u : ST) : cpI u x n y n (nI 0) (nI 0) (nI n) = some (cpSI u x y 0 0 n) := by
  unfold cpI
  rw [nI_cl (by omega), nI_cl hn, if_pos ⟨⟨by decide, by decide, Int32.not_lt.mp (nI_pos hn)⟩, by omega, by omega⟩]
theorem cpSI_F {x y n : Nat} (u : ST) : Fr (fun z => z = y) u (cpSI u x y 0 0 n) := by
  refine ⟨fun z hz => ⟨?_, rfl, rfl⟩, rfl⟩
  show (if z = y then _ else u.1 z) = u.1 z
  rw [if_neg hz]
theorem cpSI_at {x y n j : Nat} (u : ST) (hj : j < n) : (cpSI u x y 0 0 n).1 y j = u.1 x j := by
  unfold cpSI
  simp only [if_pos]
  rw [pk_cpy_in (Nat.zero_le _) (by omega), Nat.zero_add]
  rfl
theorem t_cbecome (hd : a0 + 5 ≤ a1 ∨ a1 + 5 ≤ a0) : ∃ s, f_X1_become a0 a1 σ = some s ∧ Fr (fun y => a0 ≤ y ∧ y < a0 + 5) σ s ∧ s.1 a0 0 = σ.1 a1 0 ∧ ∀ i j, 1 ≤ i → i ≤ 4 → j < 30 → s.1 (a0 + i) j = σ.1 (a1 + i) j := by
  have c30 : ∀ (u : ST) (x y : Nat), cpI u x 30 y 30 (nI 0) (nI 0) (nI 30) = some (cpSI u x y 0 0 30) := fun u x y => cpI_30 (by decide) u
  unfold f_X1_become
  rw [pfI_s, bind_s, c30, bind_s, c30, bind_s, c30, bind_s, c30, bind_s]
  have F0 : Fr (fun y => a0 ≤ y ∧ y < a0 + 5) σ (setI σ a0 0 (σ.1 a1 0)) := Fr_setI (by omega)
  generalize hs0 : setI σ a0 0 (σ.1 a1 0) = s0 at *
  have v0 : s0.1 a0 0 = σ.1 a1 0 := by rw [← hs0, I_at]
  have G1 := cpSI_F (x := a1 + 1) (y := a0 + 1) (n := 30) s0
  have A1 := fun j (hj : j < 30) => cpSI_at (x := a1 + 1) (y := a0 + 1) s0 hj
  generalize cpSI s0 (a1 + 1) (a0 + 1) 0 0 30 = s1 at *
  have G2 := cpSI_F (x := a1 + 2) (y := a0 + 2) (n := 30) s1
  have A2 := fun j (hj : j < 30) => cpSI_at (x := a1 + 2) (y := a0 + 2) s1 hj
  generalize cpSI s1 (a1 + 2) (a0 + 2) 0 0 30 = s2 at *
  have G3 := cpSI_F (x := a1 + 3) (y := a0 + 3) (n := 30) s2
  have A3 := fun j (hj : j < 30) => cpSI_at (x := a1 + 3) (y := a0 + 3) s2 hj
  generalize cpSI s2 (a1 + 3) (a0 + 3) 0 0 30 = s3 at *
  have G4 := cpSI_F (x := a1 + 4) (y := a0 + 4) (n := 30) s3
  have A4 := fun j (hj : j < 30) => cpSI_at (x := a1 + 4) (y := a0 + 4) s3 hj
  generalize cpSI s3 (a1 + 4) (a0 + 4) 0 0 30 = s4 at *
  refine ⟨s4, rfl, (((F0.tr (G1.mono (fun y hy => by omega))).tr (G2.mono (fun y hy => by omega))).tr (G3.mono (fun y hy => by omega))).tr (G4.mono (fun y hy => by omega)), ?_, fun i j h1 h2 hj => ?_⟩
  · rw [G4.I (by omega), G3.I (by omega), G2.I (by omega), G1.I (by omega), v0]
  · rcases (show i = 1 ∨ i = 2 ∨ i = 3 ∨ i = 4 by omega) with rfl | rfl | rfl | rfl
    · rw [G4.I (by omega), G3.I (by omega), G2.I (by omega), A1 j hj, F0.I (by omega)]
    · rw [G4.I (by omega), G3.I (by omega), A2 j hj, G1.I (by omega), F0.I (by omega)]
    · rw [G4.I (by omega), A3 j hj, G2.I (by omega), G1.I (by omega), F0.I (by omega)]
    · rw [A4 j hj, G3.I (by omega), G2.I (by omega), G1.I (by omega), F0.I (by omega)]
theorem pfZ_v {u : ST} {a k : Nat} {v : Int32} (h : v = 0 ∨ v = 1) : pfZ u a k v = some (setI u a k v) := pfZ_s u a k h
theorem t_lbecome (hd : a0 + 6 ≤ a1 ∨ a1 + 6 ≤ a0) (z3 : σ.1 a1 3 = 0 ∨ σ.1 a1 3 = 1) (z5 : σ.1 a1 5 = 0 ∨ σ.1 a1 5 = 1) : ∃ s, f_X3_become a0 a1 σ = some s ∧ Fr (fun y => a0 ≤ y ∧ y < a0 + 6) σ s ∧ (∀ k, 1 ≤ k → k ≤ 5 → s.1 a0 k = σ.1 a1 k) ∧ s.1 (a0 + 1) 0 = σ.1 (a1 + 1) 0 ∧ ∀ i j, 1 ≤ i → i ≤ 4 → j < 30 → s.1 (a0 + 1 + i) j = σ.1 (a1 + 1 + i) j := by
  obtain ⟨s, e, F, v0, v1⟩ := t_cbecome (σ := σ) (a0 := a0 + 1) (a1 := a1 + 1) (by omega)
  have g : ∀ k, s.1 a1 k = σ.1 a1 k := fun k => F.I (by omega) k
  have nn : a1 ≠ a0 := by omega
  unfold f_X3_become
  rw [e, bind_s, pfI_s, bind_s, pfI_s, bind_s, I_ne (Or.inl nn), g, g]
  rw [I_ne (Or.inl nn), I_ne (Or.inl nn), g, pfZ_v z3, bind_s, pfI_s, bind_s]
  rw [I_ne (Or.inl nn), I_ne (Or.inl nn), I_ne (Or.inl nn), g]
  rw [I_ne (Or.inl nn), I_ne (Or.inl nn), I_ne (Or.inl nn), I_ne (Or.inl nn), g, pfZ_v z5, bind_s]
  refine ⟨_, rfl, ((((F.mono (fun y hy => by omega)).tr (Fr_setI (by omega))).tr (Fr_setI (by omega))).tr (Fr_setI (by omega))).tr (Fr_setI (by omega)) |>.tr (Fr_setI (by omega)), fun k h1 h2 => ?_, ?_, fun i j h1 h2 hj => ?_⟩
  · rcases (show k = 1 ∨ k = 2 ∨ k = 3 ∨ k = 4 ∨ k = 5 by omega) with rfl | rfl | rfl | rfl | rfl
    · rw [I_ne (Or.inr (by decide)), I_ne (Or.inr (by decide)), I_ne (Or.inr (by decide)), I_ne (Or.inr (by decide)), I_at]
    · rw [I_ne (Or.inr (by decide)), I_ne (Or.inr (by decide)), I_ne (Or.inr (by decide)), I_at]
    · rw [I_ne (Or.inr (by decide)), I_ne (Or.inr (by decide)), I_at]
    · rw [I_ne (Or.inr (by decide)), I_at]
    · rw [I_at]
  · rw [I_ne (Or.inl (by omega)), I_ne (Or.inl (by omega)), I_ne (Or.inl (by omega)), I_ne (Or.inl (by omega)), I_ne (Or.inl (by omega)), v0]
  · rw [I_ne (Or.inl (by omega)), I_ne (Or.inl (by omega)), I_ne (Or.inl (by omega)), I_ne (Or.inl (by omega)), I_ne (Or.inl (by omega))]
    exact v1 i j h1 h2 hj
theorem t_become (ha : (a0 = 95 ∧ a1 = 2) ∨ (a0 = 2 ∧ a1 = 95)) (vb : VB σ) (b : AOK B) (c : CR a1 B σ) : ∃ s, f_X10_become a0 a1 σ = some s ∧ Fr (fun y => a0 ≤ y ∧ y < a0 + 93) σ s ∧ CR a0 B s ∧ VB s := by
  have hT := b.1.1
  have hH := b.1.2.1
  unfold f_X10_become
  rw [pfI_s, bind_s, pfI_s, bind_s, pfI_s, bind_s, pfI_s, bind_s]
  rw [I_ne (Or.inl (show a1 ≠ a0 by omega)), I_ne (Or.inl (show a1 ≠ a0 by omega)), I_ne (Or.inl (show a1 ≠ a0 by omega)), I_ne (Or.inl (show a1 ≠ a0 by omega))]
  rw [I_ne (Or.inl (show a1 ≠ a0 by omega)), I_ne (Or.inl (show a1 ≠ a0 by omega))]
  have F0 : Fr (fun y => y = a0) σ (setI (setI (setI (setI σ a0 0 (σ.1 a1 0)) a0 1 (σ.1 a1 1)) a0 2 (σ.1 a1 2)) a0 3 (σ.1 a1 3)) := (((Fr_setI (W := fun y => y = a0) rfl).tr (Fr_setI rfl)).tr (Fr_setI rfl)).tr (Fr_setI rfl)
  have v0 : ∀ k, k < 4 → (setI (setI (setI (setI σ a0 0 (σ.1 a1 0)) a0 1 (σ.1 a1 1)) a0 2 (σ.1 a1 2)) a0 3 (σ.1 a1 3)).1 a0 k = σ.1 a1 k := by
    intro k hk
    rcases (show k = 0 ∨ k = 1 ∨ k = 2 ∨ k = 3 by omega) with rfl | rfl | rfl | rfl
    · rw [I_ne (Or.inr (by decide)), I_ne (Or.inr (by decide)), I_ne (Or.inr (by decide)), I_at]
    · rw [I_ne (Or.inr (by decide)), I_ne (Or.inr (by decide)), I_at]
    · rw [I_ne (Or.inr (by decide)), I_at]
    · rw [I_at]
  rw [show setI (setI (setI (setI σ a0 0 (σ.1 a1 0)) a0 1 (σ.1 a1 1)) a0 2 (σ.1 a1 2)) a0 3 (σ.1 a1 3) = setI (setI (setI (setI σ a0 0 (σ.1 a1 0)) a0 1 (σ.1 a1 1)) a0 2 (σ.1 a1 2)) a0 3 (σ.1 a1 3) from rfl]
  generalize setI (setI (setI (setI σ a0 0 (σ.1 a1 0)) a0 1 (σ.1 a1 1)) a0 2 (σ.1 a1 2)) a0 3 (σ.1 a1 3) = s0 at *
  -- things
  refine Exists.elim (loopE (fun n i s => f_X10_become_34 a0 a1 (fun s12 => f_X10_become_87 a0 a1 (fun s16 => f_X10_become_116 a0 a1 FU (nI 0) s16) FU (nI 0) s12) n (nI i) s) 10 (fun i s => Fr (fun y => a0 + 1 ≤ y ∧ y < a0 + 57) s0 s ∧ (∀ y, (a0 + 3 ≤ y ∧ y < a0 + 7) → s.1 y = s0.1 y ∧ s.2.2.1 y = s0.2.2.1 y) ∧ ∀ j, j < i → s.1 (a0 + 1) j = σ.1 (a1 + 1) j ∧ s.1 (a0 + 2) j = σ.1 (a1 + 2) j ∧ ∀ g, CC σ (a1 + 7 + 5 * j) g → CC s (a0 + 7 + 5 * j) g) (fun s => f_X10_become_87 a0 a1 (fun s16 => f_X10_become_116 a0 a1 FU (nI 0) s16) FU (nI 0) s) ?_ ?_ FU 0 s0 (by rw [FU_eq]; omega) (Nat.zero_le _) ⟨Fr.rf _ _, fun _ _ => ⟨rfl, rfl⟩, fun j hj => by omega⟩) ?_
  · rintro n i s hi ⟨F, o, hv⟩ Q hQ
    show ∃ y, f_X10_become_34 a0 a1 _ (n + 1) (nI i) s = f_X10_become_34 a0 a1 _ n (nI (i + 1)) y ∧ _
    rw [f_X10_become_34, if_pos ((nI_ltI (by omega) (by omega)).mpr hi), rdI_ok hi (by decide), bind_s, wrI_ok hi (by decide), bind_s, rdI_ok hi (by decide), bind_s, wrI_ok hi (by decide), bind_s, ixR_ok hi (by decide), bind_s, bind_s]
    obtain ⟨u, e, Fu, u0, u1⟩ := t_cbecome (σ := setI (setI s (a0 + 1) i (s.1 (a1 + 1) i)) (a0 + 2) i ((setI s (a0 + 1) i (s.1 (a1 + 1) i)).1 (a1 + 2) i)) (a0 := a0 + 7 + 5 * i) (a1 := a1 + 7 + 5 * i) (by omega)
    rw [e, bind_s, nI_add]
    have Fs : Fr (fun y => y = a0 + 1 ∨ y = a0 + 2) s (setI (setI s (a0 + 1) i (s.1 (a1 + 1) i)) (a0 + 2) i ((setI s (a0 + 1) i (s.1 (a1 + 1) i)).1 (a1 + 2) i)) := (Fr_setI (Or.inl rfl)).tr (Fr_setI (Or.inr rfl))
    have g : ∀ y k, (a1 ≤ y ∧ y < a1 + 93) → s.1 y k = σ.1 y k := fun y k hy => by rw [F.I (by omega), F0.I (by omega)]
    refine ⟨u, rfl, hQ _ ⟨(F.tr (Fs.mono (fun y hy => by omega))).tr (Fu.mono (fun y hy => by omega)), fun y hy => ⟨by rw [(Fu.1 y (by omega)).1, (Fs.1 y (by omega)).1]; exact (o y hy).1, by rw [(Fu.1 y (by omega)).2.2, (Fs.1 y (by omega)).2.2]; exact (o y hy).2⟩, fun j hj => ?_⟩⟩
    by_cases z : j = i
    · subst z
      refine ⟨?_, ?_, fun g' hg => ?_⟩
      · rw [Fu.I (by omega), I_ne (Or.inl (by omega)), I_at, g _ _ (by omega)]
      · rw [Fu.I (by omega), I_at, I_ne (Or.inl (by omega)), g _ _ (by omega)]
      · refine CC_to hg ?_ (fun k l h1 h2 h3 => ?_)
        · rw [u0, Fs.I (by omega), g _ _ (by omega)]
        · rw [u1 k l h1 h2 h3, Fs.I (by omega), g _ _ (by omega)]
    · obtain ⟨q1, q2, q3⟩ := hv j (by omega)
      refine ⟨?_, ?_, fun g' hg => CC_sm (q3 g' hg) (fun y h1 h2 => ?_)⟩
      · rw [Fu.I (by omega), I_ne (Or.inl (by omega)), I_ne (Or.inr z)]; exact q1
      · rw [Fu.I (by omega), I_ne (Or.inr z), I_ne (Or.inl (by omega))]; exact q2
      · rw [(Fu.1 y (by omega)).1, (Fs.1 y (by omega)).1]
  · rintro n s -
    show f_X10_become_34 a0 a1 _ (n + 1) (nI 10) s = _
    rw [f_X10_become_34, if_neg (by decide)]
  rintro s1 ⟨e1, F1, o1, h1⟩
  rw [e1]
  -- happenings
  refine Exists.elim (loopE (fun n i s => f_X10_become_87 a0 a1 (fun s16 => f_X10_become_116 a0 a1 FU (nI 0) s16) n (nI i) s) 6 (fun i s => Fr (fun y => a0 + 57 ≤ y ∧ y < a0 + 93) s1 s ∧ ∀ j, j < i → (∀ k, 1 ≤ k → k ≤ 5 → s.1 (a0 + 57 + 6 * j) k = σ.1 (a1 + 57 + 6 * j) k) ∧ ∀ g, CC σ (a1 + 57 + 6 * j + 1) g → CC s (a0 + 57 + 6 * j + 1) g) (fun s => f_X10_become_116 a0 a1 FU (nI 0) s) ?_ ?_ FU 0 s1 (by rw [FU_eq]; omega) (Nat.zero_le _) ⟨Fr.rf _ _, fun j hj => by omega⟩) ?_
  · rintro n i s hi ⟨F, hv⟩ Q hQ
    have g : ∀ y k, (a1 ≤ y ∧ y < a1 + 93) → s.1 y k = σ.1 y k := fun y k hy => by rw [F.I (by omega), F1.I (by omega), F0.I (by omega)]
    have zz : ∀ k, (k = 3 ∨ k = 5) → s.1 (a1 + 57 + 6 * i) k = 0 ∨ s.1 (a1 + 57 + 6 * i) k = 1 := by
      intro k hk
      rw [g _ _ (by omega)]
      obtain ⟨⟨z1, z2⟩, z3, z4⟩ := vb.2.1 i hi
      rcases ha with ⟨rfl, rfl⟩ | ⟨rfl, rfl⟩
      · rw [show 2 + 57 + 6 * i = 59 + 6 * i by omega]
        rcases hk with rfl | rfl
        · exact z1
        · exact z2
      · rw [show 95 + 57 + 6 * i = 152 + 6 * i by omega]
        rcases hk with rfl | rfl
        · exact z3
        · exact z4
    show ∃ y, f_X10_become_87 a0 a1 _ (n + 1) (nI i) s = f_X10_become_87 a0 a1 _ n (nI (i + 1)) y ∧ _
    rw [f_X10_become_87, if_pos ((nI_ltI (by omega) (by omega)).mpr hi), ixR_ok hi (by decide), bind_s, bind_s]
    obtain ⟨u, e, Fu, uk, u0, u1⟩ := t_lbecome (σ := s) (a0 := a0 + 57 + 6 * i) (a1 := a1 + 57 + 6 * i) (by omega) (zz 3 (Or.inl rfl)) (zz 5 (Or.inr rfl))
    rw [e, bind_s, nI_add]
    refine ⟨u, rfl, hQ _ ⟨F.tr (Fu.mono (fun y hy => by omega)), fun j hj => ?_⟩⟩
    by_cases z : j = i
    · subst z
      refine ⟨fun k h1 h2 => by rw [uk k h1 h2, g _ _ (by omega)], fun g' hg => CC_to hg ?_ (fun k l h1 h2 h3 => ?_)⟩
      · rw [u0, g _ _ (by omega)]
      · rw [u1 k l h1 h2 h3, g _ _ (by omega)]
    · obtain ⟨q1, q2⟩ := hv j (by omega)
      exact ⟨fun k h1 h2 => by rw [Fu.I (by omega)]; exact q1 k h1 h2, fun g' hg => CC_sm (q2 g' hg) (fun y h1 h2 => (Fu.1 y (by omega)).1)⟩
  · rintro n s -
    show f_X10_become_87 a0 a1 _ (n + 1) (nI 6) s = _
    rw [f_X10_become_87, if_neg (by decide)]
  rintro s2 ⟨e2, F2, h2⟩
  rw [e2]
  -- pieces
  have gT : ∀ k, s2.2.2.1 (a1 + 5) k = σ.2.2.1 (a1 + 5) k := fun k => by rw [F2.T (by omega), F1.T (by omega), F0.T (by omega)]
  have l2 : s2.2.2.2 = σ.2.2.2 := by rw [F2.2, F1.2, F0.2]
  refine Exists.elim (loopE (fun n i s => f_X10_become_116 a0 a1 n (nI i) s) 16 (fun i s => Fr (fun y => y = a0 + 5) s2 s ∧ s.1 = s2.1 ∧ ∀ j, j < i → s.2.2.1 (a0 + 5) j = σ.2.2.1 (a1 + 5) j) (fun s => (cpI s (a1 + 6) 6 (a0 + 6) 6 (nI 0) (nI 0) (nI 6)).bind fun s17 => some s17) ?_ ?_ FU 0 s2 (by rw [FU_eq]; omega) (Nat.zero_le _) ⟨Fr.rf _ _, rfl, fun j hj => by omega⟩) ?_
  · rintro n i s hi ⟨F, oI, hv⟩ Q hQ
    have gi : s.2.2.1 (a1 + 5) i = σ.2.2.1 (a1 + 5) i := by rw [F.T (by omega)]; exact gT i
    have wr : wrT s (a0 + 5) 16 (nI i) (s.2.2.1 (a1 + 5) i) = some (setT s (a0 + 5) i (s.2.2.1 (a1 + 5) i)) := by
      unfold wrT
      rw [inR_nI (by omega) (by omega), decide_eq_true hi, if_pos rfl, nI_cl (by omega)]
      cases hq : s.2.2.1 (a1 + 5) i with
      | none => rfl
      | some p =>
        have hp : σ.2.2.1 7 i = some p ∨ σ.2.2.1 100 i = some p := by
          rw [gi] at hq
          rcases ha with ⟨rfl, rfl⟩ | ⟨rfl, rfl⟩
          · exact Or.inl hq
          · exact Or.inr hq
        obtain ⟨c', hc⟩ := vb.1 i p hi hp
        show (chkP [6, 4, 8, 9] s p).bind _ = _
        rw [chkP_eq (σ := σ) (by rw [F.2, l2]), hc]
        rfl
    show ∃ y, f_X10_become_116 a0 a1 (n + 1) (nI i) s = f_X10_become_116 a0 a1 n (nI (i + 1)) y ∧ _
    rw [f_X10_become_116, if_pos ((nI_ltI (by omega) (by omega)).mpr hi), rdT_ok hi (by decide), bind_s, wr, bind_s, nI_add]
    refine ⟨_, rfl, hQ _ ⟨F.tr (Fr_setT rfl), by rw [I_setT]; exact oI, fun j hj => ?_⟩⟩
    by_cases z : j = i
    · subst z; rw [T_at, gi]
    · rw [T_ne (Or.inr z)]; exact hv j (by omega)
  · rintro n s -
    show f_X10_become_116 a0 a1 (n + 1) (nI 16) s = _
    rw [f_X10_become_116, if_neg (by decide)]
  rintro s3 ⟨e3, F3, oI3, h3⟩
  have F4 := cpSI_F (x := a1 + 6) (y := a0 + 6) (n := 6) s3
  have A4 := fun j (hj : j < 6) => cpSI_at (x := a1 + 6) (y := a0 + 6) s3 hj
  rw [e3, cpI_30 (by decide), bind_s]
  have oT4 : (cpSI s3 (a1 + 6) (a0 + 6) 0 0 6).2 = s3.2 := rfl
  generalize cpSI s3 (a1 + 6) (a0 + 6) 0 0 6 = s4 at *
  have FF : Fr (fun y => a0 ≤ y ∧ y < a0 + 93) σ s4 := ((((F0.mono (fun y hy => by omega)).tr (F1.mono (fun y hy => by omega))).tr (F2.mono (fun y hy => by omega))).tr (F3.mono (fun y hy => by omega))).tr (F4.mono (fun y hy => by omega))
  have up : ∀ y, y ≠ a0 + 6 → s4.1 y = s2.1 y := fun y hy => by rw [(F4.1 y hy).1, oI3]
  have up1 : ∀ y, y ≠ a0 + 6 → ¬ (a0 + 57 ≤ y ∧ y < a0 + 93) → s4.1 y = s1.1 y := fun y hy h => by rw [up y hy, (F2.1 y h).1]
  refine ⟨s4, rfl, FF, ?_, ?_⟩
  · obtain ⟨⟨c1, c2, c3, c4⟩, d2, d3, d4, d5, d6⟩ := c
    refine ⟨⟨?_, ?_, ?_, ?_⟩, fun i hi => ?_, fun i hi hk => ?_, fun h hh => ?_, fun k hk => ?_, fun m hm => ?_⟩
    · rw [up1 _ (by omega) (by omega), F1.I (by omega), v0 0 (by omega)]; exact c1
    · rw [up1 _ (by omega) (by omega), F1.I (by omega), v0 1 (by omega)]; exact c2
    · rw [up1 _ (by omega) (by omega), F1.I (by omega), v0 2 (by omega)]; exact c3
    · rw [up1 _ (by omega) (by omega), F1.I (by omega), v0 3 (by omega)]; exact c4
    · obtain ⟨q1, q2, -⟩ := h1 i (by omega)
      rw [up1 _ (by omega) (by omega), up1 _ (by omega) (by omega), q1, q2]
      exact d2 i hi
    · exact CC_sm ((h1 i (by omega)).2.2 _ (d3 i hi hk)) (fun y h1 h2 => up1 y (by omega) (by omega))
    · obtain ⟨f1, f2, f3, f4, f5, f6⟩ := d4 h hh
      obtain ⟨q1, q2⟩ := h2 h (by omega)
      refine ⟨CC_sm (q2 _ f1) (fun y h1 h2 => up y (by omega)), ?_⟩
      rw [up _ (by omega), q1 1 (by decide) (by decide), q1 2 (by decide) (by decide), q1 3 (by decide) (by decide), q1 4 (by decide) (by decide), q1 5 (by decide) (by decide)]
      exact ⟨f2, f3, f4, f5, f6⟩
    · obtain ⟨p, q1, q2⟩ := d5 k hk
      have hP := b.1.2.2
      refine ⟨p, ?_, PO_sm q2 (FF.1 p (by have := q2.1.1; omega)).1 ⟨[], by rw [FF.2, List.append_nil]⟩⟩
      rw [F4.T (by omega), h3 k (by omega)]
      exact q1
    · rw [A4 m hm, oI3, (F2.1 _ (by omega)).1, (F1.1 _ (by omega)).1, (F0.1 _ (by omega)).1]
      exact d6 m hm
  · obtain ⟨w1, w2, w3, w4⟩ := vb
    refine ⟨fun k p hk hp => ?_, fun h hh => ?_, ?_, ?_⟩
    · have : σ.2.2.1 7 k = some p ∨ σ.2.2.1 100 k = some p := by
        have e5 : s4.2.2.1 (a0 + 5) k = σ.2.2.1 (a1 + 5) k := by rw [F4.T (by omega), h3 k hk]
        rcases ha with ⟨rfl, rfl⟩ | ⟨rfl, rfl⟩
        · rcases hp with hp | hp
          · rw [FF.T (by omega)] at hp; exact Or.inl hp
          · rw [e5] at hp; exact Or.inl hp
        · rcases hp with hp | hp
          · rw [e5] at hp; exact Or.inr hp
          · rw [FF.T (by omega)] at hp; exact Or.inr hp
      obtain ⟨c', hc⟩ := w1 k p hk this
      exact ⟨c', by rw [chkP_eq (σ := σ) FF.2]; exact hc⟩
    · obtain ⟨⟨z1, z2⟩, z3, z4⟩ := w2 h hh
      obtain ⟨q1, -⟩ := h2 h hh
      have e3 := q1 3 (by decide) (by decide)
      have e5 := q1 5 (by decide) (by decide)
      rw [← up _ (by omega)] at e3 e5
      rcases ha with ⟨rfl, rfl⟩ | ⟨rfl, rfl⟩
      · rw [show 95 + 57 + 6 * h = 152 + 6 * h by omega, show 2 + 57 + 6 * h = 59 + 6 * h by omega] at e3 e5
        rw [FF.I (by omega), FF.I (by omega), e3, e5]
        exact ⟨⟨z1, z2⟩, z1, z2⟩
      · rw [show 95 + 57 + 6 * h = 152 + 6 * h by omega, show 2 + 57 + 6 * h = 59 + 6 * h by omega] at e3 e5
        rw [e3, e5, FF.I (by omega), FF.I (by omega)]
        exact ⟨⟨z3, z4⟩, z3, z4⟩
    · rw [FF.I (by omega)]; exact w3
    · rw [FF.I (by omega)]; exact w4
end
