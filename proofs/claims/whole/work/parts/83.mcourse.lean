section
/-! ===== the reference counts courses ===== -/
variable {A : AW} {σ : ST} {S h : Nat} {x : Nat × Nat}
theorem lN_capm {a b : Nat} (ha : a ≤ 1000000000000000000) (hb : b ≤ 1000000000000000000) : (if lN a + lN b < (1000000000000000000 : Int64) then lN a + lN b else 1000000000000000000) = lN (cap (a + b)) := by
  rw [lN_add, show (1000000000000000000 : Int64) = lN 1000000000000000000 from rfl]
  unfold cap
  by_cases w : a + b < 1000000000000000000
  · rw [if_pos ((pk_lLT (by omega) (by omega)).mpr w), if_neg (by omega)]
  · rw [if_neg (fun q => w ((pk_lLT (by omega) (by omega)).mp q))]
    by_cases c : 1000000000000000000 < a + b
    · rw [if_pos c]
    · rw [if_neg c]; congr 1; omega
def ls (g : Nat × Nat → Nat) : List (Nat × Nat) → Nat
  | [] => 0
  | z :: L => g z + ls g L
theorem ls_app (g : Nat × Nat → Nat) (L M : List (Nat × Nat)) : ls g (L ++ M) = ls g L + ls g M := by
  induction L with
  | nil => simp [ls]
  | cons z L ih => simp only [List.cons_append, ls, ih]; omega
theorem ls_take {g : Nat × Nat → Nat} {L : List (Nat × Nat)} {e : Nat} {d : Nat × Nat} (he : e < L.length) : ls g (L.take (e + 1)) = ls g (L.take e) + g (L.getD e d) := by
  rw [List.take_succ, List.getElem?_eq_getElem he, ls_app, List.getD_eq_getElem?_getD, List.getElem?_eq_getElem he]
  simp [ls]
theorem ls_eA {g : Nat × Nat → Nat} {p : Nat → Bool} {f : Nat} : ∀ n, ls g (eA p f n) = sm n (fun a => if p a = true then g (f, a) else 0) := by
  intro n
  induction n with
  | zero => rfl
  | succ n ih =>
    rw [eA, sm]
    by_cases w : p n = true
    · rw [if_pos w, if_pos w, ls_app, ih]; simp [ls]
    · rw [if_neg w, if_neg w, ih, Nat.add_zero]
theorem ls_eF {E : GR} {g : Nat × Nat → Nat} {s : Nat} : ∀ n, ls g (eF E h s n) = sm n (fun f => sm 7 (fun a => if (E h s f a).isSome = true then g (f, a) else 0)) := by
  intro n
  induction n with
  | zero => rfl
  | succ n ih => rw [eF, sm, ls_app, ih, ls_eA]
theorem sm_ext {n m : Nat} (hm : n ≤ m) {g : Nat → Nat} (h : ∀ i, n ≤ i → g i = 0) : sm m g = sm n g := by
  induction m with
  | zero => rw [show n = 0 by omega]
  | succ m ih =>
    by_cases c : n = m + 1
    · rw [c]
    · rw [sm, ih (by omega), h m (by omega), Nat.add_zero]
noncomputable def NF (A : AW) (S : Nat) (x : Nat × Nat) (h s : Nat) : Nat := Nf (EG A S x) (2 ^ cK A 1) (glS A S) h s
/-- what one step brings -/
noncomputable def gz (A : AW) (S : Nat) (x : Nat × Nat) (h s t : Nat) (z : Nat × Nat) : Nat := if obX A S x h s z.1 z.2 = true ∧ tg (EG A S x) h s z.1 z.2 = t then NF A S x h s else 0
noncomputable def Wz (A : AW) (S : Nat) (x : Nat × Nat) (h t s : Nat) : Nat := sm 4 fun f => sm 7 fun act => gz A S x h s t (f, act)
theorem NF_succ (t : Nat) : NF A S x (h + 1) t = sm 1024 (Wz A S x h t) := rfl
theorem gz_ls (a : AOK A) {s t : Nat} : ls (gz A S x h s t) (EL A S x h s) = Wz A S x h t s := by
  unfold EL Wz
  rw [ls_eF]
  have z : ∀ f act, (if ((EG A S x) h s f act).isSome = true then gz A S x h s t (f, act) else 0) = gz A S x h s t (f, act) := by
    intro f act
    by_cases w : ((EG A S x) h s f act).isSome = true
    · rw [if_pos w]
    · rw [if_neg w]
      unfold gz
      rw [if_neg]
      rintro ⟨o, -⟩
      obtain ⟨t', c, o⟩ := ob_iff.mp o
      rw [o.1] at w
      exact w rfl
  rw [sm_congr (k := fun f => sm 7 fun act => gz A S x h s t (f, act)) (fun f _ => sm_congr fun act _ => z f act)]
  refine (sm_ext (F4 a) fun f hf => sm_zero fun act _ => ?_).symm
  unfold gz
  rw [if_neg]
  rintro ⟨o, -⟩
  obtain ⟨t', c, o⟩ := ob_iff.mp o
  have : f < 2 ^ cK A 0 := (EG_iff.mp o.1).1.2.1.1
  omega
theorem NF_lt (a : AOK A) (hh : h ≤ 12) {s : Nat} (r : 0 < NF A S x h s) : FW A S x h s < 100000000 := by
  cases h with
  | zero =>
    have r' : 0 < (if s < 2 ^ cK A 1 then 1 else 0) := r
    by_cases c : s < 2 ^ cK A 1
    · show (if s < 2 ^ cK A 1 then 0 else NV) < 100000000
      rw [if_pos c]; decide
    · rw [if_neg c] at r'; cases r'
  | succ h =>
    have k := Nf_pos (EG_ok a) (show h < 12 by omega) r
    have k1 : FW A S x (h + 1) s + BK A S x (12 - (h + 1)) s = LE A S x := k.1
    have k2 : LE A S x < 100000000 := k.2
    exact Nat.lt_of_le_of_lt (Nat.le_trans (Nat.le_add_right _ _) (Nat.le_of_eq k1)) k2
/-- the ways to a state so far -/
noncomputable def PS (A : AW) (S : Nat) (x : Nat × Nat) (h s0 : Nat) (M : List (Nat × Nat)) (t : Nat) : Nat := sm s0 (Wz A S x h t) + ls (gz A S x h s0 t) M
theorem t_co129 (a : AOK A) (v : SV A S x σ) (hL : LE A S x < 100000000) (hh : h < 12) {s0 : Nat} (hs : s0 < 1024) (hlt : FW A S x h s0 < 100000000) (d1 : EdA A S x h s0 (EL A S x h s0) σ) (mm : σ.2.1 286 s0 = lN (cap (NF A S x h s0))) (m0 : ∀ t, t < 1024 → σ.2.1 287 t = lN (cap (PS A S x h s0 [] t))) {k : Int64 → Int32 → Int32 → ST → Option (Int64 × ST)} : ∃ u, f_X12_courses_129 k FU 1000000000000000000 (nI h) (nI s0) (nI 0) σ = k 1000000000000000000 (nI h) (nI s0) u ∧ Fr (fun y => y = 287) σ u ∧ ∀ t, t < 1024 → u.2.1 287 t = lN (cap (PS A S x h (s0 + 1) [] t)) := by
  have hl28 := EL_len (S := S) (x := x) (h := h) (s := s0) a
  refine Exists.elim (loopE (fun n e u => f_X12_courses_129 k n 1000000000000000000 (nI h) (nI s0) (nI e) u) (EL A S x h s0).length (fun e u => Fr (fun y => y = 287) σ u ∧ ∀ t, t < 1024 → u.2.1 287 t = lN (cap (PS A S x h s0 ((EL A S x h s0).take e) t))) (fun u => k 1000000000000000000 (nI h) (nI s0) u) ?_ ?_ FU 0 σ (by rw [FU_eq]; omega) (Nat.zero_le _) ⟨Fr.rf _ _, by rw [List.take_zero]; exact m0⟩) ?_
  · rintro n e u he ⟨hF, hm⟩ Q hQ
    have FQ : Fq (fun y => y = 287) σ u := ⟨hF.mono (fun y q => Or.inr q), fun k _ => hF.I (by omega) k⟩
    have v1 := SV_fq v FQ (fun y hy => by omega)
    have d2 := EdA_fr d1 hF (fun y hy => by omega)
    have hil := t_isLeast a v1 hL hh hs hlt d2 he
    have e40' : u.1 247 40 = nI (EL A S x h s0).length := d2.1
    obtain ⟨-, -, q3, -⟩ := d2.2 e he
    have hE := EL_at (S := S) (x := x) (h := h) (s := s0) a he
    have q3' : u.1 280 e = nI (tg (EG A S x) h s0 ((EL A S x h s0).getD e (0, 0)).1 ((EL A S x h s0).getD e (0, 0)).2) := q3
    have htk := fun t => ls_take (g := gz A S x h s0 t) (d := (0, 0)) he
    clear q3
    generalize (EL A S x h s0).getD e (0, 0) = z at *
    have gE := EG_ok a h s0 _ _ _ _ hE
    have htg : tg (EG A S x) h s0 z.1 z.2 = tos A S h s0 z.1 z.2 := tg_of hE
    have ht1 : tg (EG A S x) h s0 z.1 z.2 < 1024 := by rw [htg]; exact gE.2.1
    have he28 : e < 28 := by omega
    have e286 : u.2.1 286 s0 = σ.2.1 286 s0 := hF.J (by omega) _
    have hel : nI e < nI (EL A S x h s0).length := (nI_ltI (by omega) (by omega)).mpr he
    show ∃ y, f_X12_courses_129 k (n + 1) 1000000000000000000 (nI h) (nI s0) (nI e) u = f_X12_courses_129 k n 1000000000000000000 (nI h) (nI s0) (nI (e + 1)) y ∧ _
    rw [f_X12_courses_129, e40', if_pos hel, hil]
    rw [bd2_s]
    cases hob : obX A S x h s0 z.1 z.2 with
    | false =>
      rw [if_pos (show b2 false = 0 by decide), nI_add]
      refine ⟨u, rfl, hQ _ ⟨hF, fun t ht => ?_⟩⟩
      rw [hm t ht]
      unfold PS
      rw [htk t, show gz A S x h s0 t z = 0 from if_neg (fun w => by rw [hob] at w; cases w.1), Nat.add_zero]
    | true =>
      rw [if_neg (show ¬ b2 true = 0 by decide), rdI_ok he28 (by decide), q3']
      simp only [bind_s]
      rw [rdJ_ok ht1 (by decide), rdJ_ok hs (by decide)]
      simp only [bind_s]
      rw [hm _ ht1, e286, mm, lN_capm (cap_le _) (cap_le _), cap_add, wrJ_ok ht1 (by decide)]
      simp only [bind_s]
      rw [nI_add]
      refine ⟨_, rfl, hQ _ ⟨hF.tr (Fr_setJ rfl), fun t ht => ?_⟩⟩
      by_cases c : t = tg (EG A S x) h s0 z.1 z.2
      · subst c
        rw [J_at]
        unfold PS
        rw [htk, show gz A S x h s0 _ z = NF A S x h s0 from if_pos ⟨hob, rfl⟩, Nat.add_assoc]
      · rw [J_ne (Or.inr c), hm t ht]
        unfold PS
        rw [htk t, show gz A S x h s0 t z = 0 from if_neg (fun w => c w.2.symm), Nat.add_zero]
  · rintro n u ⟨hF, -⟩
    have e40' : u.1 247 40 = nI (EL A S x h s0).length := (EdA_fr d1 hF (fun y hy => by omega)).1
    show f_X12_courses_129 k (n + 1) _ _ _ (nI (EL A S x h s0).length) u = _
    rw [f_X12_courses_129, e40', if_neg (fun w => Nat.lt_irrefl _ ((nI_ltI (by omega) (by omega)).mp w))]
  · rintro u ⟨e, hF, hm⟩
    refine ⟨u, e, hF, fun t ht => ?_⟩
    rw [hm t ht]
    unfold PS
    rw [List.take_length, gz_ls a, sm]
    rfl
end
