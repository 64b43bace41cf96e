section
/-! ===== shelves: copy ===== -/
variable {X : XS} {σ : ST} {A : AW} {H : SHV}
theorem lgj {a b k : Nat} (ha : a < 2 ^ 31) (hb : b < 2 ^ 31) (hk : k < 2 ^ 31) : 0 < lg_cmp ((nI a).toInt64 + (nI b).toInt64) ((nI k).toInt64) ↔ k < a + b := by
  rw [nI_l ha, nI_l hb, nI_l hk, lN_add]
  unfold lg_cmp
  by_cases w : k < a + b
  · rw [if_pos (show lN (a + b) > lN k from (pk_lLT (by omega) (by omega)).mpr w)]
    exact ⟨fun _ => w, fun _ => by decide⟩
  · rw [if_neg (show ¬ lN (a + b) > lN k from fun z => w ((pk_lLT (by omega) (by omega)).mp z))]
    refine ⟨fun z => ?_, fun z => absurd z w⟩
    split at z
    · exact absurd z (by decide)
    · exact absurd z (by decide)
def rcx (x : Int32) (n k : Nat) : Bool := !decide (x < 0) && decide (x.toNatClampNeg + n ≤ k)
theorem rcx_f {x : Int32} {n k : Nat} (h : x < 0) : rcx x n k = false := by unfold rcx; rw [decide_eq_true h]; rfl
theorem rcx_n {i n k : Nat} (hi : i < 2 ^ 31) : rcx (nI i) n k = decide (i + n ≤ k) := by
  unfold rcx
  rw [decide_eq_false (nI_pos hi), nI_cl hi]
  rfl
theorem rcx_of {x : Int32} {n k : Nat} (h : rcx x n k = true) : ∃ i, i < 2 ^ 31 ∧ x = nI i ∧ i + n ≤ k := by
  by_cases w : x < 0
  · rw [rcx_f w] at h; cases h
  · obtain ⟨i, hi, rfl⟩ := nI_of w
    rw [rcx_n hi] at h
    exact ⟨i, hi, rfl, of_decide_eq_true h⟩
theorem t_reaches (o : HOK A H) (c : SHC H σ) {s n : Nat} (hs : s < 8) (hn' : n < 2 ^ 31) (x : Int32) : f_X7_reaches (231 + 2 * s) x (nI n) σ = some (b2 (rcx x n (hn H s)), σ) := by
  have l := (o s hs).1
  unfold f_X7_reaches
  by_cases w : x < 0
  · rw [if_pos w, rcx_f w]; rfl
  · obtain ⟨i, hi, rfl⟩ := nI_of w
    rw [if_neg w, (c s hs).2.1, rcx_n hi]
    by_cases z : hn H s < i + n
    · rw [if_pos ((lgj hi hn' (by omega)).mpr z), decide_eq_false (by omega)]; rfl
    · rw [if_neg (fun q => z ((lgj hi hn' (by omega)).mp q)), decide_eq_true (by omega)]; rfl
/-- elements come over -/
def CPd (p q i j n : Nat) (σ u : ST) : Prop := Fr (fun y => y = 265) σ u ∧ u.1 = σ.1 ∧ (∀ k, k < n → u.2.1 265 (60 * q + j + k) = σ.2.1 265 (60 * p + i + k)) ∧ ∀ y, (y < 60 * q + j ∨ 60 * q + j + n ≤ y) → u.2.1 265 y = σ.2.1 265 y
theorem t_mcopyF {p q i j n : Nat} (hp : p < 8) (hq : q < 8) (hi : i + n ≤ 60) (hj : j + n ≤ 60) (hpq : p ≠ q ∨ j ≤ i) : ∃ u, f_X12_copy_227 FU (nI p) (nI q) (nI i) (nI j) (nI n) (nI 0) σ = some (nI 1, u) ∧ CPd p q i j n σ u := by
  refine Exists.elim (loopE (fun m k u => f_X12_copy_227 m (nI p) (nI q) (nI i) (nI j) (nI n) (nI k) u) n (fun k u => CPd p q i j k σ u) (fun u => some (nI 1, u)) ?_ ?_ FU 0 σ (by rw [FU_eq]; omega) (Nat.zero_le _) ⟨Fr.rf _ _, rfl, fun k hk => by omega, fun _ _ => rfl⟩) ?_
  · rintro m k u hk ⟨F, e0, e1, e2⟩ Q hQ
    show ∃ y, f_X12_copy_227 (m + 1) (nI p) (nI q) (nI i) (nI j) (nI n) (nI k) u = f_X12_copy_227 m (nI p) (nI q) (nI i) (nI j) (nI n) (nI (k + 1)) y ∧ _
    rw [f_X12_copy_227, if_pos ((nI_ltI (by omega) (by omega)).mpr hk)]
    simp only [nI_mul, nI_add]
    rw [rdJ_ok (show 60 * p + i + k < 480 by omega) (by decide)]
    simp only [bind_s]
    rw [wrJ_ok (show 60 * q + j + k < 480 by omega) (by decide)]
    simp only [bind_s]
    refine ⟨_, rfl, hQ _ ⟨F.tr (Fr_setJ rfl), by rw [I_setJ]; exact e0, fun l hl => ?_, fun y hy => ?_⟩⟩
    · by_cases e : l = k
      · subst e; rw [J_at]; exact e2 _ (by omega)
      · rw [J_ne (Or.inr (by omega))]; exact e1 l (by omega)
    · rw [J_ne (Or.inr (by omega))]; exact e2 y (by omega)
  · rintro m u -
    show f_X12_copy_227 (m + 1) _ _ _ _ _ (nI n) u = _
    rw [f_X12_copy_227, if_neg (fun w => Nat.lt_irrefl _ ((nI_ltI (by omega) (by omega)).mp w))]
  · rintro u ⟨e, h⟩
    exact ⟨u, e, h⟩
theorem t_mcopyB {p i j n : Nat} (hp : p < 8) (hi : i + n ≤ 60) (hj : j + n ≤ 60) (hij : i < j) : ∀ k m σ', k ≤ n → k < m → (Fr (fun y => y = 265) σ σ' ∧ σ'.1 = σ.1 ∧ (∀ l, k ≤ l → l < n → σ'.2.1 265 (60 * p + j + l) = σ.2.1 265 (60 * p + i + l)) ∧ ∀ y, (y < 60 * p + j + k ∨ 60 * p + j + n ≤ y) → σ'.2.1 265 y = σ.2.1 265 y) → ∃ u, f_X12_copy_181 m (nI p) (nI p) (nI i) (nI j) (hI k) σ' = some (nI 1, u) ∧ CPd p p i j n σ u := by
  intro k
  induction k with
  | zero =>
    intro m σ' _ hm ⟨F, e0, e1, e2⟩
    obtain ⟨m, rfl⟩ : ∃ z, m = z + 1 := ⟨m - 1, by omega⟩
    rw [f_X12_copy_181, if_pos (show hI 0 < 0 by decide)]
    exact ⟨σ', rfl, F, e0, fun l hl => e1 l (by omega) hl, fun y hy => e2 y hy⟩
  | succ k ih =>
    intro m σ' hk hm ⟨F, e0, e1, e2⟩
    obtain ⟨m, rfl⟩ : ∃ z, m = z + 1 := ⟨m - 1, by omega⟩
    rw [f_X12_copy_181, show hI (k + 1) = nI k from rfl, if_neg (nI_pos (by omega)), hI_dec (show k < 2 ^ 31 by omega)]
    simp only [nI_mul, nI_add]
    rw [rdJ_ok (show 60 * p + i + k < 480 by omega) (by decide)]
    simp only [bind_s]
    rw [wrJ_ok (show 60 * p + j + k < 480 by omega) (by decide)]
    simp only [bind_s]
    refine ih m _ (by omega) (by omega) ⟨F.tr (Fr_setJ rfl), by rw [I_setJ]; exact e0, fun l hl hl2 => ?_, fun y hy => ?_⟩
    · by_cases e : l = k
      · subst e; rw [J_at]; exact e2 _ (by omega)
      · rw [J_ne (Or.inr (by omega))]; exact e1 l (by omega) hl2
    · rw [J_ne (Or.inr (by omega))]; exact e2 y (by omega)
theorem hI_sub {n : Nat} (h : n < 2 ^ 31) : nI n - nI 1 = hI n := by
  cases n with
  | zero => decide
  | succ n => rw [nI_sub (by omega)]; rfl
theorem t_mcopy {p q i j n : Nat} (hp : p < 8) (hq : q < 8) (hi : i + n ≤ 60) (hj : j + n ≤ 60) : ∃ u, (if nI p = nI q then (if nI i < nI j then (f_X12_copy_181 FU (nI p) (nI q) (nI i) (nI j) (nI n - (nI 1)) σ) else (f_X12_copy_224 (nI p) (nI q) (nI i) (nI j) (nI n) σ)) else (f_X12_copy_224 (nI p) (nI q) (nI i) (nI j) (nI n) σ)) = some (nI 1, u) ∧ CPd p q i j n σ u := by
  unfold f_X12_copy_224
  by_cases e : p = q
  · subst e
    rw [if_pos rfl]
    by_cases z : i < j
    · rw [if_pos ((nI_ltI (by omega) (by omega)).mpr z), hI_sub (by omega)]
      exact t_mcopyB hp hi hj z n FU σ (Nat.le_refl _) (by rw [FU_eq]; omega) ⟨Fr.rf _ _, rfl, fun l h1 h2 => by omega, fun _ _ => rfl⟩
    · rw [if_neg (fun w => z ((nI_ltI (by omega) (by omega)).mp w))]
      exact t_mcopyF hp hq hi hj (Or.inr (by omega))
  · rw [if_neg (fun w => e ((nI_eq (by omega) (by omega)).mp w))]
    exact t_mcopyF hp hq hi hj (Or.inl e)
theorem q_copy76 (o : HOK A H) (m : SHM H σ) {p q : Nat} (hp : p < 8) (hq' : q < 8) (g1 : ¬ (1 ≤ hq H p ∧ hq H p < 101)) (g2 : ¬ (1 ≤ hq H q ∧ hq H q < 101)) {z : Int32} {x y : Int32} : f_X12_copy_76 (nI p) (nI q) x y z σ = (if hq H p < 101 ∨ hq H q < 101 then some (-3, rM 3 σ) else if z < 0 then some (-4, rM 4 σ) else if rcx x z.toNatClampNeg (hn H p) = true ∧ rcx y z.toNatClampNeg (hn H q) = true then (if nI p = nI q then (if x < y then (f_X12_copy_181 FU (nI p) (nI q) x y (z - (nI 1)) σ) else (f_X12_copy_224 (nI p) (nI q) x y z σ)) else (f_X12_copy_224 (nI p) (nI q) x y z σ)) else some (-5, rM 5 σ)) := by
  have lp := o p hp
  have lq := o q hq'
  unfold f_X12_copy_76
  simp only [m_no (σ := σ) (v := -3) (j := 3) (by decide) (by decide), m_no (σ := σ) (v := -4) (j := 4) (by decide) (by decide), m_no (σ := σ) (v := -5) (j := 5) (by decide) (by decide), bd2_s]
  rw [rdI_ok hp (by decide), rdI_ok hq' (by decide), rdI_ok hp (by decide), rdI_ok hq' (by decide), (m p hp).1, (m q hq').1]
  simp only [bind_s]
  by_cases w1 : hq H p < 101
  · rw [if_pos ((hI_0 lp.2.1).mpr (by omega)), if_pos (Or.inl w1)]
  · rw [if_neg (fun v => by have := (hI_0 lp.2.1).mp v; omega)]
    by_cases w2 : hq H q < 101
    · rw [if_pos ((hI_0 lq.2.1).mpr (by omega)), if_pos (Or.inr w2)]
    · rw [if_neg (fun v => by have := (hI_0 lq.2.1).mp v; omega), if_neg (show ¬ (hq H p < 101 ∨ hq H q < 101) by omega)]
      by_cases w3 : z < 0
      · rw [if_pos w3, if_pos w3]
      · rw [if_neg w3, if_neg w3]
        obtain ⟨n, hn', rfl⟩ := nI_of w3
        rw [nI_cl hn', (m p hp).2.1 (by omega), (m q hq').2.1 (by omega)]
        by_cases w4 : x < 0
        · rw [if_pos w4, rcx_f w4, if_neg (fun v => by cases v.1)]
        · rw [if_neg w4]
          obtain ⟨i, hi, rfl⟩ := nI_of w4
          by_cases w5 : y < 0
          · rw [if_pos w5, rcx_f w5, if_neg (fun v => by cases v.2)]
          · rw [if_neg w5]
            obtain ⟨j, hj, rfl⟩ := nI_of w5
            rw [rcx_n hi, rcx_n hj]
            by_cases w6 : hn H p < i + n
            · rw [if_pos ((lgj hi hn' (by omega)).mpr w6), decide_eq_false (show ¬ i + n ≤ hn H p by omega), if_neg (fun v => by cases v.1)]
            · rw [if_neg (fun v => w6 ((lgj hi hn' (by omega)).mp v)), decide_eq_true (show i + n ≤ hn H p by omega)]
              by_cases w7 : hn H q < j + n
              · rw [if_pos ((lgj hj hn' (by omega)).mpr w7), decide_eq_false (show ¬ j + n ≤ hn H q by omega), if_neg (fun v => by cases v.2)]
              · rw [if_neg (fun v => w7 ((lgj hj hn' (by omega)).mp v)), decide_eq_true (show j + n ≤ hn H q by omega), if_pos (show true = true ∧ true = true from ⟨rfl, rfl⟩)]
theorem q_copy95 (o : HOK A H) (c : SHC H σ) {p q : Nat} (hp : p < 8) (hq' : q < 8) {z : Int32} {x y : Int32} : f_X11_copy_95 (231 + 2 * p) (231 + 2 * q) x y z σ = (if hq H p < 101 ∨ hq H q < 101 then some (-3, rC 3 σ) else if z < 0 then some (-4, rC 4 σ) else if rcx x z.toNatClampNeg (hn H p) = true ∧ rcx y z.toNatClampNeg (hn H q) = true then (cpJ σ (231 + 2 * p + 1) 60 (231 + 2 * q + 1) 60 x y z).bind (fun s29 => some (nI 1, s29)) else some (-5, rC 5 σ)) := by
  have lp := o p hp
  have lq := o q hq'
  unfold f_X11_copy_95
  rw [c_holdsRow o c hp, bd2_s]
  by_cases w1 : hq H p < 101
  · rw [decide_eq_false (by omega), if_pos b2f0, c_refuse (j := 3) (by decide) (by decide), bd2_s, if_pos (Or.inl w1)]
  · rw [decide_eq_true (by omega), if_neg b2t0, c_holdsRow o c hq', bd2_s]
    by_cases w2 : hq H q < 101
    · rw [decide_eq_false (by omega), if_pos b2f0, c_refuse (j := 3) (by decide) (by decide), bd2_s, if_pos (Or.inr w2)]
    · rw [decide_eq_true (by omega), if_neg b2t0, if_neg (show ¬ (hq H p < 101 ∨ hq H q < 101) by omega)]
      by_cases w3 : z < 0
      · rw [if_pos w3, if_pos w3, c_refuse (j := 4) (by decide) (by decide), bd2_s]
      · rw [if_neg w3, if_neg w3]
        obtain ⟨n, hn', rfl⟩ := nI_of w3
        rw [nI_cl hn', t_reaches o c hp hn', bd2_s]
        cases g1 : rcx x n (hn H p) with
        | false => rw [if_pos b2f0, c_refuse (j := 5) (by decide) (by decide), bd2_s, if_neg (fun v => by cases v.1)]
        | true =>
          rw [if_neg b2t0, t_reaches o c hq' hn', bd2_s]
          cases g2 : rcx y n (hn H q) with
          | false => rw [if_pos b2f0, c_refuse (j := 5) (by decide) (by decide), bd2_s, if_neg (fun v => by cases v.2)]
          | true => rw [if_neg b2t0, if_pos ⟨rfl, rfl⟩]
theorem q_copyG (h : XR X σ) {p q : Nat} (hp : p < 8) (hq' : q < 8) {x y z : Int32} (g1 : ¬ (1 ≤ hq X.2.1 p ∧ hq X.2.1 p < 101)) (g2 : ¬ (1 ≤ hq X.2.1 q ∧ hq X.2.1 q < 101)) (ce : f_X11_copy (nI p) (nI q) x y z σ = f_X11_copy_95 (231 + 2 * p) (231 + 2 * q) x y z σ) (me : ∀ u, XM X u → f_X12_copy (nI p) (nI q) x y z u = f_X12_copy_76 (nI p) (nI q) x y z u) : OUT (f_X11_copy (nI p) (nI q) x y z) (f_X12_copy (nI p) (nI q) x y z) σ := by
  have o := h.1.2.1
  have c := h.2.1.2.2.1
  have lp := o p hp
  have lq := o q hq'
  rw [q_copy95 o c hp hq'] at ce
  have me2 : ∀ u, XM X u → _ := fun u mu => (me u mu).trans (q_copy76 o mu.2.1 hp hq' g1 g2)
  by_cases w1 : hq X.2.1 p < 101 ∨ hq X.2.1 q < 101
  · rw [if_pos w1] at ce
    exact OUT_ref h (j := 3) (by decide) (by decide) ce (fun u mu => by rw [me2 u mu, if_pos w1])
  · rw [if_neg w1] at ce
    by_cases w2 : z < 0
    · rw [if_pos w2] at ce
      exact OUT_ref h (j := 4) (by decide) (by decide) ce (fun u mu => by rw [me2 u mu, if_neg w1, if_pos w2])
    · rw [if_neg w2] at ce
      by_cases w3 : rcx x z.toNatClampNeg (hn X.2.1 p) = true ∧ rcx y z.toNatClampNeg (hn X.2.1 q) = true
      · rw [if_pos w3] at ce
        obtain ⟨n, hn', rfl⟩ := nI_of w2
        have me3 : ∀ u, XM X u → _ := fun u mu => (me2 u mu).trans ((if_neg w1).trans ((if_neg w2).trans (if_pos w3)))
        rw [nI_cl hn'] at w3
        obtain ⟨i, hi, rfl, hi2⟩ := rcx_of w3.1
        obtain ⟨j, hj, rfl, hj2⟩ := rcx_of w3.2
        have e : cpJ σ (231 + 2 * p + 1) 60 (231 + 2 * q + 1) 60 (nI i) (nI j) (nI n) = some (cpSJ σ (231 + 2 * p + 1) (231 + 2 * q + 1) i j n) := by
          unfold cpJ
          rw [nI_cl hi, nI_cl hj, nI_cl hn', if_pos ⟨⟨Int32.not_lt.mp (nI_pos hi), Int32.not_lt.mp (nI_pos hj), Int32.not_lt.mp (nI_pos hn')⟩, by omega, by omega⟩]
        rw [e] at ce
        have F : Fr (fun y => y = 231 + 2 * q ∨ y = 231 + 2 * q + 1) σ (cpSJ σ (231 + 2 * p + 1) (231 + 2 * q + 1) i j n) := by
          refine ⟨fun y hy => ⟨rfl, ?_, rfl⟩, rfl⟩
          show (if y = 231 + 2 * q + 1 then _ else σ.2.1 y) = σ.2.1 y
          rw [if_neg (by omega)]
        have Jq : ∀ k, (cpSJ σ (231 + 2 * p + 1) (231 + 2 * q + 1) i j n).2.1 (231 + 2 * q + 1) k = va_cpy (σ.2.1 (231 + 2 * p + 1)) (σ.2.1 (231 + 2 * q + 1)) i j n k := fun k => by
          unfold cpSJ
          simp
        refine OUT_sh (H := hSet X.2.1 q (hq X.2.1 q) (hn X.2.1 q) (va_cpy (hv X.2.1 p) (hv X.2.1 q) i j n)) h (HOK_set o lq.1 lq.2.1 lq.2.2) ce (F.mono (fun y hy => by omega)) (SHC_set c hq' F (c q hq').1 (c q hq').2.1 (fun k hk => ?_)) (fun m1 => ?_)
        · rw [Jq]
          by_cases z : j ≤ k ∧ k < j + n
          · rw [pk_cpy_in z.1 z.2, pk_cpy_in z.1 z.2]; exact (c p hp).2.2 _ (by omega)
          · rw [pk_cpy_out (by omega), pk_cpy_out (by omega)]; exact (c q hq').2.2 k hk
        · generalize cpSJ σ (231 + 2 * p + 1) (231 + 2 * q + 1) i j n = s at *
          obtain ⟨u, e2, F2, i2, a1, a2⟩ := t_mcopy (σ := s) hp hq' (i := i) (j := j) (n := n) (by omega) (by omega)
          refine ⟨u, (me3 s m1).trans e2, F2.mono (fun y hy => by omega), SHM_set m1.2.1 hq' (fun k _ => by rw [i2]) (fun k _ => by rw [i2]) (fun k hk => a2 k (by omega)) (by rw [i2]; exact (m1.2.1 q hq').1) (fun v => by rw [i2]; exact (m1.2.1 q hq').2.1 v) (fun k hk => ?_)⟩
          by_cases z : j ≤ k ∧ k < j + n
          · rw [pk_cpy_in z.1 z.2]
            have := a1 (k - j) (by omega)
            rw [show 60 * q + j + (k - j) = 60 * q + k by omega] at this
            rw [this, Nat.add_assoc]
            exact (m1.2.1 p hp).2.2 _ (by omega)
          · rw [pk_cpy_out (by omega), a2 _ (by omega)]; exact (m1.2.1 q hq').2.2 k hk
      · rw [if_neg w3] at ce
        exact OUT_ref h (j := 5) (by decide) (by decide) ce (fun u mu => by rw [me2 u mu, if_neg w1, if_neg w2, if_neg w3])
theorem hI_inj {a b : Nat} (ha : a ≤ 104) (hb : b ≤ 104) : hI a = hI b ↔ a = b := by
  refine ⟨fun e => ?_, fun e => by rw [e]⟩
  unfold hI at e
  by_cases a0 : a = 0
  · by_cases b0 : b = 0
    · omega
    · rw [if_pos a0, if_neg b0] at e
      have := nI_nm1 (a := b - 1) (by omega)
      rw [← e] at this
      exact absurd rfl (by rw [this]; exact id)
  · by_cases b0 : b = 0
    · rw [if_neg a0, if_pos b0] at e
      have := nI_nm1 (a := a - 1) (by omega)
      rw [e] at this
      exact absurd rfl (by rw [this]; exact id)
    · rw [if_neg a0, if_neg b0] at e
      have := (nI_eq (by omega) (by omega)).mp e
      omega
theorem q_copy (h : XR X σ) (x1 x2 x3 x4 x5 : Int32) : OUT (f_X11_copy x1 x2 x3 x4 x5) (f_X12_copy x1 x2 x3 x4 x5) σ := by
  have o := h.1.2.1
  have c := h.2.1.2.2.1
  cases g1 : inR x1 8 with
  | false => exact OUT_ref h (j := 1) (by decide) (by decide) (by unfold f_X11_copy; rw [c_isShelf, g1, bd2_s, if_pos b2f0, c_refuse (j := 1) (by decide) (by decide), bd2_s]) (fun s m => by unfold f_X12_copy; rw [m_isShelf, g1, bd2_s, if_pos b2f0, m_no (j := 1) (by decide) (by decide), bd2_s])
  | true =>
    obtain ⟨p, hp, rfl⟩ := inR_of g1 (by decide)
    cases g2 : inR x2 8 with
    | false => exact OUT_ref h (j := 1) (by decide) (by decide) (by unfold f_X11_copy; rw [c_isShelf, g1, bd2_s, if_neg b2t0, c_isShelf, g2, bd2_s, if_pos b2f0, c_refuse (j := 1) (by decide) (by decide), bd2_s]) (fun s m => by unfold f_X12_copy; rw [m_isShelf, g1, bd2_s, if_neg b2t0, m_isShelf, g2, bd2_s, if_pos b2f0, m_no (j := 1) (by decide) (by decide), bd2_s])
    | true =>
      obtain ⟨q, hq', rfl⟩ := inR_of g2 (by decide)
      have lp := o p hp
      have lq := o q hq'
      have ce : f_X11_copy (nI p) (nI q) x3 x4 x5 σ = (if b2 (decide (1 ≤ hq X.2.1 p ∧ hq X.2.1 p < 101)) = 0 then if b2 (decide (1 ≤ hq X.2.1 q ∧ hq X.2.1 q < 101)) = 0 then (if b2 (decide (101 ≤ hq X.2.1 p)) = 0 then f_X11_copy_95 (231 + 2 * p) (231 + 2 * q) x3 x4 x5 σ else if b2 (decide (101 ≤ hq X.2.1 q)) = 0 then f_X11_copy_95 (231 + 2 * p) (231 + 2 * q) x3 x4 x5 σ else if hI (hq X.2.1 p) = hI (hq X.2.1 q) then f_X11_copy_95 (231 + 2 * p) (231 + 2 * q) x3 x4 x5 σ else some (-2, rC 2 σ)) else some (-2, rC 2 σ) else some (-2, rC 2 σ)) := by
        unfold f_X11_copy
        rw [c_isShelf, g1, bd2_s, if_neg b2t0, c_isShelf, g2, bd2_s, if_neg b2t0, ixR_ok hp (by decide)]
        simp only [bind_s]
        rw [ixR_ok hq' (by decide)]
        simp only [bind_s, c_holdsPiece o c hp, c_holdsPiece o c hq', c_holdsRow o c hp, c_holdsRow o c hq', bd2_s, c_refuse (σ := σ) (v := -2) (j := 2) (by decide) (by decide), (c p hp).1, (c q hq').1]
      have me : ∀ u, XM X u → f_X12_copy (nI p) (nI q) x3 x4 x5 u = (if b2 (decide (1 ≤ hq X.2.1 p ∧ hq X.2.1 p < 101)) = 0 then if b2 (decide (1 ≤ hq X.2.1 q ∧ hq X.2.1 q < 101)) = 0 then (if b2 (decide (101 ≤ hq X.2.1 p)) = 0 then f_X12_copy_76 (nI p) (nI q) x3 x4 x5 u else if b2 (decide (101 ≤ hq X.2.1 q)) = 0 then f_X12_copy_76 (nI p) (nI q) x3 x4 x5 u else if hI (hq X.2.1 p) = hI (hq X.2.1 q) then f_X12_copy_76 (nI p) (nI q) x3 x4 x5 u else some (-2, rM 2 u)) else some (-2, rM 2 u) else some (-2, rM 2 u)) := by
        intro u mu
        have m := mu.2.1
        unfold f_X12_copy
        rw [m_isShelf, g1, bd2_s, if_neg b2t0, m_isShelf, g2, bd2_s, if_neg b2t0]
        simp only [m_holdsPiece o m hp, m_holdsPiece o m hq', m_isRow o m hp, m_isRow o m hq', bd2_s, m_no (σ := u) (v := -2) (j := 2) (by decide) (by decide), rdI_ok hp (show 8 < 2 ^ 31 by decide), rdI_ok hq' (show 8 < 2 ^ 31 by decide), bind_s, (m p hp).1, (m q hq').1]
      by_cases w1 : 1 ≤ hq X.2.1 p ∧ hq X.2.1 p < 101
      · simp only [decide_eq_true w1, if_neg b2t0] at ce me
        exact OUT_ref h (j := 2) (by decide) (by decide) ce me
      · by_cases w2 : 1 ≤ hq X.2.1 q ∧ hq X.2.1 q < 101
        · simp only [decide_eq_false w1, if_pos b2f0, decide_eq_true w2, if_neg b2t0] at ce me
          exact OUT_ref h (j := 2) (by decide) (by decide) ce me
        · simp only [decide_eq_false w1, if_pos b2f0, decide_eq_false w2] at ce me
          by_cases w3 : 101 ≤ hq X.2.1 p
          · by_cases w4 : 101 ≤ hq X.2.1 q
            · simp only [decide_eq_true w3, decide_eq_true w4, if_neg b2t0] at ce me
              by_cases w5 : hI (hq X.2.1 p) = hI (hq X.2.1 q)
              · simp only [if_pos w5] at ce me
                exact q_copyG h hp hq' w1 w2 ce me
              · simp only [if_neg w5] at ce me
                exact OUT_ref h (j := 2) (by decide) (by decide) ce me
            · simp only [decide_eq_true w3, decide_eq_false w4, if_neg b2t0, if_pos b2f0] at ce me
              exact q_copyG h hp hq' w1 w2 ce me
          · simp only [decide_eq_false w3, if_pos b2f0] at ce me
            exact q_copyG h hp hq' w1 w2 ce me
end
