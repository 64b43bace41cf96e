section
/-! ===== a text is evaluated ===== -/
variable {τ : ST} {a1 n1 fr len n0 so run : Nat} {kf : Nat → Nat} {txt : Nat → Int32}
/-- where a text is evaluated -/
def SEM (txt : Nat → Int32) (len n0 : Nat) (kf : Nat → Nat) (so run a1 n1 fr : Nat) (τ : ST) : Prop := (so < 1024 ∧ run < 8 ∧ fr + 60 ≤ n1 ∧ n1 ≤ 600) ∧ RBt kf n0 so run ∧ (∀ j, j < len → τ.1 a1 (fr + j) = txt j) ∧ ∀ u, u < n0 → τ.1 266 u = nI (nowv kf so run u)
noncomputable abbrev HO (a1 n1 fr len : Nat) (τ : ST) : Option (Int32 × ST) := f_X12_holds_ a1 n1 (nI fr) (nI len) τ
/-- the evaluation has come to p with this -/
def VAL (a1 n1 fr len : Nat) (τ : ST) (x4 : Int32) (p : Nat) : Prop := ∃ m, 100 ≤ m + p ∧ HO a1 n1 fr len τ = f_X12_holds__6 a1 n1 m (nI fr) (nI len) x4 (nI p) τ
theorem VAL_0 : VAL a1 n1 fr len τ (nI 1) 0 := ⟨FU, by rw [FU_eq]; omega, rfl⟩
theorem sem_rd (h : SEM txt len n0 kf so run a1 n1 fr τ) (hl : len ≤ 60) {j : Nat} (hj : j < len) : rdI τ a1 n1 (nI (fr + j)) = some (txt j) := by
  obtain ⟨⟨-, -, h1, h2⟩, -, h3, -⟩ := h
  rw [rdI_ok (show fr + j < n1 by omega) (by omega), h3 j hj]
/-- an atom: a thing, perhaps not, perhaps above a bound -/
def av (d : Nat) (neg : Bool) (bo : Option Nat) (so run : Nat) : Bool := xor neg (match bo with
  | none => so.testBit d
  | some b => decide (b < run))
def bl : Option Nat → Nat
  | none => 1
  | some _ => 3
theorem bl_pos (bo : Option Nat) : 1 ≤ bl bo := by
  cases bo with
  | none => exact Nat.le_refl 1
  | some b => show 1 ≤ 3; omega
def bdv : Option Nat → Int32
  | none => -1
  | some b => nI b
def alen (neg : Bool) (bo : Option Nat) : Nat := (if neg = true then 1 else 0) + bl bo
def ATb (txt : Nat → Int32) (len q : Nat) : Option Nat → Prop
  | none => q + 1 = len ∨ txt (q + 1) ≠ nI 62
  | some b => b ≤ 7 ∧ txt (q + 1) = nI 62 ∧ txt (q + 2) = nI (48 + b)
/-- the letters of an atom stand at p -/
def ATO (txt : Nat → Int32) (len p d : Nat) (neg : Bool) (bo : Option Nat) : Prop := p + alen neg bo ≤ len ∧ (neg = true → txt p = nI 33) ∧ txt (p + (if neg = true then 1 else 0)) = nI (48 + d) ∧ ATb txt len (p + (if neg = true then 1 else 0)) bo
theorem nI_d48 (d : Nat) : nI (48 + d) - nI 48 = nI d := by rw [nI_sub (by omega), Nat.add_sub_cancel_left]
theorem dig_ne {d k : Nat} (hd : d < 10) (hk : k < 48 ∨ 57 < k) (hk2 : k < 2 ^ 31) : ¬ nI (48 + d) = nI k := fun z => by have := (nI_eq (by omega) hk2).mp z; omega
theorem b2_nI (b : Bool) : b2 b = nI (if b = true then 1 else 0) := by cases b <;> rfl
theorem ev144 {k6 : Int32 → Int32 → Int32 → Int32 → ST → Option (Int32 × ST)} (x2 x3 x5 : Int32) (X4 neg vb : Bool) (x8 x9 : Int32) (hv : (x9 < x8) ↔ vb = true) : f_X12_holds__144 a1 n1 k6 x2 x3 (b2 X4) x5 (b2 neg) x8 x9 τ = k6 x2 x3 (b2 (X4 && xor neg vb)) x5 τ := by
  unfold f_X12_holds__144 f_X12_holds__161
  cases X4 with
  | false => rw [if_pos b2f0]; rfl
  | true =>
    rw [if_neg b2t0]
    cases vb with
    | true =>
      rw [if_pos (hv.mpr rfl)]
      cases neg
      · rw [if_neg (show ¬ nI 1 = b2 false by decide)]; rfl
      · rw [if_pos (show nI 1 = b2 true by decide)]; rfl
    | false =>
      rw [if_neg (fun z => by have := hv.mp z; cases this)]
      cases neg
      · rw [if_pos (show nI 0 = b2 false by decide)]; rfl
      · rw [if_neg (show ¬ nI 0 = b2 true by decide)]; rfl
theorem nowv_lt (hr : run < 8) (u : Nat) : nowv kf so run u < 8 := by
  unfold nowv
  split
  · exact hr
  · split <;> omega
theorem nowv_pos (hd : RBt kf n0 so run) {d : Nat} (h : d < n0) : (0 < nowv kf so run d) ↔ so.testBit d = true := by
  unfold nowv
  by_cases z : kf d = 3
  · rw [if_pos z, hd d h z, decide_eq_true_iff]
  · rw [if_neg z]
    split
    · rename_i e; exact ⟨fun _ => e, fun _ => by omega⟩
    · rename_i e; exact ⟨fun q => absurd q (by omega), fun q => absurd q e⟩
theorem ev89 (h : SEM txt len n0 kf so run a1 n1 fr τ) (hl : len ≤ 60) (hn0 : n0 ≤ 10) {k6 : Int32 → Int32 → Int32 → Int32 → ST → Option (Int32 × ST)} {p d : Nat} {neg : Bool} {bo : Option Nat} (hd : d < n0) (hb : bo ≠ none → kf d = 3) (at_ : ATO txt len p d neg bo) (X4 : Bool) : f_X12_holds__89 a1 n1 k6 (nI fr) (nI len) (b2 X4) (nI (p + (if neg = true then 1 else 0))) (b2 neg) τ = k6 (nI fr) (nI len) (b2 (X4 && av d neg bo so run)) (nI (p + alen neg bo)) τ := by
  have hr := h.1.2.1
  obtain ⟨a, b, c, e⟩ := at_
  have hal : p + alen neg bo = p + (if neg = true then 1 else 0) + bl bo := by unfold alen; omega
  have hbl := bl_pos bo
  have hq : p + (if neg = true then 1 else 0) < len := by omega
  generalize hqq : p + (if neg = true then 1 else 0) = q at *
  have vl := nowv_lt (kf := kf) (so := so) hr d
  unfold f_X12_holds__89
  rw [nI_add, sem_rd h hl hq, c, bind_s, nI_d48, rdI_ok (show d < 10 by omega) (by decide), h.2.2.2 d hd, bind_s, nI_add]
  cases bo with
  | none =>
    have hal : p + alen neg none = q + 1 := hal
    have e : q + 1 = len ∨ txt (q + 1) ≠ nI 62 := e
    have fin : f_X12_holds__144 a1 n1 k6 (nI fr) (nI len) (b2 X4) (nI (q + 1)) (b2 neg) (nI (nowv kf so run d)) (nI 0) τ = k6 (nI fr) (nI len) (b2 (X4 && av d neg none so run)) (nI (p + alen neg none)) τ := by
      rw [ev144 (nI fr) (nI len) (nI (q + 1)) X4 neg (so.testBit d) _ _ ((nI_ltI (by omega) (by omega)).trans (nowv_pos h.2.1 hd)), hal]
      rfl
    by_cases z : q + 1 < len
    · rw [if_pos ((nI_ltI (by omega) (by omega)).mpr z), nI_add, sem_rd h hl z, bind_s]
      have e62 : txt (q + 1) ≠ nI 62 := e.resolve_left (by omega)
      rw [if_neg e62]
      exact fin
    · rw [if_neg (fun y => z ((nI_ltI (by omega) (by omega)).mp y))]
      exact fin
  | some b =>
    have hal : p + alen neg (some b) = q + 3 := hal
    obtain ⟨b7, e1, e2⟩ := e
    have k3 := hb (by simp)
    rw [if_pos ((nI_ltI (by omega) (by omega)).mpr (show q + 1 < len by omega)), nI_add, sem_rd h hl (show q + 1 < len by omega), e1, bind_s, if_pos rfl, nI_add, show fr + (q + 1) + 1 = fr + (q + 2) by omega, sem_rd h hl (show q + 2 < len by omega), e2, bind_s, nI_d48, nI_add]
    have ev : nowv kf so run d = run := by unfold nowv; rw [if_pos k3]
    rw [ev144 (nI fr) (nI len) (nI (q + 1 + 2)) X4 neg (decide (b < run)) _ _ (by rw [ev, decide_eq_true_iff]; exact nI_ltI (by omega) (by omega)), hal, show q + 1 + 2 = q + 3 by omega]
    rfl
theorem ev_atom (h : SEM txt len n0 kf so run a1 n1 fr τ) (hl : len ≤ 60) (hn0 : n0 ≤ 10) {p d : Nat} {neg : Bool} {bo : Option Nat} (hd : d < n0) (hb : bo ≠ none → kf d = 3) (at_ : ATO txt len p d neg bo) {X4 : Bool} (v : VAL a1 n1 fr len τ (b2 X4) p) : VAL a1 n1 fr len τ (b2 (X4 && av d neg bo so run)) (p + alen neg bo) := by
  obtain ⟨m, hm, e⟩ := v
  have h89 := fun k6 => ev89 (k6 := k6) h hl hn0 hd hb at_ X4
  obtain ⟨a, b, c, -⟩ := at_
  have al1 : 1 ≤ alen neg bo := by unfold alen; have := bl_pos bo; omega
  have hp : p < len := by omega
  obtain ⟨m, rfl⟩ : ∃ z, m = z + 1 := ⟨m - 1, by omega⟩
  refine ⟨m, by omega, ?_⟩
  rw [e, f_X12_holds__6, if_pos ((nI_ltI (by omega) (by omega)).mpr hp), nI_add, sem_rd h hl hp, bind_s, bind_s]
  unfold f_X12_holds__79
  cases neg with
  | true =>
    rw [b rfl, if_neg (by decide), if_neg (by decide), if_neg (by decide), if_pos rfl, if_neg (by decide), nI_add]
    have := h89 (f_X12_holds__6 a1 n1 m)
    rw [if_pos rfl] at this
    exact this
  | false =>
    rw [if_neg (show ¬ false = true by decide), Nat.add_zero] at c
    rw [c, if_neg (dig_ne (by omega) (by omega) (by decide)), if_neg (dig_ne (by omega) (by omega) (by decide)), if_neg (dig_ne (by omega) (by omega) (by decide)), if_neg (dig_ne (by omega) (by omega) (by decide)), if_pos (by decide)]
    have := h89 (f_X12_holds__6 a1 n1 m)
    rw [if_neg (show ¬ false = true by decide), Nat.add_zero] at this
    exact this
theorem ev_and (h : SEM txt len n0 kf so run a1 n1 fr τ) (hl : len ≤ 60) {p : Nat} (hp : p < len) (e : txt p = nI 38) {x4 : Int32} (v : VAL a1 n1 fr len τ x4 p) : VAL a1 n1 fr len τ x4 (p + 1) := by
  obtain ⟨m, hm, e0⟩ := v
  obtain ⟨m, rfl⟩ : ∃ z, m = z + 1 := ⟨m - 1, by omega⟩
  refine ⟨m, by omega, ?_⟩
  rw [e0, f_X12_holds__6, if_pos ((nI_ltI (by omega) (by omega)).mpr hp), nI_add, sem_rd h hl hp, e, bind_s, if_neg (by decide), bind_s, if_neg (by decide), if_pos rfl, nI_add]
theorem ev_or (h : SEM txt len n0 kf so run a1 n1 fr τ) (hl : len ≤ 60) {p : Nat} (hp : p < len) (e : txt p = nI 124) {X4 : Bool} (v : VAL a1 n1 fr len τ (b2 X4) p) : (X4 = true ∧ HO a1 n1 fr len τ = some (nI 1, τ)) ∨ (X4 = false ∧ VAL a1 n1 fr len τ (nI 1) (p + 1)) := by
  obtain ⟨m, hm, e0⟩ := v
  obtain ⟨m, rfl⟩ : ∃ z, m = z + 1 := ⟨m - 1, by omega⟩
  rw [f_X12_holds__6, if_pos ((nI_ltI (by omega) (by omega)).mpr hp), nI_add, sem_rd h hl hp, e, bind_s, if_neg (by decide), bind_s, if_pos rfl] at e0
  cases X4 with
  | true => left; rw [if_neg b2t0] at e0; exact ⟨rfl, e0⟩
  | false => right; rw [if_pos b2f0, nI_add] at e0; exact ⟨rfl, m, by omega, e0⟩
theorem ev_end (h : SEM txt len n0 kf so run a1 n1 fr τ) (hl : len ≤ 60) {p : Nat} (hp : p = len ∨ (p < len ∧ txt p = nI 58)) {X4 : Bool} (v : VAL a1 n1 fr len τ (b2 X4) p) : HO a1 n1 fr len τ = some (b2 X4, τ) := by
  obtain ⟨m, hm, e0⟩ := v
  obtain ⟨m, rfl⟩ : ∃ z, m = z + 1 := ⟨m - 1, by omega⟩
  rw [e0, f_X12_holds__6]
  rcases hp with rfl | ⟨hp, e⟩
  · rw [if_neg (fun w => Nat.lt_irrefl _ ((nI_ltI (by omega) (by omega)).mp w)), zr_b2]
  · rw [if_pos ((nI_ltI (by omega) (by omega)).mpr hp), nI_add, sem_rd h hl hp, e, bind_s, if_pos rfl, zr_b2]
end
section
/-! ===== the class closes an atom ===== -/
variable {σ : ST}
/-- rows of ALLs as they may be -/
def ROWS (σ : ST) (n : Nat) : Prop := ∀ i, i < n → ∃ x1 x2, x1 < 1024 ∧ x2 < 1024 ∧ σ.1 191 i = nI x1 ∧ σ.1 192 i = nI x2
abbrev MT (σ : ST) (so run i : Nat) : Bool := mt (σ.1 191) (σ.1 192) (σ.1 193) (σ.1 194) so run i
theorem and_or1 {so x d : Nat} (hs : so < 1024) (hx : x < 1024) (hd : d < 10) : decide (nI so &&& (nI x ||| nI (2 ^ d)) = nI x ||| nI (2 ^ d)) = (decide (nI so &&& nI x = nI x) && so.testBit d) := by
  have hb : 2 ^ d < 2 ^ 10 := Nat.pow_lt_pow_right (by omega) hd
  have ho : x ||| 2 ^ d < 2 ^ 10 := Nat.or_lt_two_pow hx hb
  have e1 : nI x ||| nI (2 ^ d) = nI (x ||| 2 ^ d) := nI_or _ _
  have e2 : nI so &&& nI (x ||| 2 ^ d) = nI (so &&& (x ||| 2 ^ d)) := nI_and _ _
  have e3 : nI so &&& nI x = nI (so &&& x) := nI_and _ _
  have l2 : so &&& (x ||| 2 ^ d) ≤ so := Nat.and_le_left
  have l3 : so &&& x ≤ so := Nat.and_le_left
  rw [e1, e2, e3, Bool.eq_iff_iff, decide_eq_true_iff, Bool.and_eq_true, decide_eq_true_iff]
  rw [nI_eq (by omega) (by omega), nI_eq (by omega) (by omega), sub_tb, sub_tb]
  constructor
  · intro h
    exact ⟨fun j hj => h j (by rw [tb_set, hj]; rfl), h d (by rw [tb_set, decide_eq_true rfl, Bool.or_true])⟩
  · rintro ⟨h1, h2⟩ j hj
    rw [tb_set, Bool.or_eq_true, decide_eq_true_iff] at hj
    rcases hj with hj | hj
    · exact h1 j hj
    · rw [← hj]; exact h2
theorem and_or2 {so x d : Nat} (hs : so < 1024) (hx : x < 1024) (hd : d < 10) : decide (nI so &&& (nI x ||| nI (2 ^ d)) = 0) = (decide (nI so &&& nI x = 0) && !so.testBit d) := by
  have e1 : nI x ||| nI (2 ^ d) = nI (x ||| 2 ^ d) := nI_or _ _
  have e2 : nI so &&& nI (x ||| 2 ^ d) = nI (so &&& (x ||| 2 ^ d)) := nI_and _ _
  have e3 : nI so &&& nI x = nI (so &&& x) := nI_and _ _
  have l2 : so &&& (x ||| 2 ^ d) ≤ so := Nat.and_le_left
  have l3 : so &&& x ≤ so := Nat.and_le_left
  have tz : ∀ y : Nat, y = 0 ↔ ∀ j, y.testBit j = false := fun y => ⟨fun h j => by rw [h]; exact Nat.zero_testBit j, fun h => Nat.eq_of_testBit_eq (fun j => by rw [h j, Nat.zero_testBit])⟩
  rw [e1, e2, e3, Bool.eq_iff_iff, decide_eq_true_iff, Bool.and_eq_true, decide_eq_true_iff]
  rw [nI_eqz (by omega), nI_eqz (by omega), tz, tz]
  constructor
  · intro h
    refine ⟨fun j => ?_, ?_⟩
    · have := h j
      rw [Nat.testBit_and, tb_set] at this
      rw [Nat.testBit_and]
      cases z1 : so.testBit j <;> cases z2 : x.testBit j <;> simp_all
    · have := h d
      rw [Nat.testBit_and, tb_set, decide_eq_true rfl, Bool.or_true, Bool.and_true] at this
      rw [this]; rfl
  · rintro ⟨h1, h2⟩ j
    have := h1 j
    rw [Nat.testBit_and] at this
    rw [Nat.testBit_and, tb_set]
    by_cases z : d = j
    · subst z
      cases z1 : so.testBit d
      · rfl
      · rw [z1] at h2; cases h2
    · rw [decide_eq_false z, Bool.or_false]; exact this
theorem max_lt {a b x : Int32} : ((if a < b then b else a) < x) ↔ (a < x ∧ b < x) := by
  by_cases h : a < b
  · rw [if_pos h]
    exact ⟨fun q => ⟨Int32.lt_trans h q, q⟩, fun q => q.2⟩
  · rw [if_neg h]
    exact ⟨fun q => ⟨q, Int32.lt_of_le_of_lt (Int32.not_lt.mp h) q⟩, fun q => q.1⟩
theorem min_lt {a b x : Int32} : ((if b < a then b else a) < x) ↔ (a < x ∨ b < x) := by
  by_cases h : b < a
  · rw [if_pos h]
    exact ⟨Or.inr, fun q => q.elim (fun q => Int32.lt_trans h q) id⟩
  · rw [if_neg h]
    exact ⟨Or.inl, fun q => q.elim id (fun q => Int32.lt_of_le_of_lt (Int32.not_lt.mp h) q)⟩
theorem mt_T {r1 r2 r3 r4 : Nat → Int32} {so run i : Nat} (hs : so < 1024) (hr : run < 8) (e1 : r1 i = 0) (e2 : r2 i = 0) (e3 : r3 i = -1) (e4 : r4 i = nI 7) : mt r1 r2 r3 r4 so run i = true := by
  unfold mt
  have a0 : nI so &&& (0 : Int32) = 0 := by
    have : nI so &&& nI 0 = nI (so &&& 0) := nI_and _ _
    rw [Nat.and_zero] at this
    exact this
  rw [e1, e2, e3, e4, decide_eq_true a0, decide_eq_true (show (-1 : Int32) < nI run from Int32.lt_of_lt_of_le (show (-1 : Int32) < 0 by decide) (Int32.not_lt.mp (nI_pos (by omega)))), decide_eq_false (show ¬ nI 7 < nI run from fun w => by have := (nI_ltI (by omega) (by omega)).mp w; omega)]
  rfl
/-- the last ALL of n takes an atom in -/
theorem t_close17 {n d : Nat} {neg : Bool} {bo : Option Nat} (h190 : σ.1 190 0 = nI (n + 1)) (hn : n < 30) (hd : d < 10) (e5 : σ.1 188 5 = nI d) (e4 : σ.1 188 4 = b2 neg) (e6 : σ.1 188 6 = bdv bo) (hb : ∀ b, bo = some b → b ≤ 7) (hR : ROWS σ (n + 1)) : ∃ s, f_X5_closeAtom_17 σ = some s ∧ Fr (fun y => 191 ≤ y ∧ y ≤ 194) σ s ∧ ROWS s (n + 1) ∧ ∀ so run, so < 1024 → run < 8 → (∀ i, i < n → MT s so run i = MT σ so run i) ∧ MT s so run n = (MT σ so run n && av d neg bo so run) := by
  obtain ⟨x1, x2, l1, l2, q1, q2⟩ := hR n (by omega)
  have e1 : nI (n + 1) - nI 1 = nI n := nI_s1 n
  have hb10 : 2 ^ d < 2 ^ 10 := Nat.pow_lt_pow_right (by omega) hd
  have bit : nI 1 <<< (nI d &&& 31) = nI (2 ^ d) := by rw [nI_shlm (by omega), Nat.one_mul]
  have rows : ∀ y v, 191 ≤ y → y ≤ 194 → ((y = 191 ∨ y = 192) → ∃ x, x < 1024 ∧ v = nI x) → ROWS (setI σ y n v) (n + 1) := by
    intro y v h1 h2 h3 i hi
    obtain ⟨y1, y2, k1, k2, k3, k4⟩ := hR i hi
    by_cases z : i = n
    · subst z
      by_cases zy : y = 191
      · obtain ⟨x, hx, rfl⟩ := h3 (Or.inl zy)
        subst zy
        exact ⟨x, y2, hx, k2, I_at _ _ _ _, by rw [I_ne (Or.inl (by decide))]; exact k4⟩
      · by_cases zz : y = 192
        · obtain ⟨x, hx, rfl⟩ := h3 (Or.inr zz)
          subst zz
          exact ⟨y1, x, k1, hx, by rw [I_ne (Or.inl (by decide))]; exact k3, I_at _ _ _ _⟩
        · exact ⟨y1, y2, k1, k2, by rw [I_ne (Or.inl (by omega))]; exact k3, by rw [I_ne (Or.inl (by omega))]; exact k4⟩
    · exact ⟨y1, y2, k1, k2, by rw [I_ne (Or.inr z)]; exact k3, by rw [I_ne (Or.inr z)]; exact k4⟩
  have old : ∀ y v so run i, i ≠ n → MT (setI σ y n v) so run i = MT σ so run i := fun y v so run i hi => by
    unfold MT mt
    rw [I_ne (Or.inr hi), I_ne (Or.inr hi), I_ne (Or.inr hi), I_ne (Or.inr hi)]
  unfold f_X5_closeAtom_17
  cases bo with
  | none =>
    have e6 : σ.1 188 6 = -1 := e6
    rw [e6, if_pos rfl, e5, e4]
    unfold f_X1_addSo
    rw [h190, e1, if_neg (nI_pos (by omega)), bit]
    cases neg with
    | false =>
      rw [if_pos b2f0, rdI_ok hn (by decide), bind_s, wrI_ok hn (by decide), bind_s, bind_s]
      refine ⟨setI σ (190 + 1) n (σ.1 (190 + 1) n ||| nI (2 ^ d)), rfl, Fr_setI (by omega), rows 191 _ (by omega) (by omega) (fun _ => ⟨x1 ||| 2 ^ d, Nat.or_lt_two_pow l1 hb10, by rw [q1]; exact nI_or _ _⟩), fun so run hs hr => ⟨fun i hi => old _ _ _ _ _ (by omega), ?_⟩⟩
      unfold MT mt av
      rw [I_at, I_ne (Or.inl (by decide)), I_ne (Or.inl (by decide)), I_ne (Or.inl (by decide)), q1, and_or1 hs l1 hd, Bool.false_xor]
      cases so.testBit d <;> simp
    | true =>
      rw [if_neg b2t0, rdI_ok hn (by decide), bind_s, wrI_ok hn (by decide), bind_s, bind_s]
      refine ⟨setI σ (190 + 2) n (σ.1 (190 + 2) n ||| nI (2 ^ d)), rfl, Fr_setI (by omega), rows 192 _ (by omega) (by omega) (fun _ => ⟨x2 ||| 2 ^ d, Nat.or_lt_two_pow l2 hb10, by rw [q2]; exact nI_or _ _⟩), fun so run hs hr => ⟨fun i hi => old _ _ _ _ _ (by omega), ?_⟩⟩
      unfold MT mt av
      rw [I_at, I_ne (Or.inl (by decide)), I_ne (Or.inl (by decide)), I_ne (Or.inl (by decide)), q2, and_or2 hs l2 hd, Bool.true_xor]
      cases so.testBit d <;> simp
  | some b =>
    have b7 := hb b rfl
    have e6 : σ.1 188 6 = nI b := e6
    rw [e6, if_neg (show ¬ nI b = -1 by rw [nI_nm1 (by omega)]; exact id), e4]
    unfold f_X1_addAbove
    rw [h190, e1, if_neg (nI_pos (by omega))]
    cases neg with
    | false =>
      rw [if_pos b2f0, rdI_ok hn (by decide), bind_s, wrI_ok hn (by decide), bind_s, bind_s]
      refine ⟨setI σ (190 + 3) n (if σ.1 (190 + 3) n < nI b then nI b else σ.1 (190 + 3) n), rfl, Fr_setI (by omega), rows 193 _ (by omega) (by omega) (fun q => absurd q (by omega)), fun so run hs hr => ⟨fun i hi => old _ _ _ _ _ (by omega), ?_⟩⟩
      unfold MT mt av
      rw [I_at, I_ne (Or.inl (by decide)), I_ne (Or.inl (by decide)), I_ne (Or.inl (by decide)), Bool.false_xor]
      have e3 : decide ((if σ.1 (190 + 3) n < nI b then nI b else σ.1 (190 + 3) n) < nI run) = (decide (σ.1 193 n < nI run) && decide (b < run)) := by
        rw [← Bool.decide_and]
        exact decide_eq_decide.mpr (max_lt.trans (and_congr Iff.rfl (nI_ltI (by omega) (by omega))))
      rw [e3]
      simp only
      cases decide (b < run) <;> simp
    | true =>
      rw [if_neg b2t0, rdI_ok hn (by decide), bind_s, wrI_ok hn (by decide), bind_s, bind_s]
      refine ⟨setI σ (190 + 4) n (if nI b < σ.1 (190 + 4) n then nI b else σ.1 (190 + 4) n), rfl, Fr_setI (by omega), rows 194 _ (by omega) (by omega) (fun q => absurd q (by omega)), fun so run hs hr => ⟨fun i hi => old _ _ _ _ _ (by omega), ?_⟩⟩
      unfold MT mt av
      rw [I_at, I_ne (Or.inl (by decide)), I_ne (Or.inl (by decide)), I_ne (Or.inl (by decide)), Bool.true_xor]
      have e3 : decide ((if nI b < σ.1 (190 + 4) n then nI b else σ.1 (190 + 4) n) < nI run) = (decide (σ.1 194 n < nI run) || decide (b < run)) := by
        rw [← Bool.decide_or]
        exact decide_eq_decide.mpr (min_lt.trans (or_congr Iff.rfl (nI_ltI (by omega) (by omega))))
      rw [e3]
      simp only
      cases decide (b < run) <;> simp
theorem t_close {n d : Nat} {w neg : Bool} {bo : Option Nat} (h190 : σ.1 190 0 = nI n) (hn : n < 30 ∨ (n ≤ 30 ∧ w = false)) (h1 : w = false → 1 ≤ n) (e3 : σ.1 188 3 = b2 w) (hd : d < 10) (e5 : σ.1 188 5 = nI d) (e4 : σ.1 188 4 = b2 neg) (e6 : σ.1 188 6 = bdv bo) (hb : ∀ b, bo = some b → b ≤ 7) (hR : ROWS σ n) : ∃ s n', f_X5_closeAtom σ = some s ∧ n' + 1 = (if w = true then n + 1 else n) ∧ n' < 30 ∧ Fr (fun y => 190 ≤ y ∧ y ≤ 194) σ s ∧ s.1 190 0 = nI (n' + 1) ∧ ROWS s (n' + 1) ∧ ∀ so run, so < 1024 → run < 8 → (∀ i, i < n' → MT s so run i = MT σ so run i) ∧ MT s so run n' = ((if w = true then true else MT σ so run n') && av d neg bo so run) := by
  unfold f_X5_closeAtom
  cases w with
  | false =>
    have hn1 := h1 rfl
    have hn2 : n ≤ 30 := by omega
    obtain ⟨m, rfl⟩ : ∃ z, n = z + 1 := ⟨n - 1, by omega⟩
    rw [e3, if_pos b2f0]
    obtain ⟨s, e, F, R, M⟩ := t_close17 h190 (by omega) hd e5 e4 e6 hb hR
    exact ⟨s, m, e, rfl, by omega, F.mono (fun y hy => by omega), by rw [F.I (by omega)]; exact h190, R, fun so run hs hr => M so run hs hr⟩
  | true =>
    have hn2 : n < 30 := by rcases hn with h | h; exact h; cases h.2
    rw [e3, if_neg b2t0]
    unfold f_X1_openAll
    rw [h190, if_pos ((nI_ltI (by omega) (by omega)).mpr hn2), wrI_ok hn2 (by decide), bind_s, I_ne (Or.inl (by decide)), h190, wrI_ok hn2 (by decide), bind_s, I_ne (Or.inl (by decide)), I_ne (Or.inl (by decide)), h190, wrI_ok hn2 (by decide), bind_s, I_ne (Or.inl (by decide)), I_ne (Or.inl (by decide)), I_ne (Or.inl (by decide)), h190, wrI_ok hn2 (by decide), bind_s, I_ne (Or.inl (by decide)), I_ne (Or.inl (by decide)), I_ne (Or.inl (by decide)), I_ne (Or.inl (by decide)), h190, pfI_s, bind_s, bind_s, nI_add]
    have F0 : Fr (fun y => 190 ≤ y ∧ y ≤ 194) σ (setI (setI (setI (setI (setI σ (190 + 1) n (nI 0)) (190 + 2) n (nI 0)) (190 + 3) n (-1)) (190 + 4) n (nI 7)) 190 0 (nI (n + 1))) := ((((Fr_setI (W := fun y => 190 ≤ y ∧ y ≤ 194) (by omega)).tr (Fr_setI (by omega))).tr (Fr_setI (by omega))).tr (Fr_setI (by omega))).tr (Fr_setI (by omega))
    have o : ∀ y i, y ≠ 190 → i ≠ n → (setI (setI (setI (setI (setI σ (190 + 1) n (nI 0)) (190 + 2) n (nI 0)) (190 + 3) n (-1)) (190 + 4) n (nI 7)) 190 0 (nI (n + 1))).1 y i = σ.1 y i := fun y i h1 h2 => by rw [I_ne (Or.inl h1), I_ne (Or.inr h2), I_ne (Or.inr h2), I_ne (Or.inr h2), I_ne (Or.inr h2)]
    have v1 : (setI (setI (setI (setI (setI σ (190 + 1) n (nI 0)) (190 + 2) n (nI 0)) (190 + 3) n (-1)) (190 + 4) n (nI 7)) 190 0 (nI (n + 1))).1 191 n = 0 := by rw [I_ne (Or.inl (by decide)), I_ne (Or.inl (by decide)), I_ne (Or.inl (by decide)), I_ne (Or.inl (by decide)), I_at]; rfl
    have v2 : (setI (setI (setI (setI (setI σ (190 + 1) n (nI 0)) (190 + 2) n (nI 0)) (190 + 3) n (-1)) (190 + 4) n (nI 7)) 190 0 (nI (n + 1))).1 192 n = 0 := by rw [I_ne (Or.inl (by decide)), I_ne (Or.inl (by decide)), I_ne (Or.inl (by decide)), I_at]; rfl
    have v3 : (setI (setI (setI (setI (setI σ (190 + 1) n (nI 0)) (190 + 2) n (nI 0)) (190 + 3) n (-1)) (190 + 4) n (nI 7)) 190 0 (nI (n + 1))).1 193 n = -1 := by rw [I_ne (Or.inl (by decide)), I_ne (Or.inl (by decide)), I_at]
    have v4 : (setI (setI (setI (setI (setI σ (190 + 1) n (nI 0)) (190 + 2) n (nI 0)) (190 + 3) n (-1)) (190 + 4) n (nI 7)) 190 0 (nI (n + 1))).1 194 n = nI 7 := by rw [I_ne (Or.inl (by decide)), I_at]
    have v5 : (setI (setI (setI (setI (setI σ (190 + 1) n (nI 0)) (190 + 2) n (nI 0)) (190 + 3) n (-1)) (190 + 4) n (nI 7)) 190 0 (nI (n + 1))).1 190 0 = nI (n + 1) := I_at _ _ _ _
    generalize setI (setI (setI (setI (setI σ (190 + 1) n (nI 0)) (190 + 2) n (nI 0)) (190 + 3) n (-1)) (190 + 4) n (nI 7)) 190 0 (nI (n + 1)) = s0 at *
    have hR0 : ROWS s0 (n + 1) := by
      intro i hi
      by_cases z : i = n
      · subst z; exact ⟨0, 0, by omega, by omega, v1, v2⟩
      · obtain ⟨x1, x2, k1, k2, k3, k4⟩ := hR i (by omega)
        exact ⟨x1, x2, k1, k2, by rw [o _ _ (by decide) z]; exact k3, by rw [o _ _ (by decide) z]; exact k4⟩
    obtain ⟨s, e, F, R, M⟩ := t_close17 v5 hn2 hd (by rw [F0.I (by omega)]; exact e5) (by rw [F0.I (by omega)]; exact e4) (by rw [F0.I (by omega)]; exact e6) hb hR0
    refine ⟨s, n, e, rfl, hn2, F0.tr (F.mono (fun y hy => by omega)), by rw [F.I (by omega)]; exact v5, R, fun so run hs hr => ?_⟩
    obtain ⟨M1, M2⟩ := M so run hs hr
    refine ⟨fun i hi => ?_, ?_⟩
    · rw [M1 i hi]
      unfold MT mt
      rw [o _ _ (by decide) (by omega), o _ _ (by decide) (by omega), o _ _ (by decide) (by omega), o _ _ (by decide) (by omega)]
    · rw [M2, if_pos rfl]
      have := mt_T (r1 := s0.1 191) (r2 := s0.1 192) (r3 := s0.1 193) (r4 := s0.1 194) hs hr v1 v2 v3 v4
      unfold MT
      rw [this]
end
