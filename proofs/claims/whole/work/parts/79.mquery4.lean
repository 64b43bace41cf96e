section
/-! ===== the reference's questions: in how many hours ===== -/
variable {A : AW} {σ : ST} {S h b p q : Nat} {x : Nat × Nat}
def Fq (W : Nat → Prop) (σ s : ST) : Prop := Fr (fun y => y = 247 ∨ W y) σ s ∧ ∀ k, k ≠ 40 → s.1 247 k = σ.1 247 k
theorem Fq.rf (W : Nat → Prop) (σ : ST) : Fq W σ σ := ⟨Fr.rf _ _, fun _ _ => rfl⟩
theorem Fq.tr {W : Nat → Prop} {σ s u : ST} (h : Fq W σ s) (g : Fq W s u) : Fq W σ u := ⟨h.1.tr g.1, fun k a => (g.2 k a).trans (h.2 k a)⟩
theorem Fq.mono {W V : Nat → Prop} {σ s : ST} (h : Fq V σ s) (hs : ∀ y, V y → W y) : Fq W σ s := ⟨h.1.mono (fun y q => q.elim Or.inl (fun q => Or.inr (hs y q))), h.2⟩
theorem Fq.I {W : Nat → Prop} {σ s : ST} (h : Fq W σ s) {y : Nat} (h1 : y ≠ 247) (h2 : ¬ W y) (k : Nat) : s.1 y k = σ.1 y k := h.1.I (fun q => q.elim h1 h2) k
theorem Fq_set {W : Nat → Prop} {σ : ST} {a k : Nat} {v : Int32} (hW : W a) (h : a ≠ 247) : Fq W σ (setI σ a k v) := ⟨Fr_setI (Or.inr hW), fun j _ => I_ne (Or.inl (fun q => h q.symm))⟩
theorem Fq_e {W : Nat → Prop} {σ s : ST} (h : Fe σ s) (hW : ∀ y, 278 ≤ y → y ≤ 281 → W y) : Fq W σ s := ⟨h.1.mono (fun y q => q.elim Or.inl (fun q => Or.inr (hW y q.1 q.2))), h.2⟩
theorem SV_fq {W : Nat → Prop} {s : ST} (v : SV A S x σ) (h : Fq W σ s) (hW : ∀ y, W y → 278 ≤ y) : SV A S x s := by
  obtain ⟨v1, v2, v3, v4⟩ := v
  have F : Fs W σ s := ⟨h.1, fun k _ b => h.2 k b⟩
  exact ⟨MB_fs v1 F (fun y hy => by have := hW y hy; omega), fun hh ss h1 h2 => by rw [h.I (by omega) (fun q => by have := hW _ q; omega)]; exact v2 hh ss h1 h2, by rw [h.2 39 (by omega)]; exact v3, fun q hh ss h1 h2 h3 => by rw [h.I (by omega) (fun q => by have := hW _ q; omega)]; exact v4 q hh ss h1 h2 h3⟩
/-- the fewest and the most -/
def MM (P : Nat → Prop) (v w : Int32) : Prop := (v = nI 100000000 ∧ w = -1 ∧ ∀ n, ¬ P n) ∨ ∃ lo hi, v = nI lo ∧ w = nI hi ∧ lo ≤ 12 ∧ hi ≤ 12 ∧ P lo ∧ P hi ∧ ∀ n, P n → lo ≤ n ∧ n ≤ hi
theorem MM_same {P R : Nat → Prop} {v w : Int32} (m : MM P v w) (e : ∀ n, R n ↔ P n) : MM R v w := by
  rcases m with ⟨h1, h2, h3⟩ | ⟨lo, hi, h1, h2, h3, h4, h5, h6, h7⟩
  · exact Or.inl ⟨h1, h2, fun n q => h3 n ((e n).mp q)⟩
  · exact Or.inr ⟨lo, hi, h1, h2, h3, h4, (e lo).mpr h5, (e hi).mpr h6, fun n q => h7 n ((e n).mp q)⟩
theorem mq1 : ∀ r : Fin 14, (if (-1 : Int32) < nI r.1 then nI r.1 else -1) = nI r.1 := by decide
theorem mq2 : ∀ a b : Fin 14, (if nI a.1 < nI b.1 then nI a.1 else nI b.1) = nI (if a.1 < b.1 then a.1 else b.1) := by decide
theorem mq3 : ∀ a b : Fin 14, (if nI a.1 < nI b.1 then nI b.1 else nI a.1) = nI (if a.1 < b.1 then b.1 else a.1) := by decide
theorem mq4 : ∀ a : Fin 14, (if nI a.1 < nI 100000000 then nI a.1 else nI 100000000) = nI a.1 := by decide
theorem mq5 : ∀ a : Fin 14, ¬ nI a.1 < 0 := by decide
theorem MM_add {P Q R : Nat → Prop} {v w v1 w1 : Int32} {d : Nat} (mP : MM P v w) (mQ : MM Q v1 w1) (hq : ∃ n, Q n) (h12 : ∀ m, Q m → m + d ≤ 12) (hR : ∀ n, R n ↔ P n ∨ ∃ m, Q m ∧ n = m + d) : MM R (if v1 + nI d < v then v1 + nI d else v) (if w < w1 + nI d then w1 + nI d else w) := by
  rcases mQ with ⟨-, -, q⟩ | ⟨lo1, hi1, rfl, rfl, b1, b2, b3, b4, b5⟩
  · exact absurd hq.choose_spec (q _)
  have l1 := h12 lo1 b3
  have l2 := h12 hi1 b4
  rw [nI_add, nI_add]
  rcases mP with ⟨rfl, rfl, q⟩ | ⟨lo, hi, rfl, rfl, a1, a2, a3, a4, a5⟩
  · rw [mq4 ⟨lo1 + d, by omega⟩, mq1 ⟨hi1 + d, by omega⟩]
    refine Or.inr ⟨_, _, rfl, rfl, l1, l2, (hR _).mpr (Or.inr ⟨_, b3, rfl⟩), (hR _).mpr (Or.inr ⟨_, b4, rfl⟩), fun n hn => ?_⟩
    rcases (hR n).mp hn with w | ⟨m, w, rfl⟩
    · exact absurd w (q n)
    · have := b5 m w; show lo1 + d ≤ m + d ∧ m + d ≤ hi1 + d; omega
  · rw [mq2 ⟨lo1 + d, by omega⟩ ⟨lo, by omega⟩, mq3 ⟨hi, by omega⟩ ⟨hi1 + d, by omega⟩]
    show MM R (nI (if lo1 + d < lo then lo1 + d else lo)) (nI (if hi < hi1 + d then hi1 + d else hi))
    refine Or.inr ⟨_, _, rfl, rfl, by split <;> assumption, by split <;> assumption, ?_, ?_, fun n hn => ?_⟩
    · split
      · exact (hR _).mpr (Or.inr ⟨_, b3, rfl⟩)
      · exact (hR _).mpr (Or.inl a3)
    · split
      · exact (hR _).mpr (Or.inr ⟨_, b4, rfl⟩)
      · exact (hR _).mpr (Or.inl a4)
    · rcases (hR n).mp hn with w | ⟨m, w, rfl⟩
      · have := a5 n w
        constructor <;> split <;> omega
      · have := b5 m w
        constructor <;> split <;> omega
/-- which hours count -/
def mkr (A : AW) (b s f act : Nat) : Bool := if b < 10 then (so A f (s % 32) (s / 32 % 8)).testBit b else decide (b = 10 + act)
def mkR (A : AW) (b p q h s f act : Nat) : Bool := decide (p ≤ h) && (decide (h ≤ q) && mkr A b s f act)
noncomputable def Rq (A : AW) (S : Nat) (x : Nat × Nat) (b p q h s n : Nat) : Prop := Rc (Op (EG A S x) (2 ^ cK A 1) (glS A S)) (2 ^ cK A 1) (mkR A b p q) h s n
theorem Rq_le {s n : Nat} (r : Rq A S x b p q h s n) : n ≤ h := Rc_le h s n r
theorem Rq_lt (a : AOK A) (hh : h ≤ 12) {s n : Nat} (r : Rq A S x b p q h s n) : FW A S x h s < 100000000 := by
  cases h with
  | zero =>
    have : s < 2 ^ cK A 1 := r.1
    show (if s < 2 ^ cK A 1 then 0 else NV) < 100000000
    rw [if_pos this]; decide
  | succ h =>
    obtain ⟨s', f, act, c, m, o, -, -⟩ := r
    have h1 := FW_99 a (show FW A S x h s' < 100000000 from o.2.1)
    have h2 : FW A S x (h + 1) s ≤ FW A S x h s' + c := Fw_step o.1 o.2.1
    have h3 := (EG_ok a h s' _ _ _ _ o.1).2.2.2.2
    omega
def PR (A : AW) (S : Nat) (x : Nat × Nat) (b p q h s0 : Nat) (M : List (Nat × Nat)) (t n : Nat) : Prop := ∃ s f act c m, OpX A S x h s f act t c ∧ Rq A S x b p q h s m ∧ n = m + (if mkR A b p q h s f act = true then 1 else 0) ∧ (s < s0 ∨ (s = s0 ∧ (f, act) ∈ M))
theorem PR_step (a : AOK A) {s0 e t n : Nat} (he : e < (EL A S x h s0).length) {z : Nat × Nat} (hz : (EL A S x h s0).getD e (0, 0) = z) : PR A S x b p q h s0 ((EL A S x h s0).take (e + 1)) t n ↔ PR A S x b p q h s0 ((EL A S x h s0).take e) t n ∨ (obX A S x h s0 z.1 z.2 = true ∧ t = tos A S h s0 z.1 z.2 ∧ ∃ m, Rq A S x b p q h s0 m ∧ n = m + (if mkR A b p q h s0 z.1 z.2 = true then 1 else 0)) := by
  constructor
  · rintro ⟨s, f, act, c, m, o, r1, r2, r | ⟨rfl, r⟩⟩
    · exact Or.inl ⟨s, f, act, c, m, o, r1, r2, Or.inl r⟩
    · rcases (tk_mem (d := (0, 0)) he).mp r with r | r
      · exact Or.inl ⟨s, f, act, c, m, o, r1, r2, Or.inr ⟨rfl, r⟩⟩
      · right
        rw [← hz, ← r]
        exact ⟨ob_iff.mpr ⟨t, c, o⟩, (EG_iff.mp o.1).2.1, m, r1, r2⟩
  · rintro (⟨s, f, act, c, m, o, r1, r2, r | ⟨rfl, r⟩⟩ | ⟨o, ht, m, r1, r2⟩)
    · exact ⟨s, f, act, c, m, o, r1, r2, Or.inl r⟩
    · exact ⟨s, f, act, c, m, o, r1, r2, Or.inr ⟨rfl, (tk_mem (d := (0, 0)) he).mpr (Or.inl r)⟩⟩
    · obtain ⟨t', c, o⟩ := ob_iff.mp o
      have : t' = t := by rw [ht]; exact (EG_iff.mp o.1).2.1
      subst this
      exact ⟨s0, z.1, z.2, c, m, o, r1, r2, Or.inr ⟨rfl, (tk_mem (d := (0, 0)) he).mpr (Or.inr hz.symm)⟩⟩
theorem PR_end (a : AOK A) {s0 t n : Nat} : PR A S x b p q h (s0 + 1) [] t n ↔ PR A S x b p q h s0 ((EL A S x h s0).take (EL A S x h s0).length) t n := by
  rw [List.take_length]
  constructor
  · rintro ⟨s, f, act, c, m, o, r1, r2, r | ⟨-, r⟩⟩
    · by_cases e : s = s0
      · subst e
        refine ⟨s, f, act, c, m, o, r1, r2, Or.inr ⟨rfl, ?_⟩⟩
        obtain ⟨-, rfl, rfl⟩ := EG_iff.mp o.1
        exact (EL_mem a).mpr o.1
      · exact ⟨s, f, act, c, m, o, r1, r2, Or.inl (by omega)⟩
    · cases r
  · rintro ⟨s, f, act, c, m, o, r1, r2, r | ⟨rfl, r⟩⟩
    · exact ⟨s, f, act, c, m, o, r1, r2, Or.inl (by omega)⟩
    · exact ⟨s, f, act, c, m, o, r1, r2, Or.inl (by omega)⟩
theorem PR_skip {s0 t n : Nat} (hn : ∀ m, ¬ Rq A S x b p q h s0 m) : PR A S x b p q h (s0 + 1) [] t n ↔ PR A S x b p q h s0 [] t n := by
  constructor
  · rintro ⟨s, f, act, c, m, o, r1, r2, r | ⟨-, r⟩⟩
    · by_cases e : s = s0
      · subst e; exact absurd r1 (hn m)
      · exact ⟨s, f, act, c, m, o, r1, r2, Or.inl (by omega)⟩
    · cases r
  · rintro ⟨s, f, act, c, m, o, r1, r2, r | ⟨-, r⟩⟩
    · exact ⟨s, f, act, c, m, o, r1, r2, Or.inl (by omega)⟩
    · cases r
theorem PR_0 {t n : Nat} : ¬ PR A S x b p q h 0 [] t n := by
  rintro ⟨s, f, act, c, m, o, r1, r2, r | ⟨-, r⟩⟩
  · omega
  · cases r
theorem PR_all (a : AOK A) {t n : Nat} : Rq A S x b p q (h + 1) t n ↔ PR A S x b p q h 1024 [] t n := by
  constructor
  · rintro ⟨s, f, act, c, m, o, r1, r2⟩; exact ⟨s, f, act, c, m, o, r1, r2, Or.inl (EG_ok a _ _ _ _ _ _ o.1).1⟩
  · rintro ⟨s, f, act, c, m, o, r1, r2, -⟩; exact ⟨s, f, act, c, m, o, r1, r2⟩
theorem t_often230 {k : Int32 → Int32 → Int32 → Int32 → Int32 → Int32 → Int32 → ST → Option (Int32 × ST)} {x1 x2 x6 x7 : Int32} (hp : p < 12) (hq : q < 12) (hh : h < 12) (z : Bool) : f_X12_often_230 k x1 x2 (nI p) (nI q) (nI h) x6 x7 (b2 z) σ = f_X12_often_255 k x1 x2 (nI p) (nI q) (nI h) x6 x7 (nI (if (decide (p ≤ h) && (decide (h ≤ q) && z)) = true then 1 else 0)) σ := by
  unfold f_X12_often_230 f_X12_often_254
  cases z with
  | false => simp [b2]
  | true =>
    rw [if_neg (show ¬ b2 true = 0 by decide)]
    by_cases h1 : h < p
    · rw [if_pos ((nI_ltI (by omega) (by omega)).mpr h1), decide_eq_false (by omega)]; rfl
    · rw [if_neg (fun w => h1 ((nI_ltI (by omega) (by omega)).mp w)), decide_eq_true (by omega)]
      by_cases h2 : q < h
      · rw [if_pos ((nI_ltI (by omega) (by omega)).mpr h2), decide_eq_false (by omega)]; rfl
      · rw [if_neg (fun w => h2 ((nI_ltI (by omega) (by omega)).mp w)), decide_eq_true (show h ≤ q by omega)]; rfl
end
