section
/-! ===== the class leaves out ways that come too late; how many cheapest ways ===== -/
def prn (E : GR) (D : Nat → Nat → Bool) : GR := fun h s f a => match E h s f a with
  | some (t, c) => if D h t = true then some (t, c) else none
  | none => none
theorem prn_iff {E : GR} {D : Nat → Nat → Bool} {h s f a t c : Nat} : prn E D h s f a = some (t, c) ↔ E h s f a = some (t, c) ∧ D h t = true := by
  unfold prn
  cases e : E h s f a with
  | none => simp
  | some p =>
    obtain ⟨t', c'⟩ := p
    simp only [Option.some.injEq, Prod.mk.injEq]
    constructor
    · intro h
      split at h
      · rename_i hd
        cases h
        exact ⟨⟨rfl, rfl⟩, hd⟩
      · cases h
    · rintro ⟨⟨rfl, rfl⟩, hd⟩
      rw [if_pos hd]
/-- what makes the pruning harmless -/
def VOK (E : GR) (gl : Nat → Bool) (D : Nat → Nat → Bool) (V : Nat → Nat → Prop) : Prop := (∀ s, V 0 s) ∧ (∀ h s f a t c, E h s f a = some (t, c) → (V (h + 1) t ↔ V h s ∧ D h t = true)) ∧ (∀ s, V 12 s ↔ gl s = true)
section PR
variable {E : GR} {I : Nat} {gl : Nat → Bool} {D : Nat → Nat → Bool} {V : Nat → Nat → Prop}
theorem Fp_eq (v : VOK E gl D V) : ∀ h s, (V h s → Fw (prn E D) I h s = Fw E I h s) ∧ (¬ V h s → Fw (prn E D) I h s = NV) := by
  intro h
  induction h with
  | zero => intro s; exact ⟨fun _ => rfl, fun h => absurd (v.1 s) h⟩
  | succ h ih =>
    intro t
    constructor
    · intro hv
      show mn NV _ = mn NV _
      congr 1
      funext y
      apply propext
      constructor
      · rintro ⟨s, f, a, c, e, h1, rfl⟩
        have e' := (prn_iff.mp e).1
        have hs := ((v.2.1 _ _ _ _ _ _ e').mp hv).1
        rw [(ih s).1 hs] at h1 ⊢
        exact ⟨s, f, a, c, e', h1, rfl⟩
      · rintro ⟨s, f, a, c, e, h1, rfl⟩
        have hs := (v.2.1 _ _ _ _ _ _ e).mp hv
        refine ⟨s, f, a, c, prn_iff.mpr ⟨e, hs.2⟩, ?_, ?_⟩ <;> rw [(ih s).1 hs.1]
        exact h1
    · intro hv
      refine mn_eq (Mn_emp ?_)
      rintro y ⟨s, f, a, c, e, h1, rfl⟩
      have e' := prn_iff.mp e
      by_cases hs : V h s
      · exact hv ((v.2.1 _ _ _ _ _ _ e'.1).mpr ⟨hs, e'.2⟩)
      · rw [(ih s).2 hs] at h1
        exact absurd h1 (Nat.lt_irrefl _)
theorem Fp_V (v : VOK E gl D V) {h s : Nat} (hf : Fw (prn E D) I h s < NV) : V h s ∧ Fw (prn E D) I h s = Fw E I h s := by
  by_cases hv : V h s
  · exact ⟨hv, (Fp_eq v h s).1 hv⟩
  · rw [(Fp_eq v h s).2 hv] at hf
    exact absurd hf (Nat.lt_irrefl _)
theorem Bw_V (v : VOK E gl D V) : ∀ k, k ≤ 12 → ∀ s, Bw E gl k s < NV → V (12 - k) s := by
  intro k
  induction k with
  | zero =>
    intro _ s h
    refine (v.2.2 s).mpr ?_
    unfold Bw at h
    split at h
    · assumption
    · omega
  | succ k ih =>
    intro hk s h
    obtain ⟨f, a, t, c, e, h1, h2⟩ := Bw_on h
    have := ih (by omega) t h1
    rw [show 12 - k = 11 - k + 1 by omega] at this
    rw [show 12 - (k + 1) = 11 - k by omega]
    exact ((v.2.1 _ _ _ _ _ _ e).mp this).1
theorem KP_V (v : VOK E gl D V) {h s : Nat} (hh : h ≤ 12) (k : KP E I gl h s) : V h s := by
  have := Bw_V v (12 - h) (by omega) s (by have := k.1; have := k.2; omega)
  rwa [show 12 - (12 - h) = h by omega] at this
theorem Le_p (v : VOK E gl D V) : mn NV (fun y => ∃ s, y = Fw (prn E D) I 12 s) = Le E I gl := by
  refine Mn_un (N := NV) (P := fun y => ∃ s, gl s = true ∧ y = Fw E I 12 s) ?_ (mn_sp NV _)
  have hq := mn_sp NV (fun y => ∃ s, y = Fw (prn E D) I 12 s)
  refine ⟨hq.1, ?_, ?_⟩
  · rintro y ⟨s, hs, rfl⟩
    rw [← (Fp_eq v 12 s).1 ((v.2.2 s).mpr hs)]
    exact hq.2.1 _ ⟨s, rfl⟩
  · intro h
    obtain ⟨s, hs⟩ := hq.2.2 h
    rw [hs] at h
    obtain ⟨h1, h2⟩ := Fp_V v h
    exact ⟨s, (v.2.2 s).mp h1, hs.trans h2⟩
theorem KP12_p (v : VOK E gl D V) (s : Nat) : (Fw (prn E D) I 12 s = Le E I gl ∧ Le E I gl < NV) ↔ KP E I gl 12 s := by
  rw [KP_12]
  constructor
  · rintro ⟨h1, h2⟩
    obtain ⟨h3, h4⟩ := Fp_V (I := I) v (h := 12) (s := s) (by omega)
    exact ⟨(v.2.2 s).mp h3, by omega, h2⟩
  · rintro ⟨h1, h2, h3⟩
    rw [(Fp_eq v 12 s).1 ((v.2.2 s).mpr h1)]
    exact ⟨h2, h3⟩
/-- the steps that the class keeps are those of cheapest ways -/
theorem Op_p (g : GOK E) (v : VOK E gl D V) {h s f a t c : Nat} (hh : h < 12) : (prn E D h s f a = some (t, c) ∧ Fw (prn E D) I h s < NV ∧ KP E I gl (h + 1) t ∧ Fw (prn E D) I (h + 1) t = Fw (prn E D) I h s + c) ↔ Op E I gl h s f a t c := by
  constructor
  · rintro ⟨e, h1, k, h2⟩
    obtain ⟨v1, f1⟩ := Fp_V v h1
    have e' := (prn_iff.mp e).1
    have v2 := KP_V v (by omega) k
    have f2 := (Fp_eq (I := I) v (h + 1) t).1 v2
    refine ⟨e', by omega, ?_, k.2⟩
    have := k.1
    rw [show 12 - (h + 1) = 11 - h by omega] at this
    omega
  · intro o
    obtain ⟨k1, k2, h1, -⟩ := Op_kp g hh o
    have v1 := KP_V v (by omega) k1
    have v2 := KP_V v (by omega) k2
    have e := o.1
    have f1 := (Fp_eq (I := I) v h s).1 v1
    have f2 := (Fp_eq (I := I) v (h + 1) t).1 v2
    exact ⟨prn_iff.mpr ⟨e, ((v.2.1 _ _ _ _ _ _ e).mp v2).2⟩, by rw [f1]; exact o.2.1, k2, by omega⟩
theorem KP_p (g : GOK E) {h s : Nat} (hh : h < 12) : KP E I gl h s ↔ ∃ f a t c, Op E I gl h s f a t c := ⟨KP_out g hh, fun ⟨_, _, _, _, o⟩ => (Op_kp g hh o).1⟩
end PR
/-! how many -/
noncomputable def ob (E : GR) (I : Nat) (gl : Nat → Bool) (h s f a : Nat) : Bool := match E h s f a with
  | some (t, c) => decide (Fw E I h s < NV) && (decide (Fw E I h s + c + Bw E gl (11 - h) t = Le E I gl) && decide (Le E I gl < NV))
  | none => false
def tg (E : GR) (h s f a : Nat) : Nat := match E h s f a with
  | some (t, _) => t
  | none => 0
noncomputable def Nb (E : GR) (I : Nat) (gl : Nat → Bool) : Nat → Nat → Nat
  | 0, s => if Fw E I 12 s + Bw E gl 0 s = Le E I gl ∧ Le E I gl < NV then 1 else 0
  | k + 1, s => sm 4 fun f => sm 7 fun a => if ob E I gl (11 - k) s f a = true then Nb E I gl k (tg E (11 - k) s f a) else 0
noncomputable def Nf (E : GR) (I : Nat) (gl : Nat → Bool) : Nat → Nat → Nat
  | 0, s => if s < I then 1 else 0
  | h + 1, t => sm 1024 fun s => sm 4 fun f => sm 7 fun a => if ob E I gl h s f a = true ∧ tg E h s f a = t then Nf E I gl h s else 0
section CN
variable {E : GR} {I : Nat} {gl : Nat → Bool}
theorem ob_iff {h s f a : Nat} : ob E I gl h s f a = true ↔ ∃ t c, Op E I gl h s f a t c := by
  unfold ob Op
  cases e : E h s f a with
  | none => simp
  | some p =>
    obtain ⟨t, c⟩ := p
    simp only [Bool.and_eq_true, decide_eq_true_eq, Option.some.injEq, Prod.mk.injEq]
    constructor
    · rintro ⟨h1, h2, h3⟩; exact ⟨t, c, ⟨rfl, rfl⟩, h1, h2, h3⟩
    · rintro ⟨_, _, ⟨rfl, rfl⟩, h1, h2, h3⟩; exact ⟨h1, h2, h3⟩
theorem tg_of {h s f a t c : Nat} (o : E h s f a = some (t, c)) : tg E h s f a = t := by unfold tg; rw [o]
theorem Nb_pos (g : GOK E) : ∀ k, k ≤ 12 → ∀ s, 0 < Nb E I gl k s ↔ KP E I gl (12 - k) s := by
  intro k
  induction k with
  | zero =>
    intro _ s
    unfold Nb KP
    constructor
    · intro h
      split at h
      · assumption
      · omega
    · intro h
      rw [if_pos h]
      omega
  | succ k ih =>
    intro hk s
    show 0 < sm 4 _ ↔ _
    rw [show 12 - (k + 1) = 11 - k by omega]
    constructor
    · intro h
      obtain ⟨f, hf, h⟩ := sm_pos.mp h
      obtain ⟨a, ha, h⟩ := sm_pos.mp h
      split at h
      · rename_i o
        obtain ⟨t, c, o⟩ := ob_iff.mp o
        exact (Op_kp g (by omega) o).1
      · omega
    · intro h
      obtain ⟨f, a, t, c, o⟩ := KP_out g (by omega) h
      have hg := g _ _ _ _ _ _ o.1
      refine sm_pos.mpr ⟨f, hg.2.2.1, sm_pos.mpr ⟨a, hg.2.2.2.1, ?_⟩⟩
      rw [if_pos (ob_iff.mpr ⟨t, c, o⟩), tg_of o.1]
      refine (ih (by omega) t).mpr ?_
      have := (Op_kp g (by omega) o).2.1
      rwa [show 11 - k + 1 = 12 - k by omega] at this
theorem Nf_pos (g : GOK E) {h t : Nat} (hh : h < 12) (hp : 0 < Nf E I gl (h + 1) t) : KP E I gl (h + 1) t := by
  have hp : 0 < sm 1024 _ := hp
  obtain ⟨s, _, hp⟩ := sm_pos.mp hp
  obtain ⟨f, _, hp⟩ := sm_pos.mp hp
  obtain ⟨a, _, hp⟩ := sm_pos.mp hp
  split at hp
  · rename_i o
    obtain ⟨t', c, o'⟩ := ob_iff.mp o.1
    have := tg_of o'.1
    rw [o.2] at this
    subst this
    exact (Op_kp g hh o').2.1
  · omega
theorem dual (g : GOK E) {h : Nat} (hh : h < 12) : sm 1024 (fun t => Nf E I gl (h + 1) t * Nb E I gl (11 - h) t) = sm 1024 (fun s => Nf E I gl h s * Nb E I gl (12 - h) s) := by
  have e1 : ∀ t, Nf E I gl (h + 1) t * Nb E I gl (11 - h) t = sm 1024 fun s => sm 4 fun f => sm 7 fun a => (if ob E I gl h s f a = true ∧ tg E h s f a = t then Nf E I gl h s else 0) * Nb E I gl (11 - h) t := by
    intro t
    show (sm 1024 _) * _ = _
    rw [← sm_mulr]
    refine sm_congr fun s _ => ?_
    rw [← sm_mulr]
    refine sm_congr fun f _ => ?_
    rw [← sm_mulr]
  rw [sm_congr (fun t _ => e1 t), sm_swap]
  refine sm_congr fun s _ => ?_
  rw [sm_swap]
  have e2 : Nb E I gl (12 - h) s = sm 4 fun f => sm 7 fun a => if ob E I gl h s f a = true then Nb E I gl (11 - h) (tg E h s f a) else 0 := by
    rw [show 12 - h = 11 - h + 1 by omega]
    show (sm 4 fun f => sm 7 fun a => if ob E I gl (11 - (11 - h)) s f a = true then Nb E I gl (11 - h) (tg E (11 - (11 - h)) s f a) else 0) = _
    rw [show 11 - (11 - h) = h by omega]
  rw [e2, ← sm_mul]
  refine sm_congr fun f _ => ?_
  rw [sm_swap, ← sm_mul]
  refine sm_congr fun a _ => ?_
  by_cases o : ob E I gl h s f a = true
  · obtain ⟨t, c, o'⟩ := ob_iff.mp o
    have ht := tg_of o'.1
    have hl := (g _ _ _ _ _ _ o'.1).2.1
    rw [if_pos o, sm_one (j := t) hl]
    · rw [if_pos ⟨o, ht⟩, ht]
    · intro i _ hne
      rw [if_neg (fun q => hne (by rw [← q.2, ht]))]
      omega
  · rw [if_neg o, sm_zero]
    · rfl
    · intro i _
      rw [if_neg (fun q => o q.1)]
      omega
theorem cnt_eq (g : GOK E) (hI : I ≤ 1024) : sm 1024 (fun s => if gl s = true then Nf E I gl 12 s else 0) = sm 1024 (fun s => Nb E I gl 12 s) := by
  have key : ∀ h, h ≤ 12 → sm 1024 (fun s => Nf E I gl h s * Nb E I gl (12 - h) s) = sm 1024 (fun s => Nf E I gl 0 s * Nb E I gl 12 s) := by
    intro h
    induction h with
    | zero => intro _; rfl
    | succ h ih =>
      intro hh
      rw [show 12 - (h + 1) = 11 - h by omega, dual g (show h < 12 by omega)]
      exact ih (by omega)
  have h12 := key 12 (by omega)
  rw [show (12 : Nat) - 12 = 0 from rfl] at h12
  have l : sm 1024 (fun s => if gl s = true then Nf E I gl 12 s else 0) = sm 1024 (fun s => Nf E I gl 12 s * Nb E I gl 0 s) := by
    refine sm_congr fun s _ => ?_
    by_cases h0 : Nf E I gl 12 s = 0
    · rw [h0]; split <;> omega
    · have k := Nf_pos g (h := 11) (by omega) (t := s) (show 0 < Nf E I gl 12 s by omega)
      rw [if_pos ((KP_12 s).mp k).1]
      have : Nb E I gl 0 s = 1 := by
        show (if _ then 1 else 0) = 1
        exact if_pos k
      rw [this]; omega
  have r : sm 1024 (fun s => Nf E I gl 0 s * Nb E I gl 12 s) = sm 1024 (fun s => Nb E I gl 12 s) := by
    refine sm_congr fun s _ => ?_
    show (if s < I then 1 else 0) * _ = _
    by_cases hs : s < I
    · rw [if_pos hs]; omega
    · have : ¬ 0 < Nb E I gl 12 s := by
        intro hp
        have := (Nb_pos g 12 (by omega) s).mp hp
        have hf : Fw E I 0 s < NV := by
          have h1 : Fw E I 0 s + _ = _ := this.1
          have h2 := this.2
          omega
        unfold Fw at hf
        rw [if_neg hs] at hf
        exact absurd hf (Nat.lt_irrefl _)
      rw [if_neg hs]; omega
  rw [l, h12, r]
end CN
/-! in how many hours -/
def Rc (O : Nat → Nat → Nat → Nat → Nat → Nat → Prop) (I : Nat) (mk : Nat → Nat → Nat → Nat → Bool) : Nat → Nat → Nat → Prop
  | 0, s, n => s < I ∧ n = 0
  | h + 1, t, n => ∃ s f a c m, O h s f a t c ∧ Rc O I mk h s m ∧ n = m + (if mk h s f a = true then 1 else 0)
def Cc (O : Nat → Nat → Nat → Nat → Nat → Nat → Prop) (K : Nat → Nat → Prop) (mk : Nat → Nat → Nat → Nat → Bool) (p : Nat) : Nat → Nat → Nat → Prop
  | 0, s, n => K p s ∧ n = 0
  | j + 1, t, n => ∃ s f a c m, O (p + j) s f a t c ∧ Cc O K mk p j s m ∧ n = m + (if mk (p + j) s f a = true then 1 else 0)
section TL
variable {E : GR} {I : Nat} {gl : Nat → Bool} {mk : Nat → Nat → Nat → Nat → Bool} {p q : Nat}
theorem Rc_le {O : Nat → Nat → Nat → Nat → Nat → Nat → Prop} : ∀ h s n, Rc O I mk h s n → n ≤ h := by
  intro h
  induction h with
  | zero => rintro s n ⟨_, rfl⟩; omega
  | succ h ih =>
    rintro t n ⟨s, f, a, c, m, _, h1, rfl⟩
    have := ih s m h1
    split <;> omega
theorem Cc_le {O : Nat → Nat → Nat → Nat → Nat → Nat → Prop} {K : Nat → Nat → Prop} : ∀ j s n, Cc O K mk p j s n → n ≤ j := by
  intro h
  induction h with
  | zero => rintro s n ⟨_, rfl⟩; omega
  | succ h ih =>
    rintro t n ⟨s, f, a, c, m, _, h1, rfl⟩
    have := ih s m h1
    split <;> omega
theorem tal_A (g : GOK E) (h0 : ∀ h s f a, mk h s f a = true → p ≤ h) : ∀ h, h ≤ p → p ≤ 12 → ∀ s n, (Rc (Op E I gl) I mk h s n ∧ KP E I gl h s) ↔ (KP E I gl h s ∧ n = 0) := by
  intro h
  induction h with
  | zero =>
    intro _ _ s n
    constructor
    · rintro ⟨⟨_, rfl⟩, k⟩; exact ⟨k, rfl⟩
    · rintro ⟨k, rfl⟩
      refine ⟨⟨?_, rfl⟩, k⟩
      have hf : Fw E I 0 s < NV := by have := k.1; have := k.2; omega
      unfold Fw at hf
      split at hf
      · assumption
      · exact absurd hf (Nat.lt_irrefl _)
  | succ h ih =>
    intro hp hp2 t n
    constructor
    · rintro ⟨⟨s, f, a, c, m, o, r, rfl⟩, k⟩
      have hm := ((ih (by omega) hp2 s m).mp ⟨r, (Op_kp g (by omega) o).1⟩).2
      refine ⟨k, ?_⟩
      rw [if_neg (fun q => by have := h0 _ _ _ _ q; omega), hm]
    · rintro ⟨k, rfl⟩
      obtain ⟨s, f, a, c, o⟩ := KP_in g (by omega) k
      refine ⟨⟨s, f, a, c, 0, o, ((ih (by omega) hp2 s 0).mpr ⟨(Op_kp g (by omega) o).1, rfl⟩).1, ?_⟩, k⟩
      rw [if_neg (fun q => by have := h0 _ _ _ _ q; omega)]
theorem tal_B {mk2 : Nat → Nat → Nat → Nat → Bool} (g : GOK E) (h0 : ∀ h s f a, mk h s f a = true → p ≤ h) (h2 : ∀ h s f a, p ≤ h → h ≤ q → mk h s f a = mk2 h s f a) (hq : q < 12) (hp : p ≤ q) : ∀ j, j ≤ q + 1 - p → ∀ s n, (Rc (Op E I gl) I mk (p + j) s n ∧ KP E I gl (p + j) s) ↔ Cc (Op E I gl) (KP E I gl) mk2 p j s n := by
  intro j
  induction j with
  | zero => intro _ s n; exact tal_A g h0 p (Nat.le_refl _) (by omega) s n
  | succ j ih =>
    intro hj t n
    show (Rc (Op E I gl) I mk ((p + j) + 1) t n ∧ KP E I gl ((p + j) + 1) t) ↔ Cc (Op E I gl) (KP E I gl) mk2 p (j + 1) t n
    rw [Rc, Cc]
    constructor
    · rintro ⟨⟨s, f, a, c, m, o, r, e⟩, k⟩
      rw [h2 _ _ _ _ (by omega) (by omega)] at e
      exact ⟨s, f, a, c, m, o, (ih (by omega) s m).mp ⟨r, (Op_kp g (by omega) o).1⟩, e⟩
    · rintro ⟨s, f, a, c, m, o, r, e⟩
      rw [← h2 _ _ _ _ (by omega) (by omega)] at e
      exact ⟨⟨s, f, a, c, m, o, ((ih (by omega) s m).mpr r).1, e⟩, (Op_kp g (by omega) o).2.1⟩
theorem tal_C (g : GOK E) (h1 : ∀ h s f a, mk h s f a = true → h ≤ q) : ∀ d, q + 1 + d ≤ 12 → ∀ n, (∃ s, Rc (Op E I gl) I mk (q + 1 + d) s n ∧ KP E I gl (q + 1 + d) s) ↔ ∃ s, Rc (Op E I gl) I mk (q + 1) s n ∧ KP E I gl (q + 1) s := by
  intro d
  induction d with
  | zero => intro _ n; rfl
  | succ d ih =>
    intro hd n
    rw [← ih (by omega)]
    show (∃ s, Rc (Op E I gl) I mk ((q + 1 + d) + 1) s n ∧ KP E I gl ((q + 1 + d) + 1) s) ↔ _
    simp only [Rc]
    constructor
    · rintro ⟨t, ⟨s, f, a, c, m, o, r, e⟩, k⟩
      rw [if_neg (fun w => by have := h1 _ _ _ _ w; omega)] at e
      have : n = m := e
      subst this
      exact ⟨s, r, (Op_kp g (by omega) o).1⟩
    · rintro ⟨s, r, k⟩
      obtain ⟨f, a, t, c, o⟩ := KP_out g (by omega) k
      refine ⟨t, ⟨s, f, a, c, n, o, r, ?_⟩, (Op_kp g (by omega) o).2.1⟩
      rw [if_neg (fun w => by have := h1 _ _ _ _ w; omega)]
      rfl
/-- both sides' numbers of hours are the same -/
theorem tal_eq {mk2 : Nat → Nat → Nat → Nat → Bool} (g : GOK E) (hm : ∀ h s f a, mk h s f a = (decide (p ≤ h) && (decide (h ≤ q) && mk2 h s f a))) (hq : q < 12) (hp : p ≤ q) (n : Nat) : (∃ s, gl s = true ∧ Rc (Op E I gl) I mk 12 s n) ↔ ∃ t, Cc (Op E I gl) (KP E I gl) mk2 p (q + 1 - p) t n := by
  have h0 : ∀ h s f a, mk h s f a = true → p ≤ h ∧ h ≤ q := by
    intro h s f a e
    rw [hm] at e
    simp only [Bool.and_eq_true, decide_eq_true_eq] at e
    exact ⟨e.1, e.2.1⟩
  have h2 : ∀ h s f a, p ≤ h → h ≤ q → mk h s f a = mk2 h s f a := by
    intro h s f a e1 e2
    rw [hm, decide_eq_true e1, decide_eq_true e2]
    rfl
  have hB := tal_B (q := q) (I := I) (gl := gl) g (fun h s f a e => (h0 h s f a e).1) h2 hq hp (q + 1 - p) (Nat.le_refl _)
  rw [show p + (q + 1 - p) = q + 1 by omega] at hB
  have hC := tal_C (I := I) (gl := gl) g (fun h s f a e => (h0 h s f a e).2) (12 - (q + 1)) (by omega) n
  rw [show q + 1 + (12 - (q + 1)) = 12 by omega] at hC
  have l : (∃ s, gl s = true ∧ Rc (Op E I gl) I mk 12 s n) ↔ ∃ s, Rc (Op E I gl) I mk 12 s n ∧ KP E I gl 12 s := by
    constructor
    · rintro ⟨s, hs, r⟩
      refine ⟨s, r, ?_⟩
      obtain ⟨s', f, a, c, m, o, -, -⟩ := r
      exact (Op_kp g (h := 11) (by omega) o).2.1
    · rintro ⟨s, r, k⟩
      exact ⟨s, ((KP_12 s).mp k).1, r⟩
  rw [l, hC]
  constructor
  · rintro ⟨s, h⟩; exact ⟨s, (hB s n).mp h⟩
  · rintro ⟨s, h⟩; exact ⟨s, (hB s n).mpr h⟩
end TL
end
