/-! ===== the program as functions over the registers: what a function is made of ===== -/
def FU : Nat := 20000
def rdI (σ : ST) (a n : Nat) (i : Int32) : Option Int32 := if inR i n = true then some (σ.1 a i.toNatClampNeg) else none
def rdJ (σ : ST) (a n : Nat) (i : Int32) : Option Int64 := if inR i n = true then some (σ.2.1 a i.toNatClampNeg) else none
def rdT (σ : ST) (a n : Nat) (i : Int32) : Option (Option Nat) := if inR i n = true then some (σ.2.2.1 a i.toNatClampNeg) else none
def ixR (n : Nat) (i : Int32) : Option Nat := if inR i n = true then some i.toNatClampNeg else none
def wrI (σ : ST) (a n : Nat) (i v : Int32) : Option ST := if inR i n = true then some (setI σ a i.toNatClampNeg v) else none
def wrJ (σ : ST) (a n : Nat) (i : Int32) (v : Int64) : Option ST := if inR i n = true then some (setJ σ a i.toNatClampNeg v) else none
def pfI (σ : ST) (a k : Nat) (v : Int32) : Option ST := some (setI σ a k v)
def pfZ (σ : ST) (a k : Nat) (v : Int32) : Option ST := if v = 0 ∨ v = 1 then some (setI σ a k v) else none
def pfJ (σ : ST) (a k : Nat) (v : Int64) : Option ST := some (setJ σ a k v)
def bd2 {α β γ : Type} (x : Option (α × β)) (K : α → β → Option γ) : Option γ := x.bind fun p => K p.1 p.2
def nl {β : Type} (v : Option Nat) (A : Option β) (B : Nat → Option β) : Option β := match v with
  | none => A
  | some q => B q
def zr (x : Int32) (σ : ST) : Option (Int32 × ST) := if x = 0 ∨ x = 1 then some (x, σ) else none
/-- the class of a piece's object, if it is one of cs -/
def chkP (cs : List Nat) (σ : ST) (p : Nat) : Option Nat := if 296 ≤ p then (match σ.2.2.2[p - 296]? with
  | some ci => if ci ∈ cs then some ci else none
  | none => none) else none
def rdP (cs : List Nat) (σ : ST) (p k : Nat) : Option Int32 := (chkP cs σ p).bind fun _ => some (σ.1 p k)
def pfP (cs : List Nat) (σ : ST) (p k : Nat) (v : Int32) : Option ST := (chkP cs σ p).bind fun _ => some (setI σ p k v)
def wrT (σ : ST) (a n : Nat) (i : Int32) (v : Option Nat) : Option ST := if inR i n = true then (match v with
  | none => some (setT σ a i.toNatClampNeg none)
  | some p => (chkP [6, 4, 8, 9] σ p).bind fun _ => some (setT σ a i.toNatClampNeg (some p))) else none
def ioR (cs : List Nat) (ci : Nat) : Int32 := if ci ∈ cs then 1 else 0
def cpSI (σ : ST) (a0 a sp dp n : Nat) : ST := (fun x => if x = a then va_cpy (σ.1 a0) (σ.1 a) sp dp n else σ.1 x, σ.2)
def cpSJ (σ : ST) (a0 a sp dp n : Nat) : ST := (σ.1, fun x => if x = a then va_cpy (σ.2.1 a0) (σ.2.1 a) sp dp n else σ.2.1 x, σ.2.2)
def cpI (σ : ST) (a0 n0 a n1 : Nat) (sp dp n : Int32) : Option ST := if (0 ≤ sp ∧ 0 ≤ dp ∧ 0 ≤ n) ∧ sp.toNatClampNeg + n.toNatClampNeg ≤ n0 ∧ dp.toNatClampNeg + n.toNatClampNeg ≤ n1 then some (cpSI σ a0 a sp.toNatClampNeg dp.toNatClampNeg n.toNatClampNeg) else none
def cpJ (σ : ST) (a0 n0 a n1 : Nat) (sp dp n : Int32) : Option ST := if (0 ≤ sp ∧ 0 ≤ dp ∧ 0 ≤ n) ∧ sp.toNatClampNeg + n.toNatClampNeg ≤ n0 ∧ dp.toNatClampNeg + n.toNatClampNeg ≤ n1 then some (cpSJ σ a0 a sp.toNatClampNeg dp.toNatClampNeg n.toNatClampNeg) else none
def newP (σ : ST) (ci : Nat) : ST := (fun x => if x = 296 + σ.2.2.2.length then (fun _ => 0) else σ.1 x, σ.2.1, σ.2.2.1, σ.2.2.2 ++ [ci])
def nwP (σ : ST) (ci : Nat) : Option (Nat × ST) := some (296 + σ.2.2.2.length, newP σ ci)
abbrev QI (v : Int32) (s : ST) : Option Value → SMem → Prop := fun rv M' => rv = some (.int v) ∧ M' = mem s
abbrev QJ (v : Int64) (s : ST) : Option Value → SMem → Prop := fun rv M' => rv = some (.long v) ∧ M' = mem s
abbrev QR (v : Option Nat) (s : ST) : Option Value → SMem → Prop := fun rv M' => rv = some (va_rf v) ∧ M' = mem s
abbrev QA (a : Nat) (s : ST) : Option Value → SMem → Prop := fun rv M' => rv = some (.ref a) ∧ M' = mem s
abbrev QV (s : ST) : Option Value → SMem → Prop := fun rv M' => rv = none ∧ M' = mem s
theorem bd_some {α β : Type} {x : Option α} {K : α → Option β} {r : β} (h : x.bind K = some r) : ∃ p, x = some p ∧ K p = some r := by
  cases x with
  | none => cases h
  | some p => exact ⟨p, rfl, h⟩
theorem bd2_some {α β γ : Type} {x : Option (α × β)} {K : α → β → Option γ} {r : γ} (h : bd2 x K = some r) : ∃ v s, x = some (v, s) ∧ K v s = some r := by
  cases x with
  | none => cases h
  | some p => exact ⟨p.1, p.2, rfl, h⟩
theorem nl_none {β : Type} {A : Option β} {B : Nat → Option β} {r : β} (h : nl none A B = some r) : A = some r := h
theorem nl_some {β : Type} {q : Nat} {A : Option β} {B : Nat → Option β} {r : β} (h : nl (some q) A B = some r) : B q = some r := h
theorem chkP_of {cs : List Nat} {σ : ST} {p ci : Nat} (h : chkP cs σ p = some ci) : ci ∈ cs ∧ (ent σ)[p]? = some (ci + 10, 0, []) := by
  unfold chkP at h
  split at h
  · rename_i h1
    cases hd : σ.2.2.2[p - 296]? with
    | none => rw [hd] at h; cases h
    | some c =>
      rw [hd] at h
      simp only at h
      split at h
      · rename_i h2
        cases h
        have := ent_dy hd
        rw [show 296 + (p - 296) = p by omega] at this
        exact ⟨h2, this⟩
      · cases h
  · cases h
theorem inR_cl {i : Int32} {n : Nat} (h : inR i n = true) (hn : n < 2 ^ 31) : ∃ j, j < n ∧ i = nI j ∧ i.toNatClampNeg = j := by
  obtain ⟨j, hj, rfl⟩ := inR_of h hn
  exact ⟨j, hj, rfl, cl_nI rfl hj hn⟩
def kp : List Bool → List Value → List Value
  | b :: bs, v :: L => (if b = true then v else D0) :: kp bs L
  | _, _ => []
theorem kp_len : ∀ (bs : List Bool) (L : List Value), bs.length = L.length → (kp bs L).length = L.length
  | [], [], _ => rfl
  | [], _ :: _, h => by simp at h
  | _ :: _, [], h => by simp at h
  | b :: bs, v :: L, h => by simp [kp, kp_len bs L (by simpa using h)]
theorem kp_at : ∀ (bs : List Bool) (L : List Value) (i : Nat) (v : Value), (kp bs L)[i]? = some v → v ≠ D0 → L[i]? = some v
  | [], L, i, v, h, _ => by simp [kp] at h
  | _ :: _, [], i, v, h, _ => by simp [kp] at h
  | b :: bs, w :: L, 0, v, h, hv => by
    simp only [kp, List.getElem?_cons_zero, Option.some.injEq] at h ⊢
    split at h
    · exact h
    · exact absurd h.symm hv
  | b :: bs, w :: L, i + 1, v, h, hv => by
    simp only [kp, List.getElem?_cons_succ] at h ⊢
    exact kp_at bs L i v h hv
section TT
variable {G : GP} {md : MD} {f : Nat × Nat} {pc : Nat} {L st : List Value} {σ : ST} {P : Option Value → SMem → Prop} {idx k a ci n j t : Nat} {ref : String} {cs refs : List Nat} {γ : Type} {r : γ}
theorem E_kp {M : SMem} (bs : List Bool) {L2 : List Value} (h2 : kp bs L = L2) (hl : bs.length = L.length) (kk : E G md f pc L2 st M P) : E G md f pc L st M P := by
  subst h2
  refine E_pure (fun C hL k2 => k2 _ ⟨(kp_len bs L hl).trans hL.1, hL.2.1, hL.2.2.1, fun i v hi hv => hL.2.2.2 i v (kp_at bs L i v hi hv) hv⟩) kk
theorem T_iald {i : Int32} {K : Int32 → Option γ} (hd : decode md.2.2.1 pc = .ok (.iaload, 1)) (ho : (ent σ)[a]? = some (0, n, refs)) (hn : n < 2 ^ 31) (h : (rdI σ a n i).bind K = some r) (kk : ∀ v, K v = some r → E G md f (pc + 1) L (.int v :: st) (mem σ) P) : E G md f pc L (.int i :: .ref a :: st) (mem σ) P := by
  unfold rdI at h
  split at h
  · rename_i hi
    obtain ⟨j, hj, rfl, he⟩ := inR_cl hi hn
    rw [he] at h
    exact R_iald hd ho rfl hj hn (kk _ h)
  · cases h
theorem T_jald {i : Int32} {K : Int64 → Option γ} (hd : decode md.2.2.1 pc = .ok (.laload, 1)) (ho : (ent σ)[a]? = some (1, n, refs)) (hn : n < 2 ^ 31) (h : (rdJ σ a n i).bind K = some r) (kk : ∀ v, K v = some r → E G md f (pc + 1) L (.long v :: st) (mem σ) P) : E G md f pc L (.int i :: .ref a :: st) (mem σ) P := by
  unfold rdJ at h
  split at h
  · rename_i hi
    obtain ⟨j, hj, rfl, he⟩ := inR_cl hi hn
    rw [he] at h
    exact R_jald hd ho rfl hj hn (kk _ h)
  · cases h
theorem T_tald {i : Int32} {K : Option Nat → Option γ} (hd : decode md.2.2.1 pc = .ok (.aaload, 1)) (ho : (ent σ)[a]? = some (5, n, refs)) (hn : n < 2 ^ 31) (h : (rdT σ a n i).bind K = some r) (kk : ∀ v, K v = some r → E G md f (pc + 1) L (va_rf v :: st) (mem σ) P) : E G md f pc L (.int i :: .ref a :: st) (mem σ) P := by
  unfold rdT at h
  split at h
  · rename_i hi
    obtain ⟨j, hj, rfl, he⟩ := inR_cl hi hn
    rw [he] at h
    exact R_tald hd ho rfl hj hn (kk _ h)
  · cases h
theorem T_rald {i : Int32} {b : Nat → Nat} {K : Nat → Option γ} (hd : decode md.2.2.1 pc = .ok (.aaload, 1)) (ho : (ent σ)[a]? = some (t, n, (List.range n).map b)) (ht : t = 2 ∨ t = 3 ∨ t = 4) (hn : n < 2 ^ 31) (h : (ixR n i).bind K = some r) (kk : ∀ j, j < n → K j = some r → E G md f (pc + 1) L (.ref (b j) :: st) (mem σ) P) : E G md f pc L (.int i :: .ref a :: st) (mem σ) P := by
  unfold ixR at h
  split at h
  · rename_i hi
    obtain ⟨j, hj, rfl, he⟩ := inR_cl hi hn
    rw [he] at h
    exact R_rald (C := "") hd ho ht rfl hj hn (rng_at hj) (kk _ hj h)
  · cases h
theorem T_iast {i v : Int32} {K : ST → Option γ} (hd : decode md.2.2.1 pc = .ok (.iastore, 1)) (ho : (ent σ)[a]? = some (0, n, refs)) (hn : n < 2 ^ 31) (h : (wrI σ a n i v).bind K = some r) (kk : ∀ s, K s = some r → E G md f (pc + 1) L st (mem s) P) : E G md f pc L (.int v :: .int i :: .ref a :: st) (mem σ) P := by
  unfold wrI at h
  split at h
  · rename_i hi
    obtain ⟨j, hj, rfl, he⟩ := inR_cl hi hn
    rw [he] at h
    exact R_iast hd ho rfl hj hn (kk _ h)
  · cases h
theorem T_jast {i : Int32} {v : Int64} {K : ST → Option γ} (hd : decode md.2.2.1 pc = .ok (.lastore, 1)) (ho : (ent σ)[a]? = some (1, n, refs)) (hn : n < 2 ^ 31) (h : (wrJ σ a n i v).bind K = some r) (kk : ∀ s, K s = some r → E G md f (pc + 1) L st (mem s) P) : E G md f pc L (.long v :: .int i :: .ref a :: st) (mem σ) P := by
  unfold wrJ at h
  split at h
  · rename_i hi
    obtain ⟨j, hj, rfl, he⟩ := inR_cl hi hn
    rw [he] at h
    exact R_jast hd ho rfl hj hn (kk _ h)
  · cases h
theorem E_aastoreN {i : Int32} {C : String} {M : SMem} {g : Nat → Option Nat} (hm : M[a]? = some (.inl (t, n, .inr (.inr (.inr (.inr g)))))) (ht : t < 6) (hC : aty t = .object C) (hi : i = nI j) (hj : j < n) (hn : n < 2 ^ 31) (hd : decode md.2.2.1 pc = .ok (.aastore, 1)) (k : E G md f (pc + 1) L st (M.set a (.inl (t, n, .inr (.inr (.inr (.inr (va_up g j none))))))) P) : E G md f pc L (.null :: .int i :: .ref a :: st) M P := by
  refine E_heap (M2 := M.set a (.inl (t, n, .inr (.inr (.inr (.inr (va_up g j none))))))) (by simp) (slM_set hm rfl) (fun Cx hP hS hL kk => ?_) k
  have hz := gT_at G ht
  rw [hC] at hz
  refine va_astqN (C := C) (f := fun i => (g i).map (fun k => gB G + k)) Cx.1 Cx.2.1 Cx.2.2.2.2.2.2.1.1 hP (wsM_D G M) hS a t (wsM_at G hm) hz (in_nI hi hj hn) hd (fun H1 locs1 hP1 _ hS1 => kk H1 locs1 ?_ hS1)
  rw [wsM_set]
  rw [cl_nI hi hj hn] at hP1
  have e : va_up (fun i => (g i).map (fun k => gB G + k)) j none = fun i => (va_up g j none i).map (fun k => gB G + k) := by
    funext q
    unfold va_up
    by_cases h : q = j <;> simp [h]
  rw [e] at hP1
  exact hP1
theorem R_tastN {i : Int32} (hd : decode md.2.2.1 pc = .ok (.aastore, 1)) (ho : (ent σ)[a]? = some (5, n, refs)) (hi : i = nI j) (hj : j < n) (hn : n < 2 ^ 31) (kk : E G md f (pc + 1) L st (mem (setT σ a j none)) P) : E G md f pc L (.null :: .int i :: .ref a :: st) (mem σ) P := by
  have hs : (mem σ).set a (.inl (5, n, .inr (.inr (.inr (.inr (va_up (σ.2.2.1 a) j none)))))) = mem (setT σ a j none) := by
    refine mem_set ho ?_ rfl (fun x hx => ⟨rfl, rfl, ?_⟩)
    · simp [cellS, setT]
    · simp [setT, hx]
  rw [← hs] at kk
  exact E_aastoreN (mem_at ho) (by decide) rfl hi hj hn hd kk
theorem T_tast {i : Int32} {v : Option Nat} {K : ST → Option γ} (hd : decode md.2.2.1 pc = .ok (.aastore, 1)) (ho : (ent σ)[a]? = some (5, n, refs)) (hn : n < 2 ^ 31) (h : (wrT σ a n i v).bind K = some r) (kk : ∀ s, K s = some r → E G md f (pc + 1) L st (mem s) P) : E G md f pc L (va_rf v :: .int i :: .ref a :: st) (mem σ) P := by
  unfold wrT at h
  split at h
  · rename_i hi
    obtain ⟨j, hj, rfl, he⟩ := inR_cl hi hn
    rw [he] at h
    cases v with
    | none => exact R_tastN hd ho rfl hj hn (kk _ h)
    | some p =>
      obtain ⟨s, h1, h⟩ := bd_some h
      obtain ⟨ci, h2, h3⟩ := bd_some h1
      cases h3
      obtain ⟨hc, hp⟩ := chkP_of h2
      refine R_tast hd ho hp ?_ rfl hj hn (kk _ h)
      simpa using hc
  · cases h
theorem T_tastP {i : Int32} {p : Nat} {K : ST → Option γ} (hd : decode md.2.2.1 pc = .ok (.aastore, 1)) (ho : (ent σ)[a]? = some (5, n, refs)) (hn : n < 2 ^ 31) (h : (wrT σ a n i (some p)).bind K = some r) (kk : ∀ s, K s = some r → E G md f (pc + 1) L st (mem s) P) : E G md f pc L (.ref p :: .int i :: .ref a :: st) (mem σ) P := T_tast hd ho hn h kk
theorem T_putI {v : Int32} {K : ST → Option γ} (hf : FOK md.1 idx k ref cs) (hd : decode md.2.2.1 pc = .ok (.putfield idx, 3)) (ho : (ent σ)[a]? = some (ci + 10, n, refs)) (hc : ci ∈ cs) (hk : fI ci k = true) (hk0 : fk ci k = 0 ∧ finF ci k = false) (h : (pfI σ a k v).bind K = some r) (kk : ∀ s, K s = some r → E G md f (pc + 3) L st (mem s) P) : E G md f pc L (.int v :: .ref a :: st) (mem σ) P := R_putI hf hd ho hc hk hk0 (kk _ h)
theorem T_putZ {v : Int32} {K : ST → Option γ} (hf : FOK md.1 idx k ref cs) (hd : decode md.2.2.1 pc = .ok (.putfield idx, 3)) (ho : (ent σ)[a]? = some (ci + 10, n, refs)) (hc : ci ∈ cs) (hk : fI ci k = true) (hk0 : fk ci k = 1 ∧ finF ci k = false) (h : (pfZ σ a k v).bind K = some r) (kk : ∀ s, K s = some r → E G md f (pc + 3) L st (mem s) P) : E G md f pc L (.int v :: .ref a :: st) (mem σ) P := by
  unfold pfZ at h
  split at h
  · rename_i hv
    exact R_putZ hv hf hd ho hc hk hk0 (kk _ h)
  · cases h
theorem T_putJ {v : Int64} {K : ST → Option γ} (hf : FOK md.1 idx k ref cs) (hd : decode md.2.2.1 pc = .ok (.putfield idx, 3)) (ho : (ent σ)[a]? = some (ci + 10, n, refs)) (hc : ci ∈ cs) (hk : fJ ci k = true) (hk0 : finF ci k = false) (h : (pfJ σ a k v).bind K = some r) (kk : ∀ s, K s = some r → E G md f (pc + 3) L st (mem s) P) : E G md f pc L (.long v :: .ref a :: st) (mem σ) P := R_putJ hf hd ho hc hk hk0 (kk _ h)
theorem T_getP {K : Int32 → Option γ} {p : Nat} (hf : FOK md.1 idx k ref cs) (hd : decode md.2.2.1 pc = .ok (.getfield idx, 3)) (hcs : ∀ ci ∈ cs, fI ci k = true) (h : (rdP cs σ p k).bind K = some r) (kk : ∀ v, K v = some r → E G md f (pc + 3) L (.int v :: st) (mem σ) P) : E G md f pc L (.ref p :: st) (mem σ) P := by
  obtain ⟨v, h1, h⟩ := bd_some h
  obtain ⟨ci, h2, h3⟩ := bd_some h1
  cases h3
  obtain ⟨hc, hp⟩ := chkP_of h2
  exact R_getI hf hd hp hc (hcs ci hc) (kk _ h)
theorem T_putP {K : ST → Option γ} {p : Nat} {v : Int32} (hf : FOK md.1 idx k ref cs) (hd : decode md.2.2.1 pc = .ok (.putfield idx, 3)) (hin : md.2.1.name = "<init>") (hcs : ∀ ci ∈ cs, fI ci k = true ∧ finF ci k = true ∧ dclF ci k = clsN md.1 ∧ fk ci k = 0) (h : (pfP cs σ p k v).bind K = some r) (kk : ∀ s, K s = some r → E G md f (pc + 3) L st (mem s) P) : E G md f pc L (.int v :: .ref p :: st) (mem σ) P := by
  obtain ⟨s, h1, h⟩ := bd_some h
  obtain ⟨ci, h2, h3⟩ := bd_some h1
  cases h3
  obtain ⟨hc, hp⟩ := chkP_of h2
  obtain ⟨g2, g3, g4, g5⟩ := hcs ci hc
  refine E_putF hf (mem_ob hp) hc (by rw [fl_len]; exact Nat.blt_eq.mpr (fI_of g2).1) g3 hin g4 (by rw [clT_fk0 g5]; rfl) (by rw [clT_fk0 g5]; rfl) hd ?_
  rw [putI_mem hp g2]
  exact kk _ h
theorem T_inst {K : Nat → Option γ} {p : Nat} {Cn : String} (ks : List Nat) (hl : Cond.classLink (clsN md.1) idx Cn ∈ BW) (hcs : ∀ ci ∈ [6, 4, 8, 9], (Cn = clsN ci ∧ ioR ks ci = 1) ∨ ((clsN ci, Cn) ∈ castW ∧ ioR ks ci = 1) ∨ ((clsN ci, Cn) ∈ ncW ∧ ioR ks ci = 0)) (hd : decode md.2.2.1 pc = .ok (.instanceof idx, 3)) (h : (chkP [6, 4, 8, 9] σ p).bind K = some r) (kk : ∀ ci, K ci = some r → E G md f (pc + 3) L (.int (ioR ks ci) :: st) (mem σ) P) : E G md f pc L (.ref p :: st) (mem σ) P := by
  obtain ⟨ci, h2, h⟩ := bd_some h
  obtain ⟨hc, hp⟩ := chkP_of h2
  exact E_inst (cj := 0) hl (mem_ob hp) (hcs ci hc) hd (kk _ h)
theorem T_icmp_eq {M : SMem} {x y : Int32} {off : Int} {A B : Option γ} (tgt : Nat) (hd : decode md.2.2.1 pc = .ok (.if_icmp .eq off, 3)) (ht : (pc : Int) + off = (tgt : Int)) (h : (if x = y then A else B) = some r) (kt : A = some r → E G md f tgt L st M P) (kf : B = some r → E G md f (pc + 3) L st M P) : E G md f pc L (.int y :: .int x :: st) M P :=
  E_icmp_eq tgt hd ht (fun c => kt (by rw [if_pos c] at h; exact h)) (fun c => kf (by rw [if_neg c] at h; exact h))
theorem T_icmp_ne {M : SMem} {x y : Int32} {off : Int} {A B : Option γ} (tgt : Nat) (hd : decode md.2.2.1 pc = .ok (.if_icmp .ne off, 3)) (ht : (pc : Int) + off = (tgt : Int)) (h : (if x = y then B else A) = some r) (kt : A = some r → E G md f tgt L st M P) (kf : B = some r → E G md f (pc + 3) L st M P) : E G md f pc L (.int y :: .int x :: st) M P :=
  E_icmp_ne tgt hd ht (fun c => kt (by rw [if_neg c] at h; exact h)) (fun c => kf (by rw [if_pos c] at h; exact h))
theorem T_icmp_lt {M : SMem} {x y : Int32} {off : Int} {A B : Option γ} (tgt : Nat) (hd : decode md.2.2.1 pc = .ok (.if_icmp .lt off, 3)) (ht : (pc : Int) + off = (tgt : Int)) (h : (if x < y then A else B) = some r) (kt : A = some r → E G md f tgt L st M P) (kf : B = some r → E G md f (pc + 3) L st M P) : E G md f pc L (.int y :: .int x :: st) M P :=
  E_icmp_lt tgt hd ht (fun c => kt (by rw [if_pos c] at h; exact h)) (fun c => kf (by rw [if_neg c] at h; exact h))
theorem T_icmp_ge {M : SMem} {x y : Int32} {off : Int} {A B : Option γ} (tgt : Nat) (hd : decode md.2.2.1 pc = .ok (.if_icmp .ge off, 3)) (ht : (pc : Int) + off = (tgt : Int)) (h : (if x < y then B else A) = some r) (kt : A = some r → E G md f tgt L st M P) (kf : B = some r → E G md f (pc + 3) L st M P) : E G md f pc L (.int y :: .int x :: st) M P :=
  E_icmp_ge tgt hd ht (fun c => kt (by rw [if_neg (Int32.not_lt.mpr c)] at h; exact h)) (fun c => kf (by rw [if_pos (Int32.not_le.mp c)] at h; exact h))
theorem T_icmp_gt {M : SMem} {x y : Int32} {off : Int} {A B : Option γ} (tgt : Nat) (hd : decode md.2.2.1 pc = .ok (.if_icmp .gt off, 3)) (ht : (pc : Int) + off = (tgt : Int)) (h : (if y < x then A else B) = some r) (kt : A = some r → E G md f tgt L st M P) (kf : B = some r → E G md f (pc + 3) L st M P) : E G md f pc L (.int y :: .int x :: st) M P :=
  E_icmp_gt tgt hd ht (fun c => kt (by rw [if_pos c] at h; exact h)) (fun c => kf (by rw [if_neg c] at h; exact h))
theorem T_icmp_le {M : SMem} {x y : Int32} {off : Int} {A B : Option γ} (tgt : Nat) (hd : decode md.2.2.1 pc = .ok (.if_icmp .le off, 3)) (ht : (pc : Int) + off = (tgt : Int)) (h : (if y < x then B else A) = some r) (kt : A = some r → E G md f tgt L st M P) (kf : B = some r → E G md f (pc + 3) L st M P) : E G md f pc L (.int y :: .int x :: st) M P :=
  E_icmp_le tgt hd ht (fun c => kt (by rw [if_neg (Int32.not_lt.mpr c)] at h; exact h)) (fun c => kf (by rw [if_pos (Int32.not_le.mp c)] at h; exact h))
theorem T_if_eq {M : SMem} {x : Int32} {off : Int} {A B : Option γ} (tgt : Nat) (hd : decode md.2.2.1 pc = .ok (.ifCond .eq off, 3)) (ht : (pc : Int) + off = (tgt : Int)) (h : (if x = 0 then A else B) = some r) (kt : A = some r → E G md f tgt L st M P) (kf : B = some r → E G md f (pc + 3) L st M P) : E G md f pc L (.int x :: st) M P :=
  E_if_eq tgt hd ht (fun c => kt (by rw [if_pos c] at h; exact h)) (fun c => kf (by rw [if_neg c] at h; exact h))
theorem T_if_ne {M : SMem} {x : Int32} {off : Int} {A B : Option γ} (tgt : Nat) (hd : decode md.2.2.1 pc = .ok (.ifCond .ne off, 3)) (ht : (pc : Int) + off = (tgt : Int)) (h : (if x = 0 then B else A) = some r) (kt : A = some r → E G md f tgt L st M P) (kf : B = some r → E G md f (pc + 3) L st M P) : E G md f pc L (.int x :: st) M P :=
  E_if_ne tgt hd ht (fun c => kt (by rw [if_neg c] at h; exact h)) (fun c => kf (by rw [if_pos c] at h; exact h))
theorem T_if_lt {M : SMem} {x : Int32} {off : Int} {A B : Option γ} (tgt : Nat) (hd : decode md.2.2.1 pc = .ok (.ifCond .lt off, 3)) (ht : (pc : Int) + off = (tgt : Int)) (h : (if x < 0 then A else B) = some r) (kt : A = some r → E G md f tgt L st M P) (kf : B = some r → E G md f (pc + 3) L st M P) : E G md f pc L (.int x :: st) M P :=
  E_if_lt tgt hd ht (fun c => kt (by rw [if_pos c] at h; exact h)) (fun c => kf (by rw [if_neg c] at h; exact h))
theorem T_if_ge {M : SMem} {x : Int32} {off : Int} {A B : Option γ} (tgt : Nat) (hd : decode md.2.2.1 pc = .ok (.ifCond .ge off, 3)) (ht : (pc : Int) + off = (tgt : Int)) (h : (if x < 0 then B else A) = some r) (kt : A = some r → E G md f tgt L st M P) (kf : B = some r → E G md f (pc + 3) L st M P) : E G md f pc L (.int x :: st) M P :=
  E_if_ge tgt hd ht (fun c => kt (by rw [if_neg (Int32.not_lt.mpr c)] at h; exact h)) (fun c => kf (by rw [if_pos (Int32.not_le.mp c)] at h; exact h))
theorem T_if_gt {M : SMem} {x : Int32} {off : Int} {A B : Option γ} (tgt : Nat) (hd : decode md.2.2.1 pc = .ok (.ifCond .gt off, 3)) (ht : (pc : Int) + off = (tgt : Int)) (h : (if 0 < x then A else B) = some r) (kt : A = some r → E G md f tgt L st M P) (kf : B = some r → E G md f (pc + 3) L st M P) : E G md f pc L (.int x :: st) M P :=
  E_if_gt tgt hd ht (fun c => kt (by rw [if_pos c] at h; exact h)) (fun c => kf (by rw [if_neg c] at h; exact h))
theorem T_if_le {M : SMem} {x : Int32} {off : Int} {A B : Option γ} (tgt : Nat) (hd : decode md.2.2.1 pc = .ok (.ifCond .le off, 3)) (ht : (pc : Int) + off = (tgt : Int)) (h : (if 0 < x then B else A) = some r) (kt : A = some r → E G md f tgt L st M P) (kf : B = some r → E G md f (pc + 3) L st M P) : E G md f pc L (.int x :: st) M P :=
  E_if_le tgt hd ht (fun c => kt (by rw [if_neg (Int32.not_lt.mpr c)] at h; exact h)) (fun c => kf (by rw [if_pos (Int32.not_le.mp c)] at h; exact h))
theorem T_aloadQ {M : SMem} {i : Nat} {v : Option Nat} (hl : L[i]? = some (va_rf v)) (hd : decode md.2.2.1 pc = .ok (.aload i, 2)) (kk : E G md f (pc + 2) L (va_rf v :: st) M P) : E G md f pc L st M P := by
  cases v with
  | none => exact E_aloadN hl hd kk
  | some q => exact E_aload hl hd kk
theorem T_aload_nQ {M : SMem} {i : Fin 4} {v : Option Nat} (hl : L[(i : Nat)]? = some (va_rf v)) (hd : decode md.2.2.1 pc = .ok (.aload_n i, 1)) (kk : E G md f (pc + 1) L (va_rf v :: st) M P) : E G md f pc L st M P := by
  cases v with
  | none => exact E_aload_nN hl hd kk
  | some q => exact E_aload_n hl hd kk
theorem T_astoreQ {M : SMem} {i : Nat} {v : Option Nat} {L2 : List Value} (hi : Nat.blt i L.length = true) (hL2 : lput1 L i (va_rf v) = L2) (hd : decode md.2.2.1 pc = .ok (.astore i, 2)) (kk : E G md f (pc + 2) L2 st M P) : E G md f pc L (va_rf v :: st) M P := by
  cases v with
  | none => exact E_astoreN hi hL2 hd kk
  | some q => exact E_astore hi hL2 hd kk
theorem T_astore_nQ {M : SMem} {i : Fin 4} {v : Option Nat} {L2 : List Value} (hi : Nat.blt (i : Nat) L.length = true) (hL2 : lput1 L (i : Nat) (va_rf v) = L2) (hd : decode md.2.2.1 pc = .ok (.astore_n i, 1)) (kk : E G md f (pc + 1) L2 st M P) : E G md f pc L (va_rf v :: st) M P := by
  cases v with
  | none => exact E_astore_nN hi hL2 hd kk
  | some q => exact E_astore_n hi hL2 hd kk
theorem T_iinc {M : SMem} {i m : Nat} {z : Int} {x : Int32} {L2 : List Value} (hl : L[i]? = some (.int x)) (hz : z = (m : Int)) (hi : Nat.blt i L.length = true) (hL2 : lput1 L i (.int (x + nI m)) = L2) (hd : decode md.2.2.1 pc = .ok (.iinc i z, 3)) (kk : E G md f (pc + 3) L2 st M P) : E G md f pc L st M P := by
  subst hz
  exact E_iinc hl (by rw [nI_ofInt]) hi hL2 hd kk
theorem T_idec {M : SMem} {i : Nat} {x : Int32} {L2 : List Value} (hl : L[i]? = some (.int x)) (hi : Nat.blt i L.length = true) (hL2 : lput1 L i (.int (x + (-1))) = L2) (hd : decode md.2.2.1 pc = .ok (.iinc i (-1), 3)) (kk : E G md f (pc + 3) L2 st M P) : E G md f pc L st M P :=
  E_iinc hl (congrArg (x + ·) (by decide)) hi hL2 hd kk
theorem T_zret {x v : Int32} {s : ST} (hr : md.2.2.2.2 = some .boolean) (hd : decode md.2.2.1 pc = .ok (.ireturn, 1)) (h : zr x σ = some (v, s)) : E G md f pc L [.int x] (mem σ) (QI v s) := by
  unfold zr at h
  split at h
  · rename_i hx
    cases h
    exact E_ireturn hr (by rcases hx with rfl | rfl <;> rfl) hd ⟨rfl, rfl⟩
  · cases h
theorem T_aretQ {x v : Option Nat} {s : ST} {cn : String} (hr : md.2.2.2.2 = some (.object cn)) (hd : decode md.2.2.1 pc = .ok (.areturn, 1)) (h : some (x, σ) = some (v, s)) : E G md f pc L [va_rf x] (mem σ) (QR v s) := by
  cases h
  cases x with
  | none => exact E_areturnN hr hd ⟨rfl, rfl⟩
  | some q => exact E_areturn hr hd ⟨rfl, rfl⟩
theorem QI_of {x v : Int32} {s : ST} (h : some (x, σ) = some (v, s)) : QI v s (some (.int x)) (mem σ) := by cases h; exact ⟨rfl, rfl⟩
theorem QJ_of {x v : Int64} {s : ST} (h : some (x, σ) = some (v, s)) : QJ v s (some (.long x)) (mem σ) := by cases h; exact ⟨rfl, rfl⟩
theorem QV_of {s : ST} (h : some σ = some s) : QV s none (mem σ) := by cases h; exact ⟨rfl, rfl⟩
theorem QA_of {x : Nat} {s : ST} (h : some σ = some s) : QA x s (some (.ref x)) (mem σ) := by cases h; exact ⟨rfl, rfl⟩
theorem toInt_lit {x : Int32} {m : Nat} (hm : m < 2 ^ 31) (h : x.toInt = (m : Int)) : x = nI m := by
  have h2 := nI_toInt hm
  exact Int32.toInt_inj.mp (h.trans h2.symm)
theorem T_tbl {M : SMem} {dflt lo hi : Int} {offs : Array Int} {len m : Nat} {x : Int32} {off : Int} {A B : Option γ} (tgt : Nat) (hm : m < 2 ^ 31) (h1 : ¬ (m : Int) < lo) (h2 : ¬ hi < (m : Int)) (hd : decode md.2.2.1 pc = .ok (.tableswitch dflt lo hi offs, len)) (ho : offs[((m : Int) - lo).toNat]? = some off) (ht : (pc : Int) + off = (tgt : Int)) (h : (if x = nI m then A else B) = some r) (kt : A = some r → E G md f tgt L st M P) (kf : ¬ x.toInt = (m : Int) → B = some r → E G md f pc L (.int x :: st) M P) : E G md f pc L (.int x :: st) M P := by
  by_cases hx : x = nI m
  · rw [if_pos hx] at h
    have e : x.toInt = (m : Int) := by rw [hx]; exact nI_toInt hm
    exact E_tblIn tgt (by rw [e]; exact h1) (by rw [e]; exact h2) (by rw [e]; exact ho) ht hd (kt h)
  · rw [if_neg hx] at h
    exact kf (fun e => hx (toInt_lit hm e)) h
theorem T_lkp {M : SMem} {dflt : Int} {ps : Array (Int × Int)} {len m : Nat} {x : Int32} {off : Int} {A B : Option γ} (tgt : Nat) (hm : m < 2 ^ 31) (hd : decode md.2.2.1 pc = .ok (.lookupswitch dflt ps, len)) (hp : (ps.toList.zip (ps.toList.drop 1)).all (fun (a, next) => a.1 < next.1) = true) (ho : Op.lookupswitch.offset ps.toList dflt (m : Int) = off) (ht : (pc : Int) + off = (tgt : Int)) (h : (if x = nI m then A else B) = some r) (kt : A = some r → E G md f tgt L st M P) (kf : ¬ x.toInt = (m : Int) → B = some r → E G md f pc L (.int x :: st) M P) : E G md f pc L (.int x :: st) M P := by
  by_cases hx : x = nI m
  · rw [if_pos hx] at h
    have e : x.toInt = (m : Int) := by rw [hx]; exact nI_toInt hm
    exact E_lkp tgt hp (by rw [e]; exact ho) ht hd (kt h)
  · rw [if_neg hx] at h
    exact kf (fun e => hx (toInt_lit hm e)) h
theorem nI_cl {j : Nat} (hj : j < 2 ^ 31) : (nI j).toNatClampNeg = j := by
  have h := nI_toInt hj
  show (nI j).toInt.toNat = j
  rw [h]
  exact Int.toNat_natCast j
theorem nI_nn {x : Int32} (h : 0 ≤ x) : ∃ j, j < 2 ^ 31 ∧ x = nI j ∧ x.toNatClampNeg = j := by
  obtain ⟨j, hj, rfl⟩ := nI_of (Int32.not_lt.mpr h)
  exact ⟨j, hj, rfl, by rw [nI_cl hj]⟩
end TT
