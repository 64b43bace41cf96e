section
/-! ===== a world as it is: things, happenings, pieces ===== -/
abbrev AW : Type := (Nat → Nat → Nat) × (Nat → Nat → Nat → Bool) × (Nat → Nat → Nat → Bool)
def nT (A : AW) : Nat := A.1 0 0
def nH (A : AW) : Nat := A.1 0 1
def nP (A : AW) : Nat := A.1 0 2
def kd (A : AW) (i : Nat) : Nat := A.1 1 i
def pr (A : AW) (h : Nat) : Nat := A.1 2 h
def sr (A : AW) (h : Nat) : Nat := A.1 3 h
def pk (A : AW) (k : Nat) : Nat := A.1 4 k
def po (A : AW) (k : Nat) : Nat := A.1 5 k
def pp (A : AW) (k : Nat) : Nat := A.1 6 k
def pq (A : AW) (k : Nat) : Nat := A.1 7 k
def pv (A : AW) (k : Nat) : Nat := A.1 8 k
def pm (A : AW) (k : Nat) : Nat := A.1 9 k
def pb (A : AW) (k : Nat) : Nat := A.1 10 k
def wt (A : AW) (m : Nat) : Nat := A.1 11 m
def lwb (A : AW) (h : Nat) : Nat := A.1 12 h
def lwe (A : AW) (h : Nat) : Nat := A.1 13 h
def lws (A : AW) (h : Nat) : Nat := A.1 14 h
def tc (A : AW) (i so run : Nat) : Bool := A.2.1 i so run
def hc (A : AW) (h so run : Nat) : Bool := A.2.2 h so run
/-- how many below n are of a kind -/
def cnt (f : Nat → Nat) (k : Nat) : Nat → Nat
  | 0 => 0
  | n + 1 => if f n = k then cnt f k n + 1 else cnt f k n
def cK (A : AW) (k : Nat) : Nat := cnt (kd A) k (nT A)
def pl (A : AW) (i : Nat) : Nat := cnt (kd A) (kd A i) i
theorem cnt_mono (f : Nat → Nat) (k : Nat) {n m : Nat} (h : n ≤ m) : cnt f k n ≤ cnt f k m := by
  induction m with
  | zero => have : n = 0 := by omega
            subst this; exact Nat.le_refl _
  | succ m ih =>
    by_cases e : n = m + 1
    · subst e; exact Nat.le_refl _
    · have := ih (by omega)
      rw [cnt]
      split <;> omega
theorem cnt_le (f : Nat → Nat) (k n : Nat) : cnt f k n ≤ n := by
  induction n with
  | zero => exact Nat.le_refl _
  | succ n ih => rw [cnt]; split <;> omega
theorem cnt_lt {f : Nat → Nat} {k n i : Nat} (hi : i < n) (hk : f i = k) : cnt f k i < cnt f k n := by
  have := cnt_mono f k (show i + 1 ≤ n by omega)
  rw [cnt, if_pos hk] at this
  omega
/-- what is always so of a world -/
def AOK (A : AW) : Prop := (nT A ≤ 10 ∧ nH A ≤ 6 ∧ nP A ≤ 16) ∧ (∀ i, i < nT A → kd A i ≤ 3) ∧ (cK A 0 ≤ 2 ∧ cK A 1 ≤ 5 ∧ cK A 2 ≤ 3 ∧ cK A 3 ≤ 1) ∧ (∀ h, h < nH A → pr A h ≤ 99 ∧ sr A h ≤ 1 ∧ lwb A h < 2 ^ cK A 1 ∧ lwe A h < 2 ^ cK A 1 ∧ lws A h ≤ 1) ∧ (∀ k, k < nP A → pk A k ≤ 3 ∧ pp A k ≤ pq A k ∧ pq A k < 12 ∧ pv A k ≤ 7 ∧ pm A k < 6 ∧ pb A k ≤ 1 ∧ (pk A k = 2 → po A k < nT A) ∧ (pk A k ≠ 2 → po A k < nH A) ∧ (pk A k = 0 → pp A k = pq A k) ∧ (pk A k = 2 → kd A (po A k) ≠ 3 → pv A k ≤ 1)) ∧ cnt (pk A) 1 (nP A) ≤ 2 ∧ (∀ m, m < 6 → wt A m ≤ 99)
/-! what is so in an hour -/
def ts (A : AW) (f kept run i so : Nat) : Bool := if kd A i = 0 then f.testBit (pl A i) else if kd A i = 1 then kept.testBit (pl A i) else if kd A i = 2 then tc A i so run else decide (0 < run)
def soN (A : AW) (f kept run : Nat) : Nat → Nat
  | 0 => 0
  | i + 1 => if ts A f kept run i (soN A f kept run i) = true then soN A f kept run i ||| 2 ^ i else soN A f kept run i
def so (A : AW) (f kept run : Nat) : Nat := soN A f kept run (nT A)
def rnN (A : AW) (so run : Nat) : Nat → Bool
  | 0 => false
  | i + 1 => rnN A so run i || (decide (kd A i = 3) && tc A i so run)
def rn (A : AW) (so run : Nat) : Bool := rnN A so run (nT A)
def th (A : AW) (so run : Nat) : Nat := if rn A so run = true ∧ run < 7 then run + 1 else run
def ef (b e k : Nat) : Nat := (k &&& (e ^^^ 4294967295)) ||| b
def nxk (A : AW) (so kept run a : Nat) : Nat := if a < nH A ∧ hc A a so run = true then ef (lwb A a) (lwe A a) kept else kept
def nxr (A : AW) (so run a : Nat) : Nat := if a < nH A ∧ hc A a so run = true ∧ lws A a = 1 then 0 else th A so run
/-- a strict happening can't be -/
def blk (A : AW) (so run a : Nat) : Bool := decide (a < nH A) && (decide (sr A a = 1) && !hc A a so run)
/-! what pieces of a set ask -/
def nOn (A : AW) (S : Nat) : Nat → Nat → Nat
  | 0, _ => 0
  | k + 1, h => if S.testBit k = true ∧ pk A k = 2 ∧ kd A (po A k) ≠ 3 ∧ pv A k = 1 ∧ pp A k ≤ h ∧ h ≤ pq A k then nOn A S k h ||| 2 ^ po A k else nOn A S k h
def nOff (A : AW) (S : Nat) : Nat → Nat → Nat
  | 0, _ => 0
  | k + 1, h => if S.testBit k = true ∧ pk A k = 2 ∧ kd A (po A k) ≠ 3 ∧ pv A k ≠ 1 ∧ pp A k ≤ h ∧ h ≤ pq A k then nOff A S k h ||| 2 ^ po A k else nOff A S k h
def rOK (A : AW) (S : Nat) : Nat → Nat → Nat → Bool
  | 0, _, _ => true
  | k + 1, h, r => rOK A S k h r && !(decide (S.testBit k = true ∧ pk A k = 2 ∧ kd A (po A k) = 3 ∧ pp A k ≤ h ∧ h ≤ pq A k ∧ r ≠ pv A k))
def aN (A : AW) (S : Nat) : Nat → Nat → Nat → Bool
  | 0, _, _ => true
  | k + 1, h, a => aN A S k h a && !(decide (S.testBit k = true ∧ pp A k ≤ h ∧ h ≤ pq A k ∧ ((pk A k = 0 ∧ a ≠ po A k) ∨ (pk A k = 3 ∧ a = po A k))))
def sN (A : AW) (S : Nat) : Nat → Nat → Bool
  | 0, _ => false
  | k + 1, h => sN A S k h || decide (S.testBit k = true ∧ pk A k = 0 ∧ pp A k = h)
/-- one more, seen in hour x.1: the happening x.2 (no such hour: none) -/
def aX (A : AW) (S : Nat) (x : Nat × Nat) (h a : Nat) : Bool := aN A S (nP A) h a && !(decide (h = x.1 ∧ a ≠ x.2))
def sX (A : AW) (S : Nat) (x : Nat × Nat) (h : Nat) : Bool := sN A S (nP A) h || decide (h = x.1)
def tN (A : AW) (S : Nat) : Nat → Nat → Nat → Bool
  | 0, _, _ => false
  | k + 1, h, a => tN A S k h a || decide (S.testBit k = true ∧ pk A k = 0 ∧ pp A k = h ∧ po A k = a)
def spn (A : AW) (S : Nat) : Nat → Nat
  | 0 => 0
  | k + 1 => if S.testBit k = true ∧ pk A k = 1 then spn A S k + 1 else spn A S k
def br (A : AW) (S : Nat) : Nat → Nat → Nat → Nat
  | 0, _, _ => 0
  | k + 1, h, a => if S.testBit k = true ∧ pk A k = 1 ∧ pp A k ≤ h ∧ h ≤ pq A k ∧ po A k = a then br A S k h a ||| 2 ^ spn A S k else br A S k h a
def du (A : AW) (S : Nat) : Nat → Nat → Nat
  | 0, _ => 0
  | k + 1, h => if S.testBit k = true ∧ pk A k = 1 ∧ pq A k = h then du A S k h ||| 2 ^ spn A S k else du A S k h
def nS (A : AW) (S : Nat) : Nat := spn A S (nP A)
def cst (A : AW) (S : Nat) (x : Nat × Nat) (h a : Nat) : Nat := if a < nH A ∧ sX A S x h = false then pr A a else 0
/-! the graph: states are kept things, 32 times the running one's value, 256 times the bits of SPAN pieces -/
def vst (A : AW) (s : Nat) : Prop := s % 32 < 2 ^ cK A 1 ∧ (s / 32 % 8 = 0 ∨ 0 < cK A 3)
def okf (A : AW) (S h s f : Nat) : Prop := f < 2 ^ cK A 0 ∧ so A f (s % 32) (s / 32 % 8) &&& nOn A S (nP A) h = nOn A S (nP A) h ∧ so A f (s % 32) (s / 32 % 8) &&& nOff A S (nP A) h = 0 ∧ rOK A S (nP A) h (s / 32 % 8) = true
def oka (A : AW) (S : Nat) (x : Nat × Nat) (h s f a : Nat) : Prop := (a = 6 ∨ a < nH A) ∧ aX A S x h a = true ∧ blk A (so A f (s % 32) (s / 32 % 8)) (s / 32 % 8) a = false
def tos (A : AW) (S h s f a : Nat) : Nat := nxk A (so A f (s % 32) (s / 32 % 8)) (s % 32) (s / 32 % 8) a + 32 * nxr A (so A f (s % 32) (s / 32 % 8)) (s / 32 % 8) a + 256 * (s / 256 ||| br A S (nP A) h a)
noncomputable def EG (A : AW) (S : Nat) (x : Nat × Nat) : GR := fun h s f a => @ite _ ((vst A s ∧ s / 256 < 2 ^ nS A S) ∧ okf A S h s f ∧ oka A S x h s f a) (Classical.propDecidable _) (some (tos A S h s f a, cst A S x h a)) none
def glS (A : AW) (S : Nat) (s : Nat) : Bool := decide (s / 256 = 2 ^ nS A S - 1)
theorem EG_iff {A : AW} {S : Nat} {x : Nat × Nat} {h s f a t c : Nat} : EG A S x h s f a = some (t, c) ↔ ((vst A s ∧ s / 256 < 2 ^ nS A S) ∧ okf A S h s f ∧ oka A S x h s f a) ∧ t = tos A S h s f a ∧ c = cst A S x h a := by
  unfold EG
  by_cases h1 : (vst A s ∧ s / 256 < 2 ^ nS A S) ∧ okf A S h s f ∧ oka A S x h s f a
  · rw [if_pos h1]
    simp only [Option.some.injEq, Prod.mk.injEq]
    exact ⟨fun e => ⟨h1, e.1.symm, e.2.symm⟩, fun e => ⟨e.2.1.symm, e.2.2.symm⟩⟩
  · rw [if_neg h1]
    exact ⟨fun e => absurd e (by simp), fun e => absurd e.1 h1⟩
end
