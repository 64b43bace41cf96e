section
/-! ===== how many bits ===== -/
def bt1 (a : Nat) : Nat := a - (a / 2 &&& 1431655765)
def bt2 (a : Nat) : Nat := (a &&& 858993459) + (a / 4 &&& 858993459)
def bt3 (a : Nat) : Nat := (a + a / 16) &&& 252645135
def bt4 (a : Nat) : Nat := a + a / 256
def bt5 (a : Nat) : Nat := (a + a / 65536) &&& 63
def pc16 (a : Nat) : Nat := sm 16 fun j => a / 2 ^ j % 2
def pc4 (a : Nat) : Nat := a % 2 + (a / 2 % 2 + (a / 4 % 2 + a / 8 % 2))
def pcq (a : Nat) : Nat := pc4 a + (pc4 (a / 16) + (pc4 (a / 256) + pc4 (a / 4096)))
theorem pcq_eq (a : Nat) : pcq a = pc16 a := by
  unfold pcq pc4 pc16
  simp only [sm, Nat.div_div_eq_div_mul]
  simp
  omega
def bcs (n : Nat) : Nat → Bool
  | 0 => true
  | k + 1 => (bt5 (bt4 (bt3 (bt2 (bt1 (n + k))))) == pcq (n + k)) && bcs n k
theorem bcs_0 : bcs 0 4096 = true := by decide +kernel
theorem bcs_1 : bcs 4096 4096 = true := by decide +kernel
theorem bcs_2 : bcs 8192 4096 = true := by decide +kernel
theorem bcs_3 : bcs 12288 4096 = true := by decide +kernel
theorem bcs_4 : bcs 16384 4096 = true := by decide +kernel
theorem bcs_5 : bcs 20480 4096 = true := by decide +kernel
theorem bcs_6 : bcs 24576 4096 = true := by decide +kernel
theorem bcs_7 : bcs 28672 4096 = true := by decide +kernel
theorem bcs_8 : bcs 32768 4096 = true := by decide +kernel
theorem bcs_9 : bcs 36864 4096 = true := by decide +kernel
theorem bcs_10 : bcs 40960 4096 = true := by decide +kernel
theorem bcs_11 : bcs 45056 4096 = true := by decide +kernel
theorem bcs_12 : bcs 49152 4096 = true := by decide +kernel
theorem bcs_13 : bcs 53248 4096 = true := by decide +kernel
theorem bcs_14 : bcs 57344 4096 = true := by decide +kernel
theorem bcs_15 : bcs 61440 4096 = true := by decide +kernel
theorem bcs_all : ∀ i, i < 16 → bcs (4096 * i) 4096 = true := by
  intro i hi
  match i, hi with
  | 0, _ => exact bcs_0
  | 1, _ => exact bcs_1
  | 2, _ => exact bcs_2
  | 3, _ => exact bcs_3
  | 4, _ => exact bcs_4
  | 5, _ => exact bcs_5
  | 6, _ => exact bcs_6
  | 7, _ => exact bcs_7
  | 8, _ => exact bcs_8
  | 9, _ => exact bcs_9
  | 10, _ => exact bcs_10
  | 11, _ => exact bcs_11
  | 12, _ => exact bcs_12
  | 13, _ => exact bcs_13
  | 14, _ => exact bcs_14
  | 15, _ => exact bcs_15
  | n + 16, h => omega
theorem bcs_at {n : Nat} : ∀ k, bcs n k = true → ∀ j, j < k → bt5 (bt4 (bt3 (bt2 (bt1 (n + j))))) = pcq (n + j) := by
  intro k
  induction k with
  | zero => intro _ j hj; omega
  | succ k ih =>
    intro h j hj
    rw [bcs, Bool.and_eq_true, beq_iff_eq] at h
    by_cases e : j = k
    · rw [e]; exact h.1
    · exact ih h.2 j (by omega)
theorem bt_pc {a : Nat} (h : a < 65536) : bt5 (bt4 (bt3 (bt2 (bt1 a)))) = pc16 a := by
  have := bcs_at 4096 (bcs_all (a / 4096) (by omega)) (a % 4096) (by omega)
  rw [show 4096 * (a / 4096) + a % 4096 = a by omega, pcq_eq] at this
  exact this
theorem ush (k p : Nat) (s : Int32) (hs : ((s.toUInt32 &&& Int32.toUInt32 31).toBitVec % 32).toNat = k) (hp : 2 ^ k = p) {n : Nat} (hn : n < 2 ^ 32) : ((nI n).toUInt32 >>> (s.toUInt32 &&& Int32.toUInt32 31)).toInt32 = nI (n / p) := by
  rw [← hp]; exact pk_ushrN hn s k hs
theorem t_bitCount {m : Nat} (h : m < 65536) (σ : ST) : f_J6_bitCount_0f7a4 (nI m) σ = some (nI (pc16 m), σ) := by
  rw [← bt_pc h]
  unfold f_J6_bitCount_0f7a4
  rw [ush 1 2 (nI 1) (by decide) (by decide) (show m < 2 ^ 32 by omega), nI_and (m / 2) 1431655765]
  have l1 : m / 2 &&& 1431655765 ≤ m / 2 := Nat.and_le_left
  rw [nI_sub (show m / 2 &&& 1431655765 ≤ m by omega)]
  show _ = some (nI (bt5 (bt4 (bt3 (bt2 (m - (m / 2 &&& 1431655765)))))), σ)
  have l2 : m - (m / 2 &&& 1431655765) < 65536 := by omega
  generalize m - (m / 2 &&& 1431655765) = b at *
  rw [ush 2 4 (nI 2) (by decide) (by decide) (show b < 2 ^ 32 by omega), nI_and b 858993459, nI_and (b / 4) 858993459, nI_add]
  show _ = some (nI (bt5 (bt4 (bt3 ((b &&& 858993459) + (b / 4 &&& 858993459))))), σ)
  have l3 : b &&& 858993459 ≤ b := Nat.and_le_left
  have l4 : b / 4 &&& 858993459 ≤ b / 4 := Nat.and_le_left
  have l5 : (b &&& 858993459) + (b / 4 &&& 858993459) < 131072 := by omega
  generalize (b &&& 858993459) + (b / 4 &&& 858993459) = c at *
  rw [ush 4 16 (nI 4) (by decide) (by decide) (show c < 2 ^ 32 by omega), nI_add c (c / 16), nI_and (c + c / 16) 252645135]
  show _ = some (nI (bt5 (bt4 ((c + c / 16) &&& 252645135))), σ)
  have l6 : (c + c / 16) &&& 252645135 ≤ c + c / 16 := Nat.and_le_left
  have l7 : (c + c / 16) &&& 252645135 < 262144 := by omega
  generalize (c + c / 16) &&& 252645135 = d at *
  rw [ush 8 256 (nI 8) (by decide) (by decide) (show d < 2 ^ 32 by omega), nI_add d (d / 256)]
  show _ = some (nI (bt5 (d + d / 256)), σ)
  have l8 : d + d / 256 < 2 ^ 32 := by omega
  generalize d + d / 256 = e at *
  rw [ush 16 65536 (nI 16) (by decide) (by decide) l8, nI_add e (e / 65536), nI_and (e + e / 65536) 63]
  rfl
theorem pc_msk (f : Nat → Bool) {n : Nat} (hn : n ≤ 16) : pc16 (msk f n) = sm n (fun i => if f i = true then 1 else 0) := by
  unfold pc16
  have e : ∀ k, n ≤ k → sm k (fun j => msk f n / 2 ^ j % 2) = sm n (fun i => if f i = true then 1 else 0) := by
    intro k
    induction k with
    | zero => intro h; rw [show n = 0 by omega]; rfl
    | succ k ih =>
      intro h
      by_cases q : n = k + 1
      · rw [← q]
        refine sm_congr (fun i hi => ?_)
        rw [tb_n, msk_tb, decide_eq_true hi, Bool.true_and]
      · rw [sm, ih (by omega), tb_n, msk_tb, decide_eq_false (by omega)]
        simp
  exact e 16 hn
end
