section
/-! ===== the cells once both constructors have run are those of s0 ===== -/
def yc_mi (f : Nat → (Nat × Nat × List Nat) → SC) : Nat → List (Nat × Nat × List Nat) → SMem
  | _, [] => []
  | a, e :: t => f a e :: yc_mi f (a + 1) t
theorem yc_mi_idx (f : Nat → (Nat × Nat × List Nat) → SC) : ∀ (l : List (Nat × Nat × List Nat)) (a : Nat), l.mapIdx (fun i => f (a + i)) = yc_mi f a l := by
  intro l
  induction l with
  | nil => intro a; rfl
  | cons e t ih =>
    intro a
    rw [List.mapIdx_cons]
    show f (a + 0) e :: t.mapIdx (fun i => f (a + (i + 1))) = _
    have q : (fun i => f (a + (i + 1))) = fun i => f (a + 1 + i) := by
      funext i
      rw [Nat.add_assoc, Nat.add_comm 1 i]
    rw [q, ih]
    rfl
theorem yc_mi_app (f : Nat → (Nat × Nat × List Nat) → SC) (l2 : List (Nat × Nat × List Nat)) : ∀ (l1 : List (Nat × Nat × List Nat)) (a : Nat), yc_mi f a (l1 ++ l2) = yc_mi f a l1 ++ yc_mi f (a + l1.length) l2 := by
  intro l1
  induction l1 with
  | nil => intro a; rfl
  | cons e t ih =>
    intro a
    show f a e :: yc_mi f (a + 1) (t ++ l2) = f a e :: (yc_mi f (a + 1) t ++ yc_mi f (a + (t.length + 1)) l2)
    rw [ih, Nat.add_assoc, Nat.add_comm 1 t.length]
theorem yc_mi_ap2 {f : Nat → (Nat × Nat × List Nat) → SC} {a a2 : Nat} {l1 l2 : List (Nat × Nat × List Nat)} {b1 b2 : SMem} (h1 : yc_mi f a l1 = b1) (hl : a + l1.length = a2) (h2 : yc_mi f a2 l2 = b2) : yc_mi f a (l1 ++ l2) = b1 ++ b2 := by
  rw [yc_mi_app, h1, hl, h2]
theorem i0z {a : Nat} (h : a ≠ 0 ∧ a ≠ 8 ∧ a ≠ 101 ∧ a ≠ 188 ∧ a ≠ 197 ∧ a ≠ 213 ∧ ¬ (231 ≤ a ∧ a ≤ 247) ∧ a ≠ 262 ∧ a ≠ 263) : i0 a = fun _ => 0 := by
  funext k
  unfold i0
  rw [if_neg (by omega)]
  rw [if_neg (by omega)]
  rw [if_neg (by omega)]
  rw [if_neg (by omega)]
  rw [if_neg (by omega)]
  rw [if_neg (by omega)]
  rw [if_neg (by omega)]
  rw [if_neg (by omega)]
  rw [if_neg (by omega)]
  rw [if_neg (by omega)]
  rw [if_neg (by omega)]
  rw [if_neg (by omega)]
  rw [if_neg (by omega)]
  rw [if_neg (by omega)]
  rw [if_neg (by omega)]
  rw [if_neg (by omega)]
  rw [if_neg (by omega)]
theorem nI_00 : (.int (nI 0) : Value) = .int 0 := rfl
abbrev yc_f0 : Nat → (Nat × Nat × List Nat) → SC := cellS s0
def yc_sg1 (a : Nat) : List (Nat × Nat × List Nat) := [(11, 0, [0, a + 1, a + 2, a + 3, a + 4]), (0, 30, []), (0, 30, []), (0, 30, []), (0, 30, [])]
def yc_sg3 (a : Nat) : List (Nat × Nat × List Nat) := (13, 0, [a + 1, 0, 0, 0, 0, 0]) :: yc_sg1 (a + 1)
theorem yc_fl1 {a : Nat} : fl s0 a 1 [0, a + 1, a + 2, a + 3, a + 4] = [.int (i0 a 0), .ref (a + 1), .ref (a + 2), .ref (a + 3), .ref (a + 4)] := rfl
theorem yc_m1 {a : Nat} (h : ∀ j, j < 5 → i0 (a + j) = fun _ => 0) : yc_mi yc_f0 a (yc_sg1 a) = blk1 a := by
  show [.inr (1, fl s0 a 1 [0, a + 1, a + 2, a + 3, a + 4]), .inl (0, 30, .inl (i0 (a + 1))), .inl (0, 30, .inl (i0 (a + 2))), .inl (0, 30, .inl (i0 (a + 3))), .inl (0, 30, .inl (i0 (a + 4)))] = blk1 a
  rw [yc_fl1, h 1 (by decide), h 2 (by decide), h 3 (by decide), h 4 (by decide), show i0 a = fun _ => 0 from h 0 (by decide)]
  rfl
theorem yc_fl3 {a : Nat} : fl s0 a 3 [a + 1, 0, 0, 0, 0, 0] = [.ref (a + 1), .int (i0 a 1), .int (i0 a 2), .int (i0 a 3), .int (i0 a 4), .int (i0 a 5)] := rfl
theorem yc_m3 {a : Nat} (h : ∀ j, j < 6 → i0 (a + j) = fun _ => 0) : yc_mi yc_f0 a (yc_sg3 a) = blk3 a := by
  show .inr (3, fl s0 a 3 [a + 1, 0, 0, 0, 0, 0]) :: yc_mi yc_f0 (a + 1) (yc_sg1 (a + 1)) = blk3 a
  rw [yc_fl3, yc_m1 (fun j hj => by rw [Nat.add_assoc]; exact h (1 + j) (by omega)), show i0 a = fun _ => 0 from h 0 (by decide)]
  rfl
def yc_gs1 (n : Nat) : Nat → List (Nat × Nat × List Nat)
  | 0 => []
  | i + 1 => yc_gs1 n i ++ yc_sg1 (n + (7 + 5 * i))
def yc_gs3 (n : Nat) : Nat → List (Nat × Nat × List Nat)
  | 0 => []
  | i + 1 => yc_gs3 n i ++ yc_sg3 (n + (57 + 6 * i))
theorem gs1_len {n : Nat} : ∀ i, (yc_gs1 n i).length = 5 * i := by
  intro i
  induction i with
  | zero => rfl
  | succ i ih => rw [yc_gs1, List.length_append, ih]; show 5 * i + 5 = _; omega
theorem gs3_len {n : Nat} : ∀ i, (yc_gs3 n i).length = 6 * i := by
  intro i
  induction i with
  | zero => rfl
  | succ i ih => rw [yc_gs3, List.length_append, ih]; show 6 * i + 6 = _; omega
theorem yc_mgs1 {n : Nat} : ∀ i, (∀ j, j < 5 * i → i0 (n + 7 + j) = fun _ => 0) → yc_mi yc_f0 (n + 7) (yc_gs1 n i) = cds n i := by
  intro i
  induction i with
  | zero => intro _; rfl
  | succ i ih =>
    intro h
    refine yc_mi_ap2 (a2 := n + (7 + 5 * i)) (ih fun j hj => h j (by omega)) (by rw [gs1_len]; omega) (yc_m1 fun j hj => ?_)
    have := h (5 * i + j) (by omega)
    rw [show n + 7 + (5 * i + j) = n + (7 + 5 * i) + j by omega] at this
    exact this
theorem yc_mgs3 {n : Nat} : ∀ i, (∀ j, j < 6 * i → i0 (n + 57 + j) = fun _ => 0) → yc_mi yc_f0 (n + 57) (yc_gs3 n i) = lwC n i := by
  intro i
  induction i with
  | zero => intro _; rfl
  | succ i ih =>
    intro h
    refine yc_mi_ap2 (a2 := n + (57 + 6 * i)) (ih fun j hj => h j (by omega)) (by rw [gs3_len]; omega) (yc_m3 fun j hj => ?_)
    have := h (6 * i + j) (by omega)
    rw [show n + 57 + (6 * i + j) = n + (57 + 6 * i) + j by omega] at this
    exact this
def yc_wR (n : Nat) : List Nat := [0, 0, 0, 0, n + 1, n + 2, n + 3, n + 4, n + 5, n + 6]
def yc_cR (n : Nat) : List Nat := [n + 7, n + 12, n + 17, n + 22, n + 27, n + 32, n + 37, n + 42, n + 47, n + 52]
def yc_lR (n : Nat) : List Nat := [n + 57, n + 63, n + 69, n + 75, n + 81, n + 87]
theorem cR_at (n : Nat) : (fun j => (yc_cR n)[j]?) = fun k => if k < 10 then some (n + (7 + 5 * k)) else none := by
  funext k
  match k with
  | 0 => rfl
  | 1 => rfl
  | 2 => rfl
  | 3 => rfl
  | 4 => rfl
  | 5 => rfl
  | 6 => rfl
  | 7 => rfl
  | 8 => rfl
  | 9 => rfl
  | k + 10 =>
    rw [if_neg (by omega)]
    rfl
theorem lR_at (n : Nat) : (fun j => (yc_lR n)[j]?) = fun k => if k < 6 then some (n + (57 + 6 * k)) else none := by
  funext k
  match k with
  | 0 => rfl
  | 1 => rfl
  | 2 => rfl
  | 3 => rfl
  | 4 => rfl
  | 5 => rfl
  | k + 6 =>
    rw [if_neg (by omega)]
    rfl
theorem yc_fl10 {a : Nat} : fl s0 a 10 (yc_wR a) = [.int (i0 a 0), .int (i0 a 1), .int (i0 a 2), .int (i0 a 3), .ref (a + 1), .ref (a + 2), .ref (a + 3), .ref (a + 4), .ref (a + 5), .ref (a + 6)] := rfl
def yc_sg10 (n : Nat) : List (Nat × Nat × List Nat) := (20, 0, yc_wR n) :: (0, 10, []) :: (0, 10, []) :: (3, 10, yc_cR n) :: (4, 6, yc_lR n) :: (5, 16, []) :: (0, 6, []) :: (yc_gs1 n 10 ++ yc_gs3 n 6)
theorem sg10_len {n : Nat} : (yc_sg10 n).length = 93 := by
  show ((yc_gs1 n 10 ++ yc_gs3 n 6).length + 1 + 1 + 1 + 1 + 1 + 1 + 1) = 93
  rw [List.length_append, gs1_len, gs3_len]
theorem yc_m10 {n : Nat} (h : ∀ j, j < 93 → j ≠ 6 → i0 (n + j) = fun _ => 0) (h6 : i0 (n + 6) = w6) : yc_mi yc_f0 n (yc_sg10 n) = blk10 n := by
  have e : yc_mi yc_f0 (n + 7) (yc_gs1 n 10 ++ yc_gs3 n 6) = cds n 10 ++ lwC n 6 := by
    refine yc_mi_ap2 (a2 := n + 57) (yc_mgs1 10 fun j hj => ?_) (by rw [gs1_len]) (yc_mgs3 6 fun j hj => ?_)
    · rw [Nat.add_assoc]; exact h (7 + j) (by omega) (by omega)
    · rw [Nat.add_assoc]; exact h (57 + j) (by omega) (by omega)
  show .inr (10, fl s0 n 10 (yc_wR n)) :: .inl (0, 10, .inl (i0 (n + 1))) :: .inl (0, 10, .inl (i0 (n + 2))) :: .inl (3, 10, .inr (.inr (.inr (.inr (fun j => (yc_cR n)[j]?))))) :: .inl (4, 6, .inr (.inr (.inr (.inr (fun j => (yc_lR n)[j]?))))) :: .inl (5, 16, .inr (.inr (.inr (.inr (fun _ => none))))) :: .inl (0, 6, .inl (i0 (n + 6))) :: yc_mi yc_f0 (n + 7) (yc_gs1 n 10 ++ yc_gs3 n 6) = blk10 n
  rw [e, yc_fl10, cR_at, lR_at, h6, h 1 (by decide) (by decide), h 2 (by decide) (by decide), show i0 n = fun _ => 0 from h 0 (by decide) (by decide)]
  rfl
def yc_sg5 (a b : Nat) : List (Nat × Nat × List Nat) := (15, 0, [b, a + 1, 0, 0, 0, 0, 0]) :: yc_sg3 (a + 1)
theorem yc_fl5 {a b : Nat} : fl s0 a 5 [b, a + 1, 0, 0, 0, 0, 0] = [.ref b, .ref (a + 1), .int (i0 a 2), .int (i0 a 3), .int (i0 a 4), .int (i0 a 5), .int (i0 a 6)] := rfl
theorem yc_m5 : yc_mi yc_f0 188 (yc_sg5 188 2) = blk5 188 2 := by
  show .inr (5, fl s0 188 5 [2, 188 + 1, 0, 0, 0, 0, 0]) :: yc_mi yc_f0 (188 + 1) (yc_sg3 (188 + 1)) = blk5 188 2
  rw [yc_fl5, yc_m3 (fun j hj => i0z (by omega))]
  rfl
def yc_sg0 (a b : Nat) : List (Nat × Nat × List Nat) := [(10, 0, [b, a + 1, a + 2, a + 3, a + 4, a + 5, a + 6, a + 7, 0]), (0, 12, []), (0, 12, []), (0, 12, []), (0, 12, []), (0, 12, []), (0, 84, []), (0, 12, [])]
theorem yc_fl0 {a b : Nat} : fl s0 a 0 [b, a + 1, a + 2, a + 3, a + 4, a + 5, a + 6, a + 7, 0] = [.ref b, .ref (a + 1), .ref (a + 2), .ref (a + 3), .ref (a + 4), .ref (a + 5), .ref (a + 6), .ref (a + 7), .int (i0 a 8)] := rfl
theorem yc_m0 {a b : Nat} (h : ∀ j, j < 8 → i0 (a + j) = fun _ => 0) : yc_mi yc_f0 a (yc_sg0 a b) = blk0 a b := by
  show [.inr (0, fl s0 a 0 [b, a + 1, a + 2, a + 3, a + 4, a + 5, a + 6, a + 7, 0]), .inl (0, 12, .inl (i0 (a + 1))), .inl (0, 12, .inl (i0 (a + 2))), .inl (0, 12, .inl (i0 (a + 3))), .inl (0, 12, .inl (i0 (a + 4))), .inl (0, 12, .inl (i0 (a + 5))), .inl (0, 84, .inl (i0 (a + 6))), .inl (0, 12, .inl (i0 (a + 7)))] = blk0 a b
  rw [yc_fl0, h 1 (by decide), h 2 (by decide), h 3 (by decide), h 4 (by decide), h 5 (by decide), h 6 (by decide), h 7 (by decide), show i0 a = fun _ => 0 from h 0 (by decide)]
  rfl
def yc_r2 (a b1 b2 b3 : Nat) : List Nat := [b1, b2, b3, a + 8, a + 1, a + 2, a + 3, 0, 0, 0, 0, 0, 0, 0, a + 4, a + 5, a + 6, a + 7]
def yc_sg2 (a b1 b2 b3 : Nat) : List (Nat × Nat × List Nat) := (12, 0, yc_r2 a b1 b2 b3) :: (0, 13312, []) :: (1, 2048, []) :: (0, 1024, []) :: (0, 12, []) :: (0, 12, []) :: (0, 12, []) :: (0, 12, []) :: yc_sg0 (a + 8) b1
theorem sg2_len {a b1 b2 b3 : Nat} : (yc_sg2 a b1 b2 b3).length = 16 := rfl
theorem yc_fl2 {a b1 b2 b3 : Nat} : fl s0 a 2 (yc_r2 a b1 b2 b3) = [.ref b1, .ref b2, .ref b3, .ref (a + 8), .ref (a + 1), .ref (a + 2), .ref (a + 3), .int (i0 a 7), .int (i0 a 8), .int (i0 a 9), .int (i0 a 10), .int (i0 a 11), .int (i0 a 12), .long 0, .ref (a + 4), .ref (a + 5), .ref (a + 6), .ref (a + 7)] := rfl
theorem yc_m2 {a b1 b2 b3 : Nat} (h : ∀ j, j < 16 → j ≠ 0 → i0 (a + j) = fun _ => 0) (h0 : i0 a 7 = nI 0 ∧ i0 a 8 = nI 1 ∧ i0 a 9 = nI 1 ∧ i0 a 10 = nI 1 ∧ i0 a 11 = nI 0 ∧ i0 a 12 = -1) : yc_mi yc_f0 a (yc_sg2 a b1 b2 b3) = blk2 a b1 b2 b3 := by
  show .inr (2, fl s0 a 2 (yc_r2 a b1 b2 b3)) :: .inl (0, 13312, .inl (i0 (a + 1))) :: .inl (1, 2048, .inr (.inl (fun _ => 0))) :: .inl (0, 1024, .inl (i0 (a + 3))) :: .inl (0, 12, .inl (i0 (a + 4))) :: .inl (0, 12, .inl (i0 (a + 5))) :: .inl (0, 12, .inl (i0 (a + 6))) :: .inl (0, 12, .inl (i0 (a + 7))) :: yc_mi yc_f0 (a + 8) (yc_sg0 (a + 8) b1) = blk2 a b1 b2 b3
  obtain ⟨q1, q2, q3, q4, q5, q6⟩ := h0
  rw [yc_fl2, yc_m0 (fun j hj => by rw [Nat.add_assoc]; exact h (8 + j) (by omega) (by omega)), q1, q2, q3, q4, q5, q6, h 1 (by decide) (by decide), h 3 (by decide) (by decide), h 4 (by decide) (by decide), h 5 (by decide) (by decide), h 6 (by decide) (by decide), h 7 (by decide) (by decide)]
  rfl
def yc_sg7 (a : Nat) : List (Nat × Nat × List Nat) := [(17, 0, [0, 0, a + 1]), (1, 60, [])]
theorem yc_fl7 {a : Nat} : fl s0 a 7 [0, 0, a + 1] = [.int (i0 a 0), .int (i0 a 1), .ref (a + 1)] := rfl
theorem yc_m7 {a : Nat} (h0 : i0 a 0 = -1) (h1 : i0 a 1 = nI 0) : yc_mi yc_f0 a (yc_sg7 a) = blk7 a := by
  show [.inr (7, fl s0 a 7 [0, 0, a + 1]), .inl (1, 60, .inr (.inl (fun _ => 0)))] = blk7 a
  rw [yc_fl7, h0, h1]
  rfl
def yc_gs7 (n : Nat) : Nat → List (Nat × Nat × List Nat)
  | 0 => []
  | i + 1 => yc_gs7 n i ++ yc_sg7 (n + (231 + 2 * i))
theorem yc_mgs7 : yc_mi yc_f0 231 (yc_gs7 0 8) = shs 0 8 := by
  show yc_mi yc_f0 231 ((((((((([] ++ yc_sg7 (0 + (231 + 2 * 0))) ++ yc_sg7 (0 + (231 + 2 * 1))) ++ yc_sg7 (0 + (231 + 2 * 2))) ++ yc_sg7 (0 + (231 + 2 * 3))) ++ yc_sg7 (0 + (231 + 2 * 4))) ++ yc_sg7 (0 + (231 + 2 * 5))) ++ yc_sg7 (0 + (231 + 2 * 6))) ++ yc_sg7 (0 + (231 + 2 * 7)))) = (((((((([] ++ blk7 (0 + (231 + 2 * 0))) ++ blk7 (0 + (231 + 2 * 1))) ++ blk7 (0 + (231 + 2 * 2))) ++ blk7 (0 + (231 + 2 * 3))) ++ blk7 (0 + (231 + 2 * 4))) ++ blk7 (0 + (231 + 2 * 5))) ++ blk7 (0 + (231 + 2 * 6))) ++ blk7 (0 + (231 + 2 * 7)))
  exact yc_mi_ap2 (yc_mi_ap2 (yc_mi_ap2 (yc_mi_ap2 (yc_mi_ap2 (yc_mi_ap2 (yc_mi_ap2 (yc_mi_ap2 (rfl) rfl (yc_m7 (a := 231) rfl rfl)) rfl (yc_m7 (a := 233) rfl rfl)) rfl (yc_m7 (a := 235) rfl rfl)) rfl (yc_m7 (a := 237) rfl rfl)) rfl (yc_m7 (a := 239) rfl rfl)) rfl (yc_m7 (a := 241) rfl rfl)) rfl (yc_m7 (a := 243) rfl rfl)) rfl (yc_m7 (a := 245) rfl rfl)
def yc_r12 : List Nat := [0, 248, 249, 250, 0, 251, 252, 253, 254, 0, 255, 256, 257, 258, 259, 260, 261, 262, 263, 264, 265, 0, 0, 266, 267, 268, 269, 0, 0, 0, 270, 271, 272, 273, 274, 275, 0, 276, 277, 0, 0, 278, 279, 280, 281, 282, 283, 284, 285, 286, 287, 288, 0, 0, 289, 290, 291, 292, 293, 294, 0, 295]
def yc_s12 : List (Nat × Nat × List Nat) := [(0, 10, []), (0, 10, []), (0, 600, []), (0, 6, []), (0, 360, []), (0, 6, []), (0, 6, []), (0, 16, []), (0, 16, []), (0, 16, []), (0, 16, []), (0, 16, []), (0, 16, []), (0, 16, []), (0, 6, []), (0, 8, []), (0, 8, []), (1, 480, []), (0, 10, []), (0, 1024, []), (0, 1024, []), (0, 7168, []), (0, 12, []), (0, 12, []), (0, 12, []), (0, 12, []), (0, 12, []), (0, 2, []), (0, 13312, []), (0, 13312, []), (0, 28, []), (0, 28, []), (0, 28, []), (0, 28, []), (0, 1024, []), (0, 1024, []), (0, 1024, []), (0, 1024, []), (1, 1024, []), (1, 1024, []), (0, 20, []), (0, 3, []), (0, 620, []), (0, 378, []), (0, 112, []), (0, 6, []), (0, 8, []), (0, 12, [])]
set_option maxRecDepth 8000 in
theorem yc_fl12 : fl s0 247 12 yc_r12 = mF 247 := rfl
theorem i0_262 : i0 262 = gi (nI 1) (fun _ => 0) 6 := rfl
theorem i0_263 : i0 263 = gi (-1) (fun _ => 0) 8 := rfl
theorem yc_m12t : yc_mi yc_f0 248 yc_s12 = mT (gi (-1) (fun _ => 0) 8) (gi (nI 1) (fun _ => 0) 6) := by
  show ([.inl (0, 10, .inl (i0 248)), .inl (0, 10, .inl (i0 249)), .inl (0, 600, .inl (i0 250)), .inl (0, 6, .inl (i0 251)), .inl (0, 360, .inl (i0 252)), .inl (0, 6, .inl (i0 253)), .inl (0, 6, .inl (i0 254)), .inl (0, 16, .inl (i0 255)), .inl (0, 16, .inl (i0 256)), .inl (0, 16, .inl (i0 257)), .inl (0, 16, .inl (i0 258)), .inl (0, 16, .inl (i0 259)), .inl (0, 16, .inl (i0 260)), .inl (0, 16, .inl (i0 261)), .inl (0, 6, .inl (i0 262)), .inl (0, 8, .inl (i0 263)), .inl (0, 8, .inl (i0 264)), .inl (1, 480, .inr (.inl (fun _ => 0))), .inl (0, 10, .inl (i0 266)), .inl (0, 1024, .inl (i0 267)), .inl (0, 1024, .inl (i0 268)), .inl (0, 7168, .inl (i0 269)), .inl (0, 12, .inl (i0 270)), .inl (0, 12, .inl (i0 271)), .inl (0, 12, .inl (i0 272)), .inl (0, 12, .inl (i0 273)), .inl (0, 12, .inl (i0 274)), .inl (0, 2, .inl (i0 275)), .inl (0, 13312, .inl (i0 276)), .inl (0, 13312, .inl (i0 277)), .inl (0, 28, .inl (i0 278)), .inl (0, 28, .inl (i0 279)), .inl (0, 28, .inl (i0 280)), .inl (0, 28, .inl (i0 281)), .inl (0, 1024, .inl (i0 282)), .inl (0, 1024, .inl (i0 283)), .inl (0, 1024, .inl (i0 284)), .inl (0, 1024, .inl (i0 285)), .inl (1, 1024, .inr (.inl (fun _ => 0))), .inl (1, 1024, .inr (.inl (fun _ => 0))), .inl (0, 20, .inl (i0 288)), .inl (0, 3, .inl (i0 289)), .inl (0, 620, .inl (i0 290)), .inl (0, 378, .inl (i0 291)), .inl (0, 112, .inl (i0 292)), .inl (0, 6, .inl (i0 293)), .inl (0, 8, .inl (i0 294)), .inl (0, 12, .inl (i0 295))] : SMem) = _
  rw [i0_262, i0_263, i0z (a := 248) (by decide), i0z (a := 249) (by decide), i0z (a := 250) (by decide), i0z (a := 251) (by decide), i0z (a := 252) (by decide), i0z (a := 253) (by decide), i0z (a := 254) (by decide), i0z (a := 255) (by decide), i0z (a := 256) (by decide), i0z (a := 257) (by decide), i0z (a := 258) (by decide), i0z (a := 259) (by decide), i0z (a := 260) (by decide), i0z (a := 261) (by decide), i0z (a := 264) (by decide), i0z (a := 266) (by decide), i0z (a := 267) (by decide), i0z (a := 268) (by decide), i0z (a := 269) (by decide), i0z (a := 270) (by decide), i0z (a := 271) (by decide), i0z (a := 272) (by decide), i0z (a := 273) (by decide), i0z (a := 274) (by decide), i0z (a := 275) (by decide), i0z (a := 276) (by decide), i0z (a := 277) (by decide), i0z (a := 278) (by decide), i0z (a := 279) (by decide), i0z (a := 280) (by decide), i0z (a := 281) (by decide), i0z (a := 282) (by decide), i0z (a := 283) (by decide), i0z (a := 284) (by decide), i0z (a := 285) (by decide), i0z (a := 288) (by decide), i0z (a := 289) (by decide), i0z (a := 290) (by decide), i0z (a := 291) (by decide), i0z (a := 292) (by decide), i0z (a := 293) (by decide), i0z (a := 294) (by decide), i0z (a := 295) (by decide)]
  rfl
theorem yc_m12 : yc_mi yc_f0 247 ((22, 0, yc_r12) :: yc_s12) = blk12 247 := by
  show .inr (12, fl s0 247 12 yc_r12) :: yc_mi yc_f0 248 yc_s12 = blk12 247
  rw [yc_fl12, yc_m12t]
  rfl
def yc_r11 : List Nat := [1, 2, 95, 188, 195, 196, 197, 213, 229, 230, 0, 0, 0, 0]
def yc_hR : List Nat := [231, 233, 235, 237, 239, 241, 243, 245]
theorem hR_at : (fun j => yc_hR[j]?) = fun k => if k < 8 then some (0 + (231 + 2 * k)) else none := by
  funext k
  match k with
  | 0 => rfl
  | 1 => rfl
  | 2 => rfl
  | 3 => rfl
  | 4 => rfl
  | 5 => rfl
  | 6 => rfl
  | 7 => rfl
  | k + 8 =>
    rw [if_neg (by omega)]
    rfl
theorem yc_fl11 : fl s0 0 11 yc_r11 = sF 0 := rfl
def yc_sgT : List (Nat × Nat × List Nat) := yc_sg10 2 ++ yc_sg10 95 ++ yc_sg5 188 2 ++ [(0, 1024, [])] ++ [(0, 7168, [])] ++ yc_sg2 197 2 195 196 ++ yc_sg2 213 2 195 196 ++ [(0, 8, [])] ++ [(0, 21, [])]
theorem sgT_len : yc_sgT.length = 229 := by decide +kernel
theorem yc_mA {a N : Nat} (h : i0 a = fun _ => 0) : yc_mi yc_f0 a [(0, N, [])] = [.inl (0, N, .inl (fun _ => 0))] := by
  show ([.inl (0, N, .inl (i0 a))] : SMem) = _
  rw [h]
theorem yc_zz2 : i0 197 7 = nI 0 ∧ i0 197 8 = nI 1 ∧ i0 197 9 = nI 1 ∧ i0 197 10 = nI 1 ∧ i0 197 11 = nI 0 ∧ i0 197 12 = -1 := by decide
theorem yc_zz3 : i0 213 7 = nI 0 ∧ i0 213 8 = nI 1 ∧ i0 213 9 = nI 1 ∧ i0 213 10 = nI 1 ∧ i0 213 11 = nI 0 ∧ i0 213 12 = -1 := by decide
theorem yc_mT0 : yc_mi yc_f0 2 yc_sgT = sT 0 := by
  unfold yc_sgT sT
  rw [Nat.zero_add, Nat.zero_add, Nat.zero_add, Nat.zero_add, Nat.zero_add, Nat.zero_add, Nat.zero_add]
  refine yc_mi_ap2 (a2 := 230) (yc_mi_ap2 (a2 := 229) (yc_mi_ap2 (a2 := 213) (yc_mi_ap2 (a2 := 197) (yc_mi_ap2 (a2 := 196) (yc_mi_ap2 (a2 := 195) (yc_mi_ap2 (a2 := 188) (yc_mi_ap2 (a2 := 95) (yc_m10 ?_ rfl) ?_ (yc_m10 ?_ rfl)) ?_ yc_m5) ?_ (yc_mA ?_)) ?_ (yc_mA ?_)) ?_ (yc_m2 ?_ yc_zz2)) ?_ (yc_m2 ?_ yc_zz3)) ?_ (yc_mA ?_)) ?_ (yc_mA ?_)
  all_goals first | decide +kernel | (intro j h1 h2; exact i0z (by omega)) | exact i0z (by decide)
def yc_sgs : List (Nat × Nat × List Nat) := (21, 0, yc_r11) :: (2, 8, yc_hR) :: (yc_sgT ++ yc_gs7 0 8)
theorem sgs_len : yc_sgs.length = 247 := by decide +kernel
theorem yc_m11 : yc_mi yc_f0 0 yc_sgs = blk11 0 := by
  have e : yc_mi yc_f0 2 (yc_sgT ++ yc_gs7 0 8) = sT 0 ++ shs 0 8 := yc_mi_ap2 (a2 := 231) yc_mT0 (by rw [sgT_len]) yc_mgs7
  show .inr (11, fl s0 0 11 yc_r11) :: .inl (2, 8, .inr (.inr (.inr (.inr (fun j => yc_hR[j]?))))) :: yc_mi yc_f0 2 (yc_sgT ++ yc_gs7 0 8) = blk11 0
  rw [e, yc_fl11, hR_at]
  rfl
theorem slT_sgs : slT = yc_sgs ++ ((22, 0, yc_r12) :: yc_s12) := by decide +kernel
theorem mem_s0 : mem s0 = blk11 0 ++ blk12 247 := by
  have e1 : ent s0 = slT := List.append_nil _
  have e2 : (fun i => yc_f0 (0 + i)) = cellS s0 := by
    funext i
    rw [Nat.zero_add]
  unfold mem
  rw [e1, ← e2, yc_mi_idx yc_f0 slT 0, slT_sgs]
  exact yc_mi_ap2 (a2 := 247) yc_m11 (by rw [sgs_len]) yc_m12
end
section
/-! ===== the law's start, and its end ===== -/
def yc_slE (e : Nat × Nat × List Nat) : Nat := match e.1 with
  | 0 => e.2.1
  | 1 => e.2.1
  | 2 => e.2.1
  | 3 => e.2.1
  | 4 => e.2.1
  | 5 => e.2.1
  | n + 6 => ((vwCl[n - 4]?).map fun q => q.2.2).getD 0
theorem slC_cell {σ : ST} {a : Nat} (e : Nat × Nat × List Nat) : slC (cellS σ a e) = yc_slE e := by
  obtain ⟨t, N, r⟩ := e
  match t with
  | 0 => rfl
  | 1 => rfl
  | 2 => rfl
  | 3 => rfl
  | 4 => rfl
  | 5 => rfl
  | n + 6 => rfl
theorem vwCl_le (ci : Nat) : ((vwCl[ci]?).map fun q => q.2.2).getD 0 ≤ 62 := by
  match ci with
  | 0 | 1 | 2 | 3 | 4 | 5 | 6 | 7 | 8 | 9 | 10 | 11 | 12 => decide +kernel
  | n + 13 =>
    rw [show vwCl[n + 13]? = none from List.getElem?_eq_none (by rw [show vwCl.length = 13 by decide +kernel]; omega)]
    exact Nat.zero_le _
theorem yc_mi_sum {σ : ST} : ∀ (l : List (Nat × Nat × List Nat)) (a : Nat), slM (yc_mi (cellS σ) a l) = (l.map yc_slE).sum := by
  intro l
  induction l with
  | nil => intro a; rfl
  | cons e t ih =>
    intro a
    show slC (cellS σ a e) + slM (yc_mi (cellS σ) (a + 1) t) = yc_slE e + (t.map yc_slE).sum
    rw [slC_cell, ih]
theorem ps_sum : ∀ l : List Nat, ((l.map (fun ci => ((ci + 10, 0, []) : Nat × Nat × List Nat))).map yc_slE).sum ≤ 62 * l.length := by
  intro l
  induction l with
  | nil => exact Nat.zero_le _
  | cons c t ih =>
    show yc_slE (c + 10, 0, []) + ((t.map (fun ci => ((ci + 10, 0, []) : Nat × Nat × List Nat))).map yc_slE).sum ≤ 62 * (t.length + 1)
    have := vwCl_le (c + 4 - 4)
    have q : yc_slE (c + 10, 0, []) = ((vwCl[c + 4 - 4]?).map fun q => q.2.2).getD 0 := rfl
    omega
theorem slT_sum : (slT.map yc_slE).sum ≤ 1000000 := by decide +kernel
theorem slM_mem {u : ST} (h : u.2.2.2.length ≤ 8192) : slM (mem u) ≤ 7302250 := by
  have e2 : (fun i => cellS u (0 + i)) = cellS u := by
    funext i
    rw [Nat.zero_add]
  unfold mem
  rw [← e2, yc_mi_idx (cellS u) (ent u) 0, yc_mi_sum]
  unfold ent
  rw [List.map_append, List.sum_append]
  have h1 := ps_sum u.2.2.2
  have h2 := slT_sum
  omega
theorem len_mem {u : ST} (h : u.2.2.2.length ≤ 8192) : (mem u).length ≤ 600000 := by
  unfold mem ent
  rw [List.length_mapIdx, List.length_append, List.length_map, slT_len]
  omega
theorem law_e : LawE := by
  intro G hN
  obtain ⟨u, hu, hl⟩ := lw_all (xs := gX G) XR0 hN
  have hl' : u.2.2.2.length ≤ 8192 := hl
  refine B_obj (M := []) (B := []) (n := 0) (l := 0) (pc := 0) (ci := 11) (fc := (4, 81)) (fs := [.null, .null, .null, .null, .null, .null, .null, .null, .null, .null, .int 0, .int 0, .int 0, .int 0]) (blk := blk11 0) rfl rfl l13_7 rfl (by decide +kernel) rfl dL_law_0 dL_law_3 dL_law_4 s13_9_11 oX11_init (Nat.le_of_ble_eq_true rfl) rfl rfl (by decide) (fun M0 h0 => i_X11 h0) ?_
  refine E_astore_n (pc := 7) (L2 := [.retAddr 0, .ref 0, D0, D0]) rfl rfl dL_law_7 ?_
  refine B_obj (M := []) (B := [] ++ blk11 0) (n := 0) (l := 247) (pc := 8) (ci := 12) (fc := (1, 20)) (fs := [.int 0, .null, .null, .null, .int 0, .null, .null, .null, .null, .int 0, .null, .null, .null, .null, .null, .null, .null, .null, .null, .null, .null, .int 0, .int 0, .null, .null, .null, .null, .int 0, .int 0, .int 0, .null, .null, .null, .null, .null, .null, .int 0, .null, .null, .int 0, .int 0, .null, .null, .null, .null, .null, .null, .null, .null, .null, .null, .null, .int 0, .int 0, .null, .null, .null, .null, .null, .null, .int 0, .null]) (blk := blk12 247) rfl (sB_len (n := 0) (i := 8)) l13_10 rfl (by decide +kernel) rfl dL_law_8 dL_law_11 dL_law_12 s13_12_12 oX12_init (Nat.le_of_ble_eq_true rfl) rfl rfl (by decide) (fun M0 h0 => i_X12 h0) ?_
  refine E_astore_n (pc := 15) (L2 := [.retAddr 0, .ref 0, .ref 247, D0]) rfl rfl dL_law_15 ?_
  refine E_iconst (pc := 16) 0 rfl dL_law_16 ?_
  refine E_istore_n (pc := 17) (L2 := [.retAddr 0, .ref 0, .ref 247, .int (nI 0)]) rfl rfl dL_law_17 ?_
  have em : ([] ++ ([] ++ blk11 0 ++ blk12 247) : SMem) = mem s0 := by
    rw [mem_s0]
    rfl
  rw [em]
  refine (e_L_law_18 hN FU hu).weaken ?_
  rintro rv M' ⟨rfl, rfl⟩
  exact ⟨rfl, len_mem hl', slM_mem hl'⟩
end
