theorem b2_eq0 {b : Bool} (h : b = false) : some (Value.int (nI 0)) = some (Value.int (b2 b)) := by subst h; rfl
theorem b2_eq1 {b : Bool} (h : b = true) : some (Value.int (nI 1)) = some (Value.int (b2 b)) := by subst h; rfl
def bumpM (σ : ST) (k : Nat) : ST := setI σ 294 k (σ.1 294 k + 1)
def bumpC (σ : ST) (k : Nat) : ST := setI σ 229 k (σ.1 229 k + 1)
def rowV (h : Int32) : Int32 := if h < 0 then -3 else if nI 100 ≤ h then 0 else -2
theorem c_X12_no {G : GP} {σ : ST} {x : Int32} {k : Nat} (hx : -x = nI k) (hk : k < 8) : E G mX12_no (0, 0) 0 [.ref 247, .int x] [] (mem σ) (fun rv M' => rv = some (.int x) ∧ M' = mem (bumpM σ k)) := by
  refine E_aload_n (pc := 0) rfl dX12_no_0 ?_
  refine R_getR (pc := 1) (b := 294) f12_153 dX12_no_1 (ent_st MO247) (by decide) rfl rfl ?_
  refine E_iload_n (pc := 4) rfl dX12_no_4 ?_
  refine E_ineg (pc := 5) dX12_no_5 ?_
  refine E_dup2 (pc := 6) rfl rfl dX12_no_6 ?_
  refine V_iald (pc := 7) (j := k) dX12_no_7 (ent_st MA294) hx (by omega) (by decide) rfl ?_
  refine E_iconst (pc := 8) 1 rfl dX12_no_8 ?_
  refine E_iadd (pc := 9) dX12_no_9 ?_
  refine R_iast (pc := 10) (j := k) dX12_no_10 (ent_st MA294) hx (by omega) (by decide) ?_
  refine E_iload_n (pc := 11) rfl dX12_no_11 ?_
  refine E_ireturn (pc := 12) rfl rfl dX12_no_12 ?_
  exact ⟨rfl, rfl⟩
theorem c_X12_isRow {G : GP} {σ : ST} {s : Nat} (hs : s < 8) : E G mX12_isRow (0, 0) 0 [.ref 247, .int (nI s)] [] (mem σ) (fun rv M' => rv = some (.int (b2 (decide (nI 100 ≤ σ.1 263 s)))) ∧ M' = mem σ) := by
  refine E_aload_n (pc := 0) rfl dX12_isRow_0 ?_
  refine R_getR (pc := 1) (b := 263) f12_55 dX12_isRow_1 (ent_st MO247) (by decide) rfl rfl ?_
  refine E_iload_n (pc := 4) rfl dX12_isRow_4 ?_
  refine V_iald (pc := 5) (j := s) dX12_isRow_5 (ent_st MA263) rfl (by omega) (by decide) rfl ?_
  refine E_bipush (pc := 6) (nI 100) (by decide) dX12_isRow_6 ?_
  refine E_icmp_lt (pc := 8) 15 dX12_isRow_8 (by decide) (fun h1_ => ?_) (fun h1_ => ?_)
  · refine E_iconst (pc := 15) 0 rfl dX12_isRow_15 ?_
    refine E_ireturn (pc := 16) rfl (by decide) dX12_isRow_16 ?_
    refine ⟨?_, rfl⟩
    first | (refine b2_eq0 ?_; simp_all [Int32.not_le, Int32.not_lt]; done) | (refine b2_eq1 ?_; simp_all [Int32.not_le, Int32.not_lt]; done) | (refine b2_eq0 ?_; simp only [Bool.and_eq_false_iff, decide_eq_false_iff_not, Int32.lt_iff_toInt_lt, Int32.le_iff_toInt_le] at *; omega) | (refine b2_eq1 ?_; simp only [Bool.and_eq_true, decide_eq_true_eq, Int32.lt_iff_toInt_lt, Int32.le_iff_toInt_le] at *; omega)
  · refine E_iconst (pc := 11) 1 rfl dX12_isRow_11 ?_
    refine E_goto (pc := 12) 16 (by decide) dX12_isRow_12 ?_
    refine E_ireturn (pc := 16) rfl (by decide) dX12_isRow_16 ?_
    refine ⟨?_, rfl⟩
    first | (refine b2_eq0 ?_; simp_all [Int32.not_le, Int32.not_lt]; done) | (refine b2_eq1 ?_; simp_all [Int32.not_le, Int32.not_lt]; done) | (refine b2_eq0 ?_; simp only [Bool.and_eq_false_iff, decide_eq_false_iff_not, Int32.lt_iff_toInt_lt, Int32.le_iff_toInt_le] at *; omega) | (refine b2_eq1 ?_; simp only [Bool.and_eq_true, decide_eq_true_eq, Int32.lt_iff_toInt_lt, Int32.le_iff_toInt_le] at *; omega)
theorem c_X12_holdsPiece {G : GP} {σ : ST} {s : Nat} (hs : s < 8) : E G mX12_holdsPiece (0, 0) 0 [.ref 247, .int (nI s)] [] (mem σ) (fun rv M' => rv = some (.int (b2 (decide (0 ≤ σ.1 263 s) && decide (σ.1 263 s < nI 100)))) ∧ M' = mem σ) := by
  refine E_aload_n (pc := 0) rfl dX12_holdsPiece_0 ?_
  refine R_getR (pc := 1) (b := 263) f12_55 dX12_holdsPiece_1 (ent_st MO247) (by decide) rfl rfl ?_
  refine E_iload_n (pc := 4) rfl dX12_holdsPiece_4 ?_
  refine V_iald (pc := 5) (j := s) dX12_holdsPiece_5 (ent_st MA263) rfl (by omega) (by decide) rfl ?_
  refine E_if_lt (pc := 6) 24 dX12_holdsPiece_6 (by decide) (fun h1_ => ?_) (fun h1_ => ?_)
  · refine E_iconst (pc := 24) 0 rfl dX12_holdsPiece_24 ?_
    refine E_ireturn (pc := 25) rfl (by decide) dX12_holdsPiece_25 ?_
    refine ⟨?_, rfl⟩
    first | (refine b2_eq0 ?_; simp_all [Int32.not_le, Int32.not_lt]; done) | (refine b2_eq1 ?_; simp_all [Int32.not_le, Int32.not_lt]; done) | (refine b2_eq0 ?_; simp only [Bool.and_eq_false_iff, decide_eq_false_iff_not, Int32.lt_iff_toInt_lt, Int32.le_iff_toInt_le] at *; omega) | (refine b2_eq1 ?_; simp only [Bool.and_eq_true, decide_eq_true_eq, Int32.lt_iff_toInt_lt, Int32.le_iff_toInt_le] at *; omega)
  · refine E_aload_n (pc := 9) rfl dX12_holdsPiece_9 ?_
    refine R_getR (pc := 10) (b := 263) f12_55 dX12_holdsPiece_10 (ent_st MO247) (by decide) rfl rfl ?_
    refine E_iload_n (pc := 13) rfl dX12_holdsPiece_13 ?_
    refine V_iald (pc := 14) (j := s) dX12_holdsPiece_14 (ent_st MA263) rfl (by omega) (by decide) rfl ?_
    refine E_bipush (pc := 15) (nI 100) (by decide) dX12_holdsPiece_15 ?_
    refine E_icmp_ge (pc := 17) 24 dX12_holdsPiece_17 (by decide) (fun h2_ => ?_) (fun h2_ => ?_)
    · refine E_iconst (pc := 24) 0 rfl dX12_holdsPiece_24 ?_
      refine E_ireturn (pc := 25) rfl (by decide) dX12_holdsPiece_25 ?_
      refine ⟨?_, rfl⟩
      first | (refine b2_eq0 ?_; simp_all [Int32.not_le, Int32.not_lt]; done) | (refine b2_eq1 ?_; simp_all [Int32.not_le, Int32.not_lt]; done) | (refine b2_eq0 ?_; simp only [Bool.and_eq_false_iff, decide_eq_false_iff_not, Int32.lt_iff_toInt_lt, Int32.le_iff_toInt_le] at *; omega) | (refine b2_eq1 ?_; simp only [Bool.and_eq_true, decide_eq_true_eq, Int32.lt_iff_toInt_lt, Int32.le_iff_toInt_le] at *; omega)
    · refine E_iconst (pc := 20) 1 rfl dX12_holdsPiece_20 ?_
      refine E_goto (pc := 21) 25 (by decide) dX12_holdsPiece_21 ?_
      refine E_ireturn (pc := 25) rfl (by decide) dX12_holdsPiece_25 ?_
      refine ⟨?_, rfl⟩
      first | (refine b2_eq0 ?_; simp_all [Int32.not_le, Int32.not_lt]; done) | (refine b2_eq1 ?_; simp_all [Int32.not_le, Int32.not_lt]; done) | (refine b2_eq0 ?_; simp only [Bool.and_eq_false_iff, decide_eq_false_iff_not, Int32.lt_iff_toInt_lt, Int32.le_iff_toInt_le] at *; omega) | (refine b2_eq1 ?_; simp only [Bool.and_eq_true, decide_eq_true_eq, Int32.lt_iff_toInt_lt, Int32.le_iff_toInt_le] at *; omega)
theorem c_X12_areHours {G : GP} {σ : ST} {p q : Int32} : E G mX12_areHours (1, 21) 0 [.ref 247, .int p, .int q] [] (mem σ) (fun rv M' => rv = some (.int (b2 (inR p 12 && inR q 12 && decide (p ≤ q)))) ∧ M' = mem σ) := by
  refine E_aload_n (pc := 0) rfl dX12_areHours_0 ?_
  refine E_iload_n (pc := 1) rfl dX12_areHours_1 ?_
  refine E_callV (pc := 2) (As := [_]) (fc := (0, 0)) s12_168_12 oX12_isHour dX12_areHours_2 (mem_ob (ent_st MO247)) rfl rfl (Nat.le_of_ble_eq_true rfl) rfl rfl (by decide) (c_X12_isHour (x := p)) (fun rv_ M_ hq_ => ?_)
  obtain ⟨rfl, rfl⟩ := hq_
  refine B_if_eq (pc := 5) 25 dX12_areHours_5 (by decide) (fun h1_ => ?_) (fun h1_ => ?_)
  · refine E_iconst (pc := 25) 0 rfl dX12_areHours_25 ?_
    refine E_ireturn (pc := 26) rfl (by decide) dX12_areHours_26 ?_
    refine ⟨?_, rfl⟩
    first | (refine b2_eq0 ?_; simp_all [Int32.not_le, Int32.not_lt]; done) | (refine b2_eq1 ?_; simp_all [Int32.not_le, Int32.not_lt]; done) | (refine b2_eq0 ?_; simp only [Bool.and_eq_false_iff, decide_eq_false_iff_not, Int32.lt_iff_toInt_lt, Int32.le_iff_toInt_le] at *; omega) | (refine b2_eq1 ?_; simp only [Bool.and_eq_true, decide_eq_true_eq, Int32.lt_iff_toInt_lt, Int32.le_iff_toInt_le] at *; omega)
  · refine E_aload_n (pc := 8) rfl dX12_areHours_8 ?_
    refine E_iload_n (pc := 9) rfl dX12_areHours_9 ?_
    refine E_callV (pc := 10) (As := [_]) (fc := (0, 0)) s12_168_12 oX12_isHour dX12_areHours_10 (mem_ob (ent_st MO247)) rfl rfl (Nat.le_of_ble_eq_true rfl) rfl rfl (by decide) (c_X12_isHour (x := q)) (fun rv_ M_ hq_ => ?_)
    obtain ⟨rfl, rfl⟩ := hq_
    refine B_if_eq (pc := 13) 25 dX12_areHours_13 (by decide) (fun h2_ => ?_) (fun h2_ => ?_)
    · refine E_iconst (pc := 25) 0 rfl dX12_areHours_25 ?_
      refine E_ireturn (pc := 26) rfl (by decide) dX12_areHours_26 ?_
      refine ⟨?_, rfl⟩
      first | (refine b2_eq0 ?_; simp_all [Int32.not_le, Int32.not_lt]; done) | (refine b2_eq1 ?_; simp_all [Int32.not_le, Int32.not_lt]; done) | (refine b2_eq0 ?_; simp only [Bool.and_eq_false_iff, decide_eq_false_iff_not, Int32.lt_iff_toInt_lt, Int32.le_iff_toInt_le] at *; omega) | (refine b2_eq1 ?_; simp only [Bool.and_eq_true, decide_eq_true_eq, Int32.lt_iff_toInt_lt, Int32.le_iff_toInt_le] at *; omega)
    · refine E_iload_n (pc := 16) rfl dX12_areHours_16 ?_
      refine E_iload_n (pc := 17) rfl dX12_areHours_17 ?_
      refine E_icmp_gt (pc := 18) 25 dX12_areHours_18 (by decide) (fun h3_ => ?_) (fun h3_ => ?_)
      · refine E_iconst (pc := 25) 0 rfl dX12_areHours_25 ?_
        refine E_ireturn (pc := 26) rfl (by decide) dX12_areHours_26 ?_
        refine ⟨?_, rfl⟩
        first | (refine b2_eq0 ?_; simp_all [Int32.not_le, Int32.not_lt]; done) | (refine b2_eq1 ?_; simp_all [Int32.not_le, Int32.not_lt]; done) | (refine b2_eq0 ?_; simp only [Bool.and_eq_false_iff, decide_eq_false_iff_not, Int32.lt_iff_toInt_lt, Int32.le_iff_toInt_le] at *; omega) | (refine b2_eq1 ?_; simp only [Bool.and_eq_true, decide_eq_true_eq, Int32.lt_iff_toInt_lt, Int32.le_iff_toInt_le] at *; omega)
      · refine E_iconst (pc := 21) 1 rfl dX12_areHours_21 ?_
        refine E_goto (pc := 22) 26 (by decide) dX12_areHours_22 ?_
        refine E_ireturn (pc := 26) rfl (by decide) dX12_areHours_26 ?_
        refine ⟨?_, rfl⟩
        first | (refine b2_eq0 ?_; simp_all [Int32.not_le, Int32.not_lt]; done) | (refine b2_eq1 ?_; simp_all [Int32.not_le, Int32.not_lt]; done) | (refine b2_eq0 ?_; simp only [Bool.and_eq_false_iff, decide_eq_false_iff_not, Int32.lt_iff_toInt_lt, Int32.le_iff_toInt_le] at *; omega) | (refine b2_eq1 ?_; simp only [Bool.and_eq_true, decide_eq_true_eq, Int32.lt_iff_toInt_lt, Int32.le_iff_toInt_le] at *; omega)
theorem c_X11_areHours {G : GP} {σ : ST} {p q : Int32} : E G mX11_areHours (1, 20) 0 [.int p, .int q] [] (mem σ) (fun rv M' => rv = some (.int (b2 (inR p 12 && inR q 12 && decide (p ≤ q)))) ∧ M' = mem σ) := by
  refine E_iload_n (pc := 0) rfl dX11_areHours_0 ?_
  refine E_callS (pc := 1) (As := [_]) (fc := (0, 0)) s11_197 oX11_isHour dX11_areHours_1 rfl rfl (Nat.le_of_ble_eq_true rfl) rfl rfl (by decide) (c_X11_isHour (x := p)) (fun rv_ M_ hq_ => ?_)
  obtain ⟨rfl, rfl⟩ := hq_
  refine B_if_eq (pc := 4) 23 dX11_areHours_4 (by decide) (fun h1_ => ?_) (fun h1_ => ?_)
  · refine E_iconst (pc := 23) 0 rfl dX11_areHours_23 ?_
    refine E_ireturn (pc := 24) rfl (by decide) dX11_areHours_24 ?_
    refine ⟨?_, rfl⟩
    first | (refine b2_eq0 ?_; simp_all [Int32.not_le, Int32.not_lt]; done) | (refine b2_eq1 ?_; simp_all [Int32.not_le, Int32.not_lt]; done) | (refine b2_eq0 ?_; simp only [Bool.and_eq_false_iff, decide_eq_false_iff_not, Int32.lt_iff_toInt_lt, Int32.le_iff_toInt_le] at *; omega) | (refine b2_eq1 ?_; simp only [Bool.and_eq_true, decide_eq_true_eq, Int32.lt_iff_toInt_lt, Int32.le_iff_toInt_le] at *; omega)
  · refine E_iload_n (pc := 7) rfl dX11_areHours_7 ?_
    refine E_callS (pc := 8) (As := [_]) (fc := (0, 0)) s11_197 oX11_isHour dX11_areHours_8 rfl rfl (Nat.le_of_ble_eq_true rfl) rfl rfl (by decide) (c_X11_isHour (x := q)) (fun rv_ M_ hq_ => ?_)
    obtain ⟨rfl, rfl⟩ := hq_
    refine B_if_eq (pc := 11) 23 dX11_areHours_11 (by decide) (fun h2_ => ?_) (fun h2_ => ?_)
    · refine E_iconst (pc := 23) 0 rfl dX11_areHours_23 ?_
      refine E_ireturn (pc := 24) rfl (by decide) dX11_areHours_24 ?_
      refine ⟨?_, rfl⟩
      first | (refine b2_eq0 ?_; simp_all [Int32.not_le, Int32.not_lt]; done) | (refine b2_eq1 ?_; simp_all [Int32.not_le, Int32.not_lt]; done) | (refine b2_eq0 ?_; simp only [Bool.and_eq_false_iff, decide_eq_false_iff_not, Int32.lt_iff_toInt_lt, Int32.le_iff_toInt_le] at *; omega) | (refine b2_eq1 ?_; simp only [Bool.and_eq_true, decide_eq_true_eq, Int32.lt_iff_toInt_lt, Int32.le_iff_toInt_le] at *; omega)
    · refine E_iload_n (pc := 14) rfl dX11_areHours_14 ?_
      refine E_iload_n (pc := 15) rfl dX11_areHours_15 ?_
      refine E_icmp_gt (pc := 16) 23 dX11_areHours_16 (by decide) (fun h3_ => ?_) (fun h3_ => ?_)
      · refine E_iconst (pc := 23) 0 rfl dX11_areHours_23 ?_
        refine E_ireturn (pc := 24) rfl (by decide) dX11_areHours_24 ?_
        refine ⟨?_, rfl⟩
        first | (refine b2_eq0 ?_; simp_all [Int32.not_le, Int32.not_lt]; done) | (refine b2_eq1 ?_; simp_all [Int32.not_le, Int32.not_lt]; done) | (refine b2_eq0 ?_; simp only [Bool.and_eq_false_iff, decide_eq_false_iff_not, Int32.lt_iff_toInt_lt, Int32.le_iff_toInt_le] at *; omega) | (refine b2_eq1 ?_; simp only [Bool.and_eq_true, decide_eq_true_eq, Int32.lt_iff_toInt_lt, Int32.le_iff_toInt_le] at *; omega)
      · refine E_iconst (pc := 19) 1 rfl dX11_areHours_19 ?_
        refine E_goto (pc := 20) 24 (by decide) dX11_areHours_20 ?_
        refine E_ireturn (pc := 24) rfl (by decide) dX11_areHours_24 ?_
        refine ⟨?_, rfl⟩
        first | (refine b2_eq0 ?_; simp_all [Int32.not_le, Int32.not_lt]; done) | (refine b2_eq1 ?_; simp_all [Int32.not_le, Int32.not_lt]; done) | (refine b2_eq0 ?_; simp only [Bool.and_eq_false_iff, decide_eq_false_iff_not, Int32.lt_iff_toInt_lt, Int32.le_iff_toInt_le] at *; omega) | (refine b2_eq1 ?_; simp only [Bool.and_eq_true, decide_eq_true_eq, Int32.lt_iff_toInt_lt, Int32.le_iff_toInt_le] at *; omega)
theorem c_X12_noRow {G : GP} {σ : ST} {x : Int32} : E G mX12_noRow (1, 21) 0 [.ref 247, .int x] [] (mem σ) (fun rv M' => rv = some (.int (if inR x 8 then rowV (σ.1 263 x.toNatClampNeg) else -1)) ∧ M' = mem σ) := by
  refine E_aload_n (pc := 0) rfl dX12_noRow_0 ?_
  refine E_iload_n (pc := 1) rfl dX12_noRow_1 ?_
  refine E_callV (pc := 2) (As := [_]) (fc := (0, 0)) s12_172_12 oX12_isShelf dX12_noRow_2 (mem_ob (ent_st MO247)) rfl rfl (Nat.le_of_ble_eq_true rfl) rfl rfl (by decide) (c_X12_isShelf (x := x)) (fun rv_ M_ hq_ => ?_)
  obtain ⟨rfl, rfl⟩ := hq_
  refine B_if_ne (pc := 5) 10 dX12_noRow_5 (by decide) (fun h1_ => ?_) (fun h1_ => ?_)
  · obtain ⟨j, hj, rfl⟩ := inR_of h1_ (by decide)
    refine E_aload_n (pc := 10) rfl dX12_noRow_10 ?_
    refine R_getR (pc := 11) (b := 263) f12_55 dX12_noRow_11 (ent_st MO247) (by decide) rfl rfl ?_
    refine E_iload_n (pc := 14) rfl dX12_noRow_14 ?_
    refine V_iald (pc := 15) (j := j) dX12_noRow_15 (ent_st MA263) (by first | rfl | simp only [nI_mul, nI_add]) (by omega) (by decide) rfl ?_
    refine E_if_ge (pc := 16) 22 dX12_noRow_16 (by decide) (fun h1_ => ?_) (fun h1_ => ?_)
    · refine E_aload_n (pc := 22) rfl dX12_noRow_22 ?_
      refine E_iload_n (pc := 23) rfl dX12_noRow_23 ?_
      refine E_callV (pc := 24) (As := [_]) (fc := (0, 0)) s12_179_12 oX12_isRow dX12_noRow_24 (mem_ob (ent_st MO247)) rfl rfl (Nat.le_of_ble_eq_true rfl) rfl rfl (by decide) (c_X12_isRow (s := j) hj) (fun rv_ M_ hq_ => ?_)
      obtain ⟨rfl, rfl⟩ := hq_
      refine B_if_eq (pc := 27) 34 dX12_noRow_27 (by decide) (fun h2_ => ?_) (fun h2_ => ?_)
      · refine E_bipush (pc := 34) (-2) (by decide) dX12_noRow_34 ?_
        refine E_ireturn (pc := 36) rfl rfl dX12_noRow_36 ?_
        rw [cl_nI rfl hj (by decide)]
        unfold rowV
        refine ⟨congrArg (fun v => some (Value.int v)) ?_, rfl⟩
        (repeat' split) <;> first | rfl | contradiction | (simp_all; done) | (simp only [Int32.lt_iff_toInt_lt, Int32.le_iff_toInt_le] at *; omega)
      · refine E_iconst (pc := 30) 0 rfl dX12_noRow_30 ?_
        refine E_goto (pc := 31) 36 (by decide) dX12_noRow_31 ?_
        refine E_ireturn (pc := 36) rfl rfl dX12_noRow_36 ?_
        rw [cl_nI rfl hj (by decide)]
        unfold rowV
        refine ⟨congrArg (fun v => some (Value.int v)) ?_, rfl⟩
        (repeat' split) <;> first | rfl | contradiction | (simp_all; done) | (simp only [Int32.lt_iff_toInt_lt, Int32.le_iff_toInt_le] at *; omega)
    · refine E_bipush (pc := 19) (-3) (by decide) dX12_noRow_19 ?_
      refine E_ireturn (pc := 21) rfl rfl dX12_noRow_21 ?_
      rw [cl_nI rfl hj (by decide)]
      unfold rowV
      refine ⟨congrArg (fun v => some (Value.int v)) ?_, rfl⟩
      (repeat' split) <;> first | rfl | contradiction | (simp_all; done) | (simp only [Int32.lt_iff_toInt_lt, Int32.le_iff_toInt_le] at *; omega)
  · refine E_im1 (pc := 8) dX12_noRow_8 ?_
    refine E_ireturn (pc := 9) rfl rfl dX12_noRow_9 ?_
    rw [h1_]; exact ⟨rfl, rfl⟩
