/-! ===== answers that are true or false, numbers in a range ===== -/
def b2 (b : Bool) : Int32 := if b then 1 else 0
theorem b2_t : b2 true = 1 := rfl
theorem b2_f : b2 false = 0 := rfl
theorem b2_01 (b : Bool) : b2 b = 0 ∨ b2 b = 1 := by cases b <;> simp [b2]
theorem b2_nar (b : Bool) : narrow .boolean (.int (b2 b)) = .int (b2 b) := by cases b <;> rfl
def inR (x : Int32) (n : Nat) : Bool := decide (0 ≤ x) && decide (x < nI n)
theorem inR_of {x : Int32} {n : Nat} (h : inR x n = true) (hn : n < 2 ^ 31) : ∃ j : Nat, j < n ∧ x = nI j := by
  simp only [inR, Bool.and_eq_true, decide_eq_true_eq] at h
  obtain ⟨j, hj, rfl⟩ := nI_of (Int32.not_lt.mpr h.1)
  exact ⟨j, (nI_ltI hj hn).mp h.2, rfl⟩
theorem inR_nI {j n : Nat} (hj : j < 2 ^ 31) (hn : n < 2 ^ 31) : inR (nI j) n = decide (j < n) := by
  have h1 := nI_ltI hj hn
  have h2 : (0 : Int32) ≤ nI j := nI_pos' hj
  simp [inR, h1, h2]
theorem inR_f1 {x : Int32} {n : Nat} (h : x < 0) : inR x n = false := by
  simp [inR, Int32.not_le.mpr h]
theorem inR_f2 {x : Int32} {n : Nat} (h : nI n ≤ x) : inR x n = false := by
  simp [inR, Int32.not_lt.mpr h]
theorem inR_t {x : Int32} {n : Nat} (h : ¬ x < 0) (h2 : ¬ nI n ≤ x) : inR x n = true := by
  simp [inR, Int32.not_lt.mp h, Int32.not_le.mp h2]
section BB
variable {G : GP} {md : MD} {f : Nat × Nat} {pc : Nat} {L st : List Value} {M : SMem} {P : Option Value → SMem → Prop} {b : Bool} {off : Int}
theorem B_if_eq (tgt : Nat) (hd : decode md.2.2.1 pc = .ok (.ifCond .eq off, 3)) (ht : (pc : Int) + off = (tgt : Int)) (kt : b = false → E G md f tgt L st M P) (kf : b = true → E G md f (pc + 3) L st M P) : E G md f pc L (.int (b2 b) :: st) M P :=
  E_if_eq tgt hd ht (fun h => kt (by cases b <;> simp_all [b2])) (fun h => kf (by cases b <;> simp_all [b2]))
theorem B_if_ne (tgt : Nat) (hd : decode md.2.2.1 pc = .ok (.ifCond .ne off, 3)) (ht : (pc : Int) + off = (tgt : Int)) (kt : b = true → E G md f tgt L st M P) (kf : b = false → E G md f (pc + 3) L st M P) : E G md f pc L (.int (b2 b) :: st) M P :=
  E_if_ne tgt hd ht (fun h => kt (by cases b <;> simp_all [b2])) (fun h => kf (by cases b <;> simp_all [b2]))
end BB

theorem c_X12_isShelf {G : GP} {σ : ST} {x : Int32} : E G mX12_isShelf (0, 0) 0 [.ref 247, .int x] [] (mem σ) (fun rv M' => rv = some (.int (b2 (inR x 8))) ∧ M' = mem σ) := by
  refine E_iload_n (pc := 0) rfl dX12_isShelf_0 ?_
  refine E_if_lt (pc := 1) 14 dX12_isShelf_1 (by decide) (fun h1_ => ?_) (fun h1_ => ?_)
  · refine E_iconst (pc := 14) 0 rfl dX12_isShelf_14 ?_
    refine E_ireturn (pc := 15) rfl (by decide) dX12_isShelf_15 ?_
    exact ⟨by first | (rw [inR_f1 (by assumption)]; rfl) | (rw [inR_f2 (by assumption)]; rfl) | (rw [inR_t (by assumption) (by assumption)]; rfl), rfl⟩
  · refine E_iload_n (pc := 4) rfl dX12_isShelf_4 ?_
    refine E_bipush (pc := 5) (nI 8) (by decide) dX12_isShelf_5 ?_
    refine E_icmp_ge (pc := 7) 14 dX12_isShelf_7 (by decide) (fun h2_ => ?_) (fun h2_ => ?_)
    · refine E_iconst (pc := 14) 0 rfl dX12_isShelf_14 ?_
      refine E_ireturn (pc := 15) rfl (by decide) dX12_isShelf_15 ?_
      exact ⟨by first | (rw [inR_f1 (by assumption)]; rfl) | (rw [inR_f2 (by assumption)]; rfl) | (rw [inR_t (by assumption) (by assumption)]; rfl), rfl⟩
    · refine E_iconst (pc := 10) 1 rfl dX12_isShelf_10 ?_
      refine E_goto (pc := 11) 15 (by decide) dX12_isShelf_11 ?_
      refine E_ireturn (pc := 15) rfl (by decide) dX12_isShelf_15 ?_
      exact ⟨by first | (rw [inR_f1 (by assumption)]; rfl) | (rw [inR_f2 (by assumption)]; rfl) | (rw [inR_t (by assumption) (by assumption)]; rfl), rfl⟩
theorem c_X11_isShelf {G : GP} {σ : ST} {x : Int32} : E G mX11_isShelf (0, 0) 0 [.int x] [] (mem σ) (fun rv M' => rv = some (.int (b2 (inR x 8))) ∧ M' = mem σ) := by
  refine E_iload_n (pc := 0) rfl dX11_isShelf_0 ?_
  refine E_if_lt (pc := 1) 14 dX11_isShelf_1 (by decide) (fun h1_ => ?_) (fun h1_ => ?_)
  · refine E_iconst (pc := 14) 0 rfl dX11_isShelf_14 ?_
    refine E_ireturn (pc := 15) rfl (by decide) dX11_isShelf_15 ?_
    exact ⟨by first | (rw [inR_f1 (by assumption)]; rfl) | (rw [inR_f2 (by assumption)]; rfl) | (rw [inR_t (by assumption) (by assumption)]; rfl), rfl⟩
  · refine E_iload_n (pc := 4) rfl dX11_isShelf_4 ?_
    refine E_bipush (pc := 5) (nI 8) (by decide) dX11_isShelf_5 ?_
    refine E_icmp_ge (pc := 7) 14 dX11_isShelf_7 (by decide) (fun h2_ => ?_) (fun h2_ => ?_)
    · refine E_iconst (pc := 14) 0 rfl dX11_isShelf_14 ?_
      refine E_ireturn (pc := 15) rfl (by decide) dX11_isShelf_15 ?_
      exact ⟨by first | (rw [inR_f1 (by assumption)]; rfl) | (rw [inR_f2 (by assumption)]; rfl) | (rw [inR_t (by assumption) (by assumption)]; rfl), rfl⟩
    · refine E_iconst (pc := 10) 1 rfl dX11_isShelf_10 ?_
      refine E_goto (pc := 11) 15 (by decide) dX11_isShelf_11 ?_
      refine E_ireturn (pc := 15) rfl (by decide) dX11_isShelf_15 ?_
      exact ⟨by first | (rw [inR_f1 (by assumption)]; rfl) | (rw [inR_f2 (by assumption)]; rfl) | (rw [inR_t (by assumption) (by assumption)]; rfl), rfl⟩
theorem c_X12_isMouth {G : GP} {σ : ST} {x : Int32} : E G mX12_isMouth (0, 0) 0 [.ref 247, .int x] [] (mem σ) (fun rv M' => rv = some (.int (b2 (inR x 6))) ∧ M' = mem σ) := by
  refine E_iload_n (pc := 0) rfl dX12_isMouth_0 ?_
  refine E_if_lt (pc := 1) 14 dX12_isMouth_1 (by decide) (fun h1_ => ?_) (fun h1_ => ?_)
  · refine E_iconst (pc := 14) 0 rfl dX12_isMouth_14 ?_
    refine E_ireturn (pc := 15) rfl (by decide) dX12_isMouth_15 ?_
    exact ⟨by first | (rw [inR_f1 (by assumption)]; rfl) | (rw [inR_f2 (by assumption)]; rfl) | (rw [inR_t (by assumption) (by assumption)]; rfl), rfl⟩
  · refine E_iload_n (pc := 4) rfl dX12_isMouth_4 ?_
    refine E_bipush (pc := 5) (nI 6) (by decide) dX12_isMouth_5 ?_
    refine E_icmp_ge (pc := 7) 14 dX12_isMouth_7 (by decide) (fun h2_ => ?_) (fun h2_ => ?_)
    · refine E_iconst (pc := 14) 0 rfl dX12_isMouth_14 ?_
      refine E_ireturn (pc := 15) rfl (by decide) dX12_isMouth_15 ?_
      exact ⟨by first | (rw [inR_f1 (by assumption)]; rfl) | (rw [inR_f2 (by assumption)]; rfl) | (rw [inR_t (by assumption) (by assumption)]; rfl), rfl⟩
    · refine E_iconst (pc := 10) 1 rfl dX12_isMouth_10 ?_
      refine E_goto (pc := 11) 15 (by decide) dX12_isMouth_11 ?_
      refine E_ireturn (pc := 15) rfl (by decide) dX12_isMouth_15 ?_
      exact ⟨by first | (rw [inR_f1 (by assumption)]; rfl) | (rw [inR_f2 (by assumption)]; rfl) | (rw [inR_t (by assumption) (by assumption)]; rfl), rfl⟩
theorem c_X11_isMouth {G : GP} {σ : ST} {x : Int32} : E G mX11_isMouth (0, 0) 0 [.int x] [] (mem σ) (fun rv M' => rv = some (.int (b2 (inR x 6))) ∧ M' = mem σ) := by
  refine E_iload_n (pc := 0) rfl dX11_isMouth_0 ?_
  refine E_if_lt (pc := 1) 14 dX11_isMouth_1 (by decide) (fun h1_ => ?_) (fun h1_ => ?_)
  · refine E_iconst (pc := 14) 0 rfl dX11_isMouth_14 ?_
    refine E_ireturn (pc := 15) rfl (by decide) dX11_isMouth_15 ?_
    exact ⟨by first | (rw [inR_f1 (by assumption)]; rfl) | (rw [inR_f2 (by assumption)]; rfl) | (rw [inR_t (by assumption) (by assumption)]; rfl), rfl⟩
  · refine E_iload_n (pc := 4) rfl dX11_isMouth_4 ?_
    refine E_bipush (pc := 5) (nI 6) (by decide) dX11_isMouth_5 ?_
    refine E_icmp_ge (pc := 7) 14 dX11_isMouth_7 (by decide) (fun h2_ => ?_) (fun h2_ => ?_)
    · refine E_iconst (pc := 14) 0 rfl dX11_isMouth_14 ?_
      refine E_ireturn (pc := 15) rfl (by decide) dX11_isMouth_15 ?_
      exact ⟨by first | (rw [inR_f1 (by assumption)]; rfl) | (rw [inR_f2 (by assumption)]; rfl) | (rw [inR_t (by assumption) (by assumption)]; rfl), rfl⟩
    · refine E_iconst (pc := 10) 1 rfl dX11_isMouth_10 ?_
      refine E_goto (pc := 11) 15 (by decide) dX11_isMouth_11 ?_
      refine E_ireturn (pc := 15) rfl (by decide) dX11_isMouth_15 ?_
      exact ⟨by first | (rw [inR_f1 (by assumption)]; rfl) | (rw [inR_f2 (by assumption)]; rfl) | (rw [inR_t (by assumption) (by assumption)]; rfl), rfl⟩
theorem c_X12_isHour {G : GP} {σ : ST} {x : Int32} : E G mX12_isHour (0, 0) 0 [.ref 247, .int x] [] (mem σ) (fun rv M' => rv = some (.int (b2 (inR x 12))) ∧ M' = mem σ) := by
  refine E_iload_n (pc := 0) rfl dX12_isHour_0 ?_
  refine E_if_lt (pc := 1) 14 dX12_isHour_1 (by decide) (fun h1_ => ?_) (fun h1_ => ?_)
  · refine E_iconst (pc := 14) 0 rfl dX12_isHour_14 ?_
    refine E_ireturn (pc := 15) rfl (by decide) dX12_isHour_15 ?_
    exact ⟨by first | (rw [inR_f1 (by assumption)]; rfl) | (rw [inR_f2 (by assumption)]; rfl) | (rw [inR_t (by assumption) (by assumption)]; rfl), rfl⟩
  · refine E_iload_n (pc := 4) rfl dX12_isHour_4 ?_
    refine E_bipush (pc := 5) (nI 12) (by decide) dX12_isHour_5 ?_
    refine E_icmp_ge (pc := 7) 14 dX12_isHour_7 (by decide) (fun h2_ => ?_) (fun h2_ => ?_)
    · refine E_iconst (pc := 14) 0 rfl dX12_isHour_14 ?_
      refine E_ireturn (pc := 15) rfl (by decide) dX12_isHour_15 ?_
      exact ⟨by first | (rw [inR_f1 (by assumption)]; rfl) | (rw [inR_f2 (by assumption)]; rfl) | (rw [inR_t (by assumption) (by assumption)]; rfl), rfl⟩
    · refine E_iconst (pc := 10) 1 rfl dX12_isHour_10 ?_
      refine E_goto (pc := 11) 15 (by decide) dX12_isHour_11 ?_
      refine E_ireturn (pc := 15) rfl (by decide) dX12_isHour_15 ?_
      exact ⟨by first | (rw [inR_f1 (by assumption)]; rfl) | (rw [inR_f2 (by assumption)]; rfl) | (rw [inR_t (by assumption) (by assumption)]; rfl), rfl⟩
theorem c_X11_isHour {G : GP} {σ : ST} {x : Int32} : E G mX11_isHour (0, 0) 0 [.int x] [] (mem σ) (fun rv M' => rv = some (.int (b2 (inR x 12))) ∧ M' = mem σ) := by
  refine E_iload_n (pc := 0) rfl dX11_isHour_0 ?_
  refine E_if_lt (pc := 1) 14 dX11_isHour_1 (by decide) (fun h1_ => ?_) (fun h1_ => ?_)
  · refine E_iconst (pc := 14) 0 rfl dX11_isHour_14 ?_
    refine E_ireturn (pc := 15) rfl (by decide) dX11_isHour_15 ?_
    exact ⟨by first | (rw [inR_f1 (by assumption)]; rfl) | (rw [inR_f2 (by assumption)]; rfl) | (rw [inR_t (by assumption) (by assumption)]; rfl), rfl⟩
  · refine E_iload_n (pc := 4) rfl dX11_isHour_4 ?_
    refine E_bipush (pc := 5) (nI 12) (by decide) dX11_isHour_5 ?_
    refine E_icmp_ge (pc := 7) 14 dX11_isHour_7 (by decide) (fun h2_ => ?_) (fun h2_ => ?_)
    · refine E_iconst (pc := 14) 0 rfl dX11_isHour_14 ?_
      refine E_ireturn (pc := 15) rfl (by decide) dX11_isHour_15 ?_
      exact ⟨by first | (rw [inR_f1 (by assumption)]; rfl) | (rw [inR_f2 (by assumption)]; rfl) | (rw [inR_t (by assumption) (by assumption)]; rfl), rfl⟩
    · refine E_iconst (pc := 10) 1 rfl dX11_isHour_10 ?_
      refine E_goto (pc := 11) 15 (by decide) dX11_isHour_11 ?_
      refine E_ireturn (pc := 15) rfl (by decide) dX11_isHour_15 ?_
      exact ⟨by first | (rw [inR_f1 (by assumption)]; rfl) | (rw [inR_f2 (by assumption)]; rfl) | (rw [inR_t (by assumption) (by assumption)]; rfl), rfl⟩
theorem c_X11_isKind {G : GP} {σ : ST} {x : Int32} : E G mX11_isKind (0, 0) 0 [.int x] [] (mem σ) (fun rv M' => rv = some (.int (b2 (inR x 4))) ∧ M' = mem σ) := by
  refine E_iload_n (pc := 0) rfl dX11_isKind_0 ?_
  refine E_if_lt (pc := 1) 13 dX11_isKind_1 (by decide) (fun h1_ => ?_) (fun h1_ => ?_)
  · refine E_iconst (pc := 13) 0 rfl dX11_isKind_13 ?_
    refine E_ireturn (pc := 14) rfl (by decide) dX11_isKind_14 ?_
    exact ⟨by first | (rw [inR_f1 (by assumption)]; rfl) | (rw [inR_f2 (by assumption)]; rfl) | (rw [inR_t (by assumption) (by assumption)]; rfl), rfl⟩
  · refine E_iload_n (pc := 4) rfl dX11_isKind_4 ?_
    refine E_iconst (pc := 5) 4 rfl dX11_isKind_5 ?_
    refine E_icmp_ge (pc := 6) 13 dX11_isKind_6 (by decide) (fun h2_ => ?_) (fun h2_ => ?_)
    · refine E_iconst (pc := 13) 0 rfl dX11_isKind_13 ?_
      refine E_ireturn (pc := 14) rfl (by decide) dX11_isKind_14 ?_
      exact ⟨by first | (rw [inR_f1 (by assumption)]; rfl) | (rw [inR_f2 (by assumption)]; rfl) | (rw [inR_t (by assumption) (by assumption)]; rfl), rfl⟩
    · refine E_iconst (pc := 9) 1 rfl dX11_isKind_9 ?_
      refine E_goto (pc := 10) 14 (by decide) dX11_isKind_10 ?_
      refine E_ireturn (pc := 14) rfl (by decide) dX11_isKind_14 ?_
      exact ⟨by first | (rw [inR_f1 (by assumption)]; rfl) | (rw [inR_f2 (by assumption)]; rfl) | (rw [inR_t (by assumption) (by assumption)]; rfl), rfl⟩
theorem c_X11_isNumber {G : GP} {σ : ST} {x : Int32} : E G mX11_isNumber (0, 0) 0 [.int x] [] (mem σ) (fun rv M' => rv = some (.int (b2 (inR x 100))) ∧ M' = mem σ) := by
  refine E_iload_n (pc := 0) rfl dX11_isNumber_0 ?_
  refine E_if_lt (pc := 1) 14 dX11_isNumber_1 (by decide) (fun h1_ => ?_) (fun h1_ => ?_)
  · refine E_iconst (pc := 14) 0 rfl dX11_isNumber_14 ?_
    refine E_ireturn (pc := 15) rfl (by decide) dX11_isNumber_15 ?_
    exact ⟨by first | (rw [inR_f1 (by assumption)]; rfl) | (rw [inR_f2 (by assumption)]; rfl) | (rw [inR_t (by assumption) (by assumption)]; rfl), rfl⟩
  · refine E_iload_n (pc := 4) rfl dX11_isNumber_4 ?_
    refine E_bipush (pc := 5) (nI 99) (by decide) dX11_isNumber_5 ?_
    refine E_icmp_gt (pc := 7) 14 dX11_isNumber_7 (by decide) (fun h2_ => ?_) (fun h2_ => ?_)
    · refine E_iconst (pc := 14) 0 rfl dX11_isNumber_14 ?_
      refine E_ireturn (pc := 15) rfl (by decide) dX11_isNumber_15 ?_
      exact ⟨by first | (rw [inR_f1 (by assumption)]; rfl) | (rw [inR_f2 (by assumption)]; rfl) | (rw [inR_t (by assumption) (by assumption)]; rfl), rfl⟩
    · refine E_iconst (pc := 10) 1 rfl dX11_isNumber_10 ?_
      refine E_goto (pc := 11) 15 (by decide) dX11_isNumber_11 ?_
      refine E_ireturn (pc := 15) rfl (by decide) dX11_isNumber_15 ?_
      exact ⟨by first | (rw [inR_f1 (by assumption)]; rfl) | (rw [inR_f2 (by assumption)]; rfl) | (rw [inR_t (by assumption) (by assumption)]; rfl), rfl⟩
theorem c_X12_isThing {G : GP} {σ : ST} {x : Int32} {n : Nat} (hn : σ.1 247 0 = nI n) : E G mX12_isThing (0, 0) 0 [.ref 247, .int x] [] (mem σ) (fun rv M' => rv = some (.int (b2 (inR x n))) ∧ M' = mem σ) := by
  refine E_iload_n (pc := 0) rfl dX12_isThing_0 ?_
  refine E_if_lt (pc := 1) 16 dX12_isThing_1 (by decide) (fun h1_ => ?_) (fun h1_ => ?_)
  · refine E_iconst (pc := 16) 0 rfl dX12_isThing_16 ?_
    refine E_ireturn (pc := 17) rfl (by decide) dX12_isThing_17 ?_
    exact ⟨by first | (rw [inR_f1 (by assumption)]; rfl) | (rw [inR_f2 (by assumption)]; rfl) | (rw [inR_t (by assumption) (by assumption)]; rfl), rfl⟩
  · refine E_iload_n (pc := 4) rfl dX12_isThing_4 ?_
    refine E_aload_n (pc := 5) rfl dX12_isThing_5 ?_
    refine V_getI (pc := 6) f12_159 dX12_isThing_6 (ent_st MO247) (by decide) rfl (by rw [hn]) ?_
    refine E_icmp_ge (pc := 9) 16 dX12_isThing_9 (by decide) (fun h2_ => ?_) (fun h2_ => ?_)
    · refine E_iconst (pc := 16) 0 rfl dX12_isThing_16 ?_
      refine E_ireturn (pc := 17) rfl (by decide) dX12_isThing_17 ?_
      exact ⟨by first | (rw [inR_f1 (by assumption)]; rfl) | (rw [inR_f2 (by assumption)]; rfl) | (rw [inR_t (by assumption) (by assumption)]; rfl), rfl⟩
    · refine E_iconst (pc := 12) 1 rfl dX12_isThing_12 ?_
      refine E_goto (pc := 13) 17 (by decide) dX12_isThing_13 ?_
      refine E_ireturn (pc := 17) rfl (by decide) dX12_isThing_17 ?_
      exact ⟨by first | (rw [inR_f1 (by assumption)]; rfl) | (rw [inR_f2 (by assumption)]; rfl) | (rw [inR_t (by assumption) (by assumption)]; rfl), rfl⟩
theorem c_X12_isHappening {G : GP} {σ : ST} {x : Int32} {n : Nat} (hn : σ.1 247 4 = nI n) : E G mX12_isHappening (0, 0) 0 [.ref 247, .int x] [] (mem σ) (fun rv M' => rv = some (.int (b2 (inR x n))) ∧ M' = mem σ) := by
  refine E_iload_n (pc := 0) rfl dX12_isHappening_0 ?_
  refine E_if_lt (pc := 1) 16 dX12_isHappening_1 (by decide) (fun h1_ => ?_) (fun h1_ => ?_)
  · refine E_iconst (pc := 16) 0 rfl dX12_isHappening_16 ?_
    refine E_ireturn (pc := 17) rfl (by decide) dX12_isHappening_17 ?_
    exact ⟨by first | (rw [inR_f1 (by assumption)]; rfl) | (rw [inR_f2 (by assumption)]; rfl) | (rw [inR_t (by assumption) (by assumption)]; rfl), rfl⟩
  · refine E_iload_n (pc := 4) rfl dX12_isHappening_4 ?_
    refine E_aload_n (pc := 5) rfl dX12_isHappening_5 ?_
    refine V_getI (pc := 6) f12_162 dX12_isHappening_6 (ent_st MO247) (by decide) rfl (by rw [hn]) ?_
    refine E_icmp_ge (pc := 9) 16 dX12_isHappening_9 (by decide) (fun h2_ => ?_) (fun h2_ => ?_)
    · refine E_iconst (pc := 16) 0 rfl dX12_isHappening_16 ?_
      refine E_ireturn (pc := 17) rfl (by decide) dX12_isHappening_17 ?_
      exact ⟨by first | (rw [inR_f1 (by assumption)]; rfl) | (rw [inR_f2 (by assumption)]; rfl) | (rw [inR_t (by assumption) (by assumption)]; rfl), rfl⟩
    · refine E_iconst (pc := 12) 1 rfl dX12_isHappening_12 ?_
      refine E_goto (pc := 13) 17 (by decide) dX12_isHappening_13 ?_
      refine E_ireturn (pc := 17) rfl (by decide) dX12_isHappening_17 ?_
      exact ⟨by first | (rw [inR_f1 (by assumption)]; rfl) | (rw [inR_f2 (by assumption)]; rfl) | (rw [inR_t (by assumption) (by assumption)]; rfl), rfl⟩
theorem c_X12_isPiece {G : GP} {σ : ST} {x : Int32} {n : Nat} (hn : σ.1 247 9 = nI n) : E G mX12_isPiece (0, 0) 0 [.ref 247, .int x] [] (mem σ) (fun rv M' => rv = some (.int (b2 (inR x n))) ∧ M' = mem σ) := by
  refine E_iload_n (pc := 0) rfl dX12_isPiece_0 ?_
  refine E_if_lt (pc := 1) 16 dX12_isPiece_1 (by decide) (fun h1_ => ?_) (fun h1_ => ?_)
  · refine E_iconst (pc := 16) 0 rfl dX12_isPiece_16 ?_
    refine E_ireturn (pc := 17) rfl (by decide) dX12_isPiece_17 ?_
    exact ⟨by first | (rw [inR_f1 (by assumption)]; rfl) | (rw [inR_f2 (by assumption)]; rfl) | (rw [inR_t (by assumption) (by assumption)]; rfl), rfl⟩
  · refine E_iload_n (pc := 4) rfl dX12_isPiece_4 ?_
    refine E_aload_n (pc := 5) rfl dX12_isPiece_5 ?_
    refine V_getI (pc := 6) f12_165 dX12_isPiece_6 (ent_st MO247) (by decide) rfl (by rw [hn]) ?_
    refine E_icmp_ge (pc := 9) 16 dX12_isPiece_9 (by decide) (fun h2_ => ?_) (fun h2_ => ?_)
    · refine E_iconst (pc := 16) 0 rfl dX12_isPiece_16 ?_
      refine E_ireturn (pc := 17) rfl (by decide) dX12_isPiece_17 ?_
      exact ⟨by first | (rw [inR_f1 (by assumption)]; rfl) | (rw [inR_f2 (by assumption)]; rfl) | (rw [inR_t (by assumption) (by assumption)]; rfl), rfl⟩
    · refine E_iconst (pc := 12) 1 rfl dX12_isPiece_12 ?_
      refine E_goto (pc := 13) 17 (by decide) dX12_isPiece_13 ?_
      refine E_ireturn (pc := 17) rfl (by decide) dX12_isPiece_17 ?_
      exact ⟨by first | (rw [inR_f1 (by assumption)]; rfl) | (rw [inR_f2 (by assumption)]; rfl) | (rw [inR_t (by assumption) (by assumption)]; rfl), rfl⟩
theorem c_X11_isThing {G : GP} {σ : ST} {x : Int32} {n : Nat} (hn : σ.1 2 0 = nI n) : E G mX11_isThing (0, 0) 0 [.ref 0, .int x] [] (mem σ) (fun rv M' => rv = some (.int (b2 (inR x n))) ∧ M' = mem σ) := by
  refine E_iload_n (pc := 0) rfl dX11_isThing_0 ?_
  refine E_if_lt (pc := 1) 19 dX11_isThing_1 (by decide) (fun h1_ => ?_) (fun h1_ => ?_)
  · refine E_iconst (pc := 19) 0 rfl dX11_isThing_19 ?_
    refine E_ireturn (pc := 20) rfl (by decide) dX11_isThing_20 ?_
    exact ⟨by first | (rw [inR_f1 (by assumption)]; rfl) | (rw [inR_f2 (by assumption)]; rfl) | (rw [inR_t (by assumption) (by assumption)]; rfl), rfl⟩
  · refine E_iload_n (pc := 4) rfl dX11_isThing_4 ?_
    refine E_aload_n (pc := 5) rfl dX11_isThing_5 ?_
    refine R_getR (pc := 6) (b := 2) f11_18 dX11_isThing_6 (ent_st SW0) (by decide) rfl rfl ?_
    refine V_getI (pc := 9) f11_303 dX11_isThing_9 (ent_st WO2.1) (by decide) rfl (by rw [hn]) ?_
    refine E_icmp_ge (pc := 12) 19 dX11_isThing_12 (by decide) (fun h2_ => ?_) (fun h2_ => ?_)
    · refine E_iconst (pc := 19) 0 rfl dX11_isThing_19 ?_
      refine E_ireturn (pc := 20) rfl (by decide) dX11_isThing_20 ?_
      exact ⟨by first | (rw [inR_f1 (by assumption)]; rfl) | (rw [inR_f2 (by assumption)]; rfl) | (rw [inR_t (by assumption) (by assumption)]; rfl), rfl⟩
    · refine E_iconst (pc := 15) 1 rfl dX11_isThing_15 ?_
      refine E_goto (pc := 16) 20 (by decide) dX11_isThing_16 ?_
      refine E_ireturn (pc := 20) rfl (by decide) dX11_isThing_20 ?_
      exact ⟨by first | (rw [inR_f1 (by assumption)]; rfl) | (rw [inR_f2 (by assumption)]; rfl) | (rw [inR_t (by assumption) (by assumption)]; rfl), rfl⟩
theorem c_X11_isHappening {G : GP} {σ : ST} {x : Int32} {n : Nat} (hn : σ.1 2 1 = nI n) : E G mX11_isHappening (0, 0) 0 [.ref 0, .int x] [] (mem σ) (fun rv M' => rv = some (.int (b2 (inR x n))) ∧ M' = mem σ) := by
  refine E_iload_n (pc := 0) rfl dX11_isHappening_0 ?_
  refine E_if_lt (pc := 1) 19 dX11_isHappening_1 (by decide) (fun h1_ => ?_) (fun h1_ => ?_)
  · refine E_iconst (pc := 19) 0 rfl dX11_isHappening_19 ?_
    refine E_ireturn (pc := 20) rfl (by decide) dX11_isHappening_20 ?_
    exact ⟨by first | (rw [inR_f1 (by assumption)]; rfl) | (rw [inR_f2 (by assumption)]; rfl) | (rw [inR_t (by assumption) (by assumption)]; rfl), rfl⟩
  · refine E_iload_n (pc := 4) rfl dX11_isHappening_4 ?_
    refine E_aload_n (pc := 5) rfl dX11_isHappening_5 ?_
    refine R_getR (pc := 6) (b := 2) f11_18 dX11_isHappening_6 (ent_st SW0) (by decide) rfl rfl ?_
    refine V_getI (pc := 9) f11_174 dX11_isHappening_9 (ent_st WO2.1) (by decide) rfl (by rw [hn]) ?_
    refine E_icmp_ge (pc := 12) 19 dX11_isHappening_12 (by decide) (fun h2_ => ?_) (fun h2_ => ?_)
    · refine E_iconst (pc := 19) 0 rfl dX11_isHappening_19 ?_
      refine E_ireturn (pc := 20) rfl (by decide) dX11_isHappening_20 ?_
      exact ⟨by first | (rw [inR_f1 (by assumption)]; rfl) | (rw [inR_f2 (by assumption)]; rfl) | (rw [inR_t (by assumption) (by assumption)]; rfl), rfl⟩
    · refine E_iconst (pc := 15) 1 rfl dX11_isHappening_15 ?_
      refine E_goto (pc := 16) 20 (by decide) dX11_isHappening_16 ?_
      refine E_ireturn (pc := 20) rfl (by decide) dX11_isHappening_20 ?_
      exact ⟨by first | (rw [inR_f1 (by assumption)]; rfl) | (rw [inR_f2 (by assumption)]; rfl) | (rw [inR_t (by assumption) (by assumption)]; rfl), rfl⟩
