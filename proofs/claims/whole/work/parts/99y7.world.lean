section
/-! ===== a world is made ===== -/
variable {G : GP} {M : SMem} {P : Option Value → SMem → Prop} {n : Nat}
def wF (n : Nat) : List Value := [.int (nI 0), .int (nI 0), .int (nI 0), .int (nI 0), .ref (n + 1), .ref (n + 2), .ref (n + 3), .ref (n + 4), .ref (n + 5), .ref (n + 6)]
def A10 : SC := .inl (0, 10, .inl (fun _ => 0))
def CAr (n i : Nat) : SC := .inl (3, 10, .inr (.inr (.inr (.inr (fun k => if k < i then some (n + (7 + 5 * k)) else none)))))
def LAr (n i : Nat) : SC := .inl (4, 6, .inr (.inr (.inr (.inr (fun k => if k < i then some (n + (57 + 6 * k)) else none)))))
def PAr : SC := .inl (5, 16, .inr (.inr (.inr (.inr (fun _ => none)))))
def WTr (x : Int32) (i : Nat) : SC := .inl (0, 6, .inl (fun k => if k < i then x else 0))
def cds (n : Nat) : Nat → SMem
  | 0 => []
  | i + 1 => cds n i ++ blk1 (n + (7 + 5 * i))
def lwC (n : Nat) : Nat → SMem
  | 0 => []
  | i + 1 => lwC n i ++ blk3 (n + (57 + 6 * i))
theorem cds_len : ∀ i, (cds n i).length = 5 * i := by
  intro i
  induction i with
  | zero => rfl
  | succ i ih => rw [cds, List.length_append, ih]; show 5 * i + 5 = _; omega
theorem lwC_len : ∀ i, (lwC n i).length = 6 * i := by
  intro i
  induction i with
  | zero => rfl
  | succ i ih => rw [lwC, List.length_append, ih]; show 6 * i + 6 = _; omega
def wB (n i h : Nat) (x : Int32) (w : Nat) : SMem := .inr (10, wF n) :: A10 :: A10 :: CAr n i :: LAr n h :: PAr :: WTr x w :: (cds n i ++ lwC n h)
theorem wB_len {i h w : Nat} {x : Int32} : (wB n i h x w).length = 7 + 5 * i + 6 * h := by
  show ((cds n i ++ lwC n h).length + 1 + 1 + 1 + 1 + 1 + 1 + 1) = _
  rw [List.length_append, cds_len, lwC_len]
  omega
theorem CAr_up {i : Nat} : (.inl (3, 10, .inr (.inr (.inr (.inr (va_up (fun k => if k < i then some (n + (7 + 5 * k)) else none) i (some (n + (7 + 5 * i)))))))) : SC) = CAr n (i + 1) := by
  have e : va_up (fun k => if k < i then some (n + (7 + 5 * k)) else none) i (some (n + (7 + 5 * i))) = fun k => if k < i + 1 then some (n + (7 + 5 * k)) else none := by
    funext k
    unfold va_up
    by_cases z : k = i
    · rw [if_pos z, z, if_pos (by omega)]
    · rw [if_neg z]
      show (if k < i then _ else _) = _
      by_cases w : k < i
      · rw [if_pos w, if_pos (by omega)]
      · rw [if_neg w, if_neg (by omega)]
  unfold CAr
  rw [e]
theorem LAr_up {i : Nat} : (.inl (4, 6, .inr (.inr (.inr (.inr (va_up (fun k => if k < i then some (n + (57 + 6 * k)) else none) i (some (n + (57 + 6 * i)))))))) : SC) = LAr n (i + 1) := by
  have e : va_up (fun k => if k < i then some (n + (57 + 6 * k)) else none) i (some (n + (57 + 6 * i))) = fun k => if k < i + 1 then some (n + (57 + 6 * k)) else none := by
    funext k
    unfold va_up
    by_cases z : k = i
    · rw [if_pos z, z, if_pos (by omega)]
    · rw [if_neg z]
      show (if k < i then _ else _) = _
      by_cases w : k < i
      · rw [if_pos w, if_pos (by omega)]
      · rw [if_neg w, if_neg (by omega)]
  unfold LAr
  rw [e]
theorem w_loop1 (hn : M.length = n) (kk : E G mX10_init (3, 60) 102 [.ref n, .int (nI 10)] [] (M ++ wB n 10 0 0 0) P) : ∀ d i, i + d = 10 → E G mX10_init (3, 60) 77 [.ref n, .int (nI i)] [] (M ++ wB n i 0 0 0) P := by
  intro d
  induction d with
  | zero =>
    intro i hi
    have : i = 10 := hi
    subst this
    refine E_iload_n (pc := 77) rfl dX10_init_77 ?_
    refine E_bipush (pc := 78) (nI 10) (by decide) dX10_init_78 ?_
    exact E_icmp_ge (pc := 80) 102 dX10_init_80 (by decide) (fun _ => kk) (fun q => absurd (by decide) q)
  | succ d ih =>
    intro i hi
    have hlen : (wB n i 0 0 0).length = 7 + 5 * i := by rw [wB_len]; omega
    refine E_iload_n (pc := 77) rfl dX10_init_77 ?_
    refine E_bipush (pc := 78) (nI 10) (by decide) dX10_init_78 ?_
    refine E_icmp_ge (pc := 80) 102 dX10_init_80 (by decide) (fun q => absurd q (Int32.not_le.mpr ((nI_ltI (by omega) (by omega)).mpr (by omega)))) (fun _ => ?_)
    refine E_aload_n (pc := 83) rfl dX10_init_83 ?_
    refine B_getf (j := 0) (pc := 84) hn f10_33 rfl (by decide) rfl dX10_init_84 ?_
    refine E_iload_n (pc := 87) rfl dX10_init_87 ?_
    refine B_obj (l := 7 + 5 * i) (pc := 88) (ci := 1) (fc := (1, 20)) (fs := [.int 0, .null, .null, .null, .null]) (blk := blk1 (n + (7 + 5 * i))) hn hlen l10_31 rfl (by decide +kernel) rfl dX10_init_88 dX10_init_91 dX10_init_92 s10_52_1 oX1_init (Nat.le_of_ble_eq_true rfl) rfl rfl (by decide) (fun M0 h0 => i_X1 h0) ?_
    refine E_aastore (pc := 95) (t := 3) (n := 10) (j := i) (v := n + (7 + 5 * i)) (ci := 1) (B_at (j := 3) hn rfl) (by decide) rfl (B_at (j := 7 + 5 * i) hn (c := .inr (1, [.int 0, .ref (n + (7 + 5 * i) + 1), .ref (n + (7 + 5 * i) + 2), .ref (n + (7 + 5 * i) + 3), .ref (n + (7 + 5 * i) + 4)])) ?_) rfl (by omega) (by decide) dX10_init_95 ?_
    · rw [List.getElem?_append_right (by omega), hlen, Nat.sub_self]; rfl
    · rw [B_set hn, CAr_up]
      have e : (wB n i 0 0 0 ++ blk1 (n + (7 + 5 * i))).set 3 (CAr n (i + 1)) = wB n (i + 1) 0 0 0 := by
        unfold wB
        rw [show lwC n 0 = [] from rfl, List.append_nil, List.append_nil]
        rfl
      rw [e]
      refine E_iinc (pc := 96) (L2 := [.ref n, .int (nI (i + 1))]) (v := nI (i + 1)) rfl (nI_add i 1) rfl rfl dX10_init_96 ?_
      refine E_goto (pc := 99) 77 (by decide) dX10_init_99 ?_
      exact ih (i + 1) (by omega)
theorem w_loop2 (hn : M.length = n) (kk : E G mX10_init (3, 60) 129 [.ref n, .int (nI 6)] [] (M ++ wB n 10 6 0 0) P) : ∀ d i, i + d = 6 → E G mX10_init (3, 60) 104 [.ref n, .int (nI i)] [] (M ++ wB n 10 i 0 0) P := by
  intro d
  induction d with
  | zero =>
    intro i hi
    have : i = 6 := hi
    subst this
    refine E_iload_n (pc := 104) rfl dX10_init_104 ?_
    refine E_bipush (pc := 105) (nI 6) (by decide) dX10_init_105 ?_
    exact E_icmp_ge (pc := 107) 129 dX10_init_107 (by decide) (fun _ => kk) (fun q => absurd (by decide) q)
  | succ d ih =>
    intro i hi
    have hlen : (wB n 10 i 0 0).length = 57 + 6 * i := by rw [wB_len]
    refine E_iload_n (pc := 104) rfl dX10_init_104 ?_
    refine E_bipush (pc := 105) (nI 6) (by decide) dX10_init_105 ?_
    refine E_icmp_ge (pc := 107) 129 dX10_init_107 (by decide) (fun q => absurd q (Int32.not_le.mpr ((nI_ltI (by omega) (by omega)).mpr (by omega)))) (fun _ => ?_)
    refine E_aload_n (pc := 110) rfl dX10_init_110 ?_
    refine B_getf (j := 0) (pc := 111) hn f10_39 rfl (by decide) rfl dX10_init_111 ?_
    refine E_iload_n (pc := 114) rfl dX10_init_114 ?_
    refine B_obj (l := 57 + 6 * i) (pc := 115) (ci := 3) (fc := (2, 40)) (fs := [.null, .int 0, .int 0, .int 0, .int 0, .int 0]) (blk := blk3 (n + (57 + 6 * i))) hn hlen l10_37 rfl (by decide +kernel) rfl dX10_init_115 dX10_init_118 dX10_init_119 s10_53_3 oX3_init (Nat.le_of_ble_eq_true rfl) rfl rfl (by decide) (fun M0 h0 => i_X3 h0) ?_
    refine E_aastore (pc := 122) (t := 4) (n := 6) (j := i) (v := n + (57 + 6 * i)) (ci := 3) (B_at (j := 4) hn rfl) (by decide) rfl (B_at (j := 57 + 6 * i) hn (c := .inr (3, [.ref (n + (57 + 6 * i) + 1), .int (nI 0), .int (nI 0), .int (nI 0), .int (nI 0), .int (nI 0)])) ?_) rfl (by omega) (by decide) dX10_init_122 ?_
    · rw [List.getElem?_append_right (by omega), hlen, Nat.sub_self]; rfl
    · rw [B_set hn, LAr_up]
      have e : (wB n 10 i 0 0 ++ blk3 (n + (57 + 6 * i))).set 4 (LAr n (i + 1)) = wB n 10 (i + 1) 0 0 := by
        unfold wB
        rw [show lwC n (i + 1) = lwC n i ++ blk3 (n + (57 + 6 * i)) from rfl, ← List.append_assoc]
        rfl
      rw [e]
      refine E_iinc (pc := 123) (L2 := [.ref n, .int (nI (i + 1))]) (v := nI (i + 1)) rfl (nI_add i 1) rfl rfl dX10_init_123 ?_
      refine E_goto (pc := 126) 104 (by decide) dX10_init_126 ?_
      exact ih (i + 1) (by omega)
end
