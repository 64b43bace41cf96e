section
/-! ===== a world is made: to its end ===== -/
variable {G : GP} {M : SMem} {P : Option Value → SMem → Prop} {n a N : Nat} {x : Int32} {g : Nat → Int32}
def gi (x : Int32) (g : Nat → Int32) (i : Nat) : Nat → Int32 := fun k => if k < i then x else g k
theorem gi_up {i : Nat} : upd (gi x g i) i x = gi x g (i + 1) := by
  funext k
  unfold upd gi
  by_cases z : k = i
  · rw [if_pos z, z, if_pos (by omega)]
  · rw [if_neg z]
    by_cases w : k < i
    · rw [if_pos w, if_pos (by omega)]
    · rw [if_neg w, if_neg (by omega)]
theorem fill_lp (hN : N < 2 ^ 31) {MF : SMem} (kk : P none MF) : ∀ d i (M : SMem), i + d = N → M[a]? = some (.inl (0, N, .inl (gi x g i))) → M.set a (.inl (0, N, .inl (gi x g N))) = MF → E G mJ7_fill_53178 (0, 0) 5 [.ref a, .int x, .int (nI i), .int (nI N)] [] M P := by
  intro d
  induction d with
  | zero =>
    intro i M hi hm hf
    have : i = N := hi
    subst this
    have e : M = MF := by
      rw [← hf]
      apply List.ext_getElem?
      intro j
      rw [List.getElem?_set]
      by_cases z : a = j
      · subst z
        rw [if_pos rfl, if_pos (List.getElem?_eq_some_iff.mp hm).1, hm]
      · rw [if_neg z]
    refine E_iload_n (pc := 5) rfl dJ7_fill_53178_5 ?_
    refine E_iload_n (pc := 6) rfl dJ7_fill_53178_6 ?_
    refine E_icmp_ge (pc := 7) 20 dJ7_fill_53178_7 (by decide) (fun _ => ?_) (fun q => absurd (Int32.le_refl _) q)
    exact E_return (pc := 20) rfl dJ7_fill_53178_20 (by rw [e]; exact kk)
  | succ d ih =>
    intro i M hi hm hf
    have hl := (List.getElem?_eq_some_iff.mp hm).1
    refine E_iload_n (pc := 5) rfl dJ7_fill_53178_5 ?_
    refine E_iload_n (pc := 6) rfl dJ7_fill_53178_6 ?_
    refine E_icmp_ge (pc := 7) 20 dJ7_fill_53178_7 (by decide) (fun q => absurd q (Int32.not_le.mpr ((nI_ltI (by omega) (by omega)).mpr (by omega)))) (fun _ => ?_)
    refine E_aload_n (pc := 10) rfl dJ7_fill_53178_10 ?_
    refine E_iload_n (pc := 11) rfl dJ7_fill_53178_11 ?_
    refine E_iload_n (pc := 12) rfl dJ7_fill_53178_12 ?_
    refine E_iastore (pc := 13) (j := i) hm rfl (by omega) hN dJ7_fill_53178_13 ?_
    rw [gi_up]
    refine E_iinc (pc := 14) (L2 := [.ref a, .int x, .int (nI (i + 1)), .int (nI N)]) (v := nI (i + 1)) rfl (nI_add i 1) rfl rfl dJ7_fill_53178_14 ?_
    refine E_goto (pc := 17) 5 (by decide) dJ7_fill_53178_17 ?_
    exact ih (i + 1) _ (by omega) (by rw [List.getElem?_set, if_pos rfl, if_pos hl]) (by rw [List.set_set]; exact hf)
theorem i_fill (hN : N < 2 ^ 31) (hm : M[a]? = some (.inl (0, N, .inl (gi x g 0)))) : E G mJ7_fill_53178 (0, 0) 0 [.ref a, .int x, D0, D0] [] M (fun rv M1 => rv = none ∧ M1 = M.set a (.inl (0, N, .inl (gi x g N)))) := by
  refine E_iconst (pc := 0) 0 rfl dJ7_fill_53178_0 ?_
  refine E_istore_n (pc := 1) (L2 := [_, _, _, _]) rfl rfl dJ7_fill_53178_1 ?_
  refine E_aload_n (pc := 2) rfl dJ7_fill_53178_2 ?_
  refine E_alen (pc := 3) (v := nI N) hm (by decide) rfl dJ7_fill_53178_3 ?_
  refine E_istore_n (pc := 4) (L2 := [_, _, _, _]) rfl rfl dJ7_fill_53178_4 ?_
  exact fill_lp hN ⟨rfl, rfl⟩ N 0 M (by omega) hm rfl
def blk10 (n : Nat) : SMem := wB n 10 6 (nI 1) 6
theorem blk10_len : (blk10 n).length = 93 := by unfold blk10; rw [wB_len]
theorem i_X10 (hn : M.length = n) : E G mX10_init (3, 60) 0 [.ref n, D0] [] (M ++ [.inr (10, [.int 0, .int 0, .int 0, .int 0, .null, .null, .null, .null, .null, .null])]) (MK0 M (blk10 n)) := by
  refine E_aload_n (pc := 0) rfl dX10_init_0 ?_
  refine E_objInit (pc := 1) (by decide +kernel) (by decide) (Nat.le_of_ble_eq_true rfl) dX10_init_1 ?_
  refine E_aload_n (pc := 4) rfl dX10_init_4 ?_
  refine E_iconst (pc := 5) 0 rfl dX10_init_5 ?_
  refine B_putf (j := 0) (pc := 6) hn f10_9 rfl (by decide) rfl (by decide +kernel) rfl rfl dX10_init_6 ?_
  change E G _ _ _ _ _ (M ++ (.inr (10, [.int (nI 0), .int 0, .int 0, .int 0, .null, .null, .null, .null, .null, .null]) :: ([]))) _
  refine E_aload_n (pc := 9) rfl dX10_init_9 ?_
  refine E_iconst (pc := 10) 0 rfl dX10_init_10 ?_
  refine B_putf (j := 0) (pc := 11) hn f10_15 rfl (by decide) rfl (by decide +kernel) rfl rfl dX10_init_11 ?_
  change E G _ _ _ _ _ (M ++ (.inr (10, [.int (nI 0), .int (nI 0), .int 0, .int 0, .null, .null, .null, .null, .null, .null]) :: ([]))) _
  refine E_aload_n (pc := 14) rfl dX10_init_14 ?_
  refine E_iconst (pc := 15) 0 rfl dX10_init_15 ?_
  refine B_putf (j := 0) (pc := 16) hn f10_18 rfl (by decide) rfl (by decide +kernel) rfl rfl dX10_init_16 ?_
  change E G _ _ _ _ _ (M ++ (.inr (10, [.int (nI 0), .int (nI 0), .int (nI 0), .int 0, .null, .null, .null, .null, .null, .null]) :: ([]))) _
  refine E_aload_n (pc := 19) rfl dX10_init_19 ?_
  refine E_iconst (pc := 20) 0 rfl dX10_init_20 ?_
  refine B_putf (j := 0) (pc := 21) hn f10_21 rfl (by decide) rfl (by decide +kernel) rfl rfl dX10_init_21 ?_
  change E G _ _ _ _ _ (M ++ (.inr (10, [.int (nI 0), .int (nI 0), .int (nI 0), .int (nI 0), .null, .null, .null, .null, .null, .null]) :: ([]))) _
  refine E_aload_n (pc := 24) rfl dX10_init_24 ?_
  refine E_bipush (pc := 25) (nI 10) (by decide) dX10_init_25 ?_
  refine B_newI (l := 1) (N := 10) (pc := 27) hn rfl rfl (by decide) dX10_init_27 ?_
  refine B_putF (j := 0) (pc := 29) hn f10_24 rfl (by decide) rfl (by decide +kernel) rfl (by decide +kernel) rfl rfl dX10_init_29 ?_
  change E G _ _ _ _ _ (M ++ (.inr (10, [.int (nI 0), .int (nI 0), .int (nI 0), .int (nI 0), .ref (n + 1), .null, .null, .null, .null, .null]) :: ([] ++ [.inl (0, 10, .inl (fun _ => 0))]))) _
  refine E_aload_n (pc := 32) rfl dX10_init_32 ?_
  refine E_bipush (pc := 33) (nI 10) (by decide) dX10_init_33 ?_
  refine B_newI (l := 2) (N := 10) (pc := 35) hn rfl rfl (by decide) dX10_init_35 ?_
  refine B_putF (j := 0) (pc := 37) hn f10_28 rfl (by decide) rfl (by decide +kernel) rfl (by decide +kernel) rfl rfl dX10_init_37 ?_
  change E G _ _ _ _ _ (M ++ (.inr (10, [.int (nI 0), .int (nI 0), .int (nI 0), .int (nI 0), .ref (n + 1), .ref (n + 2), .null, .null, .null, .null]) :: ([] ++ [.inl (0, 10, .inl (fun _ => 0))] ++ [.inl (0, 10, .inl (fun _ => 0))]))) _
  refine E_aload_n (pc := 40) rfl dX10_init_40 ?_
  refine E_bipush (pc := 41) (nI 10) (by decide) dX10_init_41 ?_
  refine B_newA (l := 3) (t := 3) (N := 10) (pc := 43) hn rfl l10_31 (by decide) rfl (by decide +kernel) rfl (by decide) dX10_init_43 ?_
  refine B_putF (j := 0) (pc := 46) hn f10_33 rfl (by decide) rfl (by decide +kernel) rfl (by decide +kernel) rfl rfl dX10_init_46 ?_
  change E G _ _ _ _ _ (M ++ (.inr (10, [.int (nI 0), .int (nI 0), .int (nI 0), .int (nI 0), .ref (n + 1), .ref (n + 2), .ref (n + 3), .null, .null, .null]) :: ([] ++ [.inl (0, 10, .inl (fun _ => 0))] ++ [.inl (0, 10, .inl (fun _ => 0))] ++ [.inl (3, 10, .inr (.inr (.inr (.inr (fun _ => none)))))]))) _
  refine E_aload_n (pc := 49) rfl dX10_init_49 ?_
  refine E_bipush (pc := 50) (nI 6) (by decide) dX10_init_50 ?_
  refine B_newA (l := 4) (t := 4) (N := 6) (pc := 52) hn rfl l10_37 (by decide) rfl (by decide +kernel) rfl (by decide) dX10_init_52 ?_
  refine B_putF (j := 0) (pc := 55) hn f10_39 rfl (by decide) rfl (by decide +kernel) rfl (by decide +kernel) rfl rfl dX10_init_55 ?_
  change E G _ _ _ _ _ (M ++ (.inr (10, [.int (nI 0), .int (nI 0), .int (nI 0), .int (nI 0), .ref (n + 1), .ref (n + 2), .ref (n + 3), .ref (n + 4), .null, .null]) :: ([] ++ [.inl (0, 10, .inl (fun _ => 0))] ++ [.inl (0, 10, .inl (fun _ => 0))] ++ [.inl (3, 10, .inr (.inr (.inr (.inr (fun _ => none)))))] ++ [.inl (4, 6, .inr (.inr (.inr (.inr (fun _ => none)))))]))) _
  refine E_aload_n (pc := 58) rfl dX10_init_58 ?_
  refine E_bipush (pc := 59) (nI 16) (by decide) dX10_init_59 ?_
  refine B_newA (l := 5) (t := 5) (N := 16) (pc := 61) hn rfl l10_43 (by decide) rfl (by decide +kernel) rfl (by decide) dX10_init_61 ?_
  refine B_putF (j := 0) (pc := 64) hn f10_45 rfl (by decide) rfl (by decide +kernel) rfl (by decide +kernel) rfl rfl dX10_init_64 ?_
  change E G _ _ _ _ _ (M ++ (.inr (10, [.int (nI 0), .int (nI 0), .int (nI 0), .int (nI 0), .ref (n + 1), .ref (n + 2), .ref (n + 3), .ref (n + 4), .ref (n + 5), .null]) :: ([] ++ [.inl (0, 10, .inl (fun _ => 0))] ++ [.inl (0, 10, .inl (fun _ => 0))] ++ [.inl (3, 10, .inr (.inr (.inr (.inr (fun _ => none)))))] ++ [.inl (4, 6, .inr (.inr (.inr (.inr (fun _ => none)))))] ++ [.inl (5, 16, .inr (.inr (.inr (.inr (fun _ => none)))))]))) _
  refine E_aload_n (pc := 67) rfl dX10_init_67 ?_
  refine E_bipush (pc := 68) (nI 6) (by decide) dX10_init_68 ?_
  refine B_newI (l := 6) (N := 6) (pc := 70) hn rfl rfl (by decide) dX10_init_70 ?_
  refine B_putF (j := 0) (pc := 72) hn f10_49 rfl (by decide) rfl (by decide +kernel) rfl (by decide +kernel) rfl rfl dX10_init_72 ?_
  change E G _ _ _ _ _ (M ++ (.inr (10, [.int (nI 0), .int (nI 0), .int (nI 0), .int (nI 0), .ref (n + 1), .ref (n + 2), .ref (n + 3), .ref (n + 4), .ref (n + 5), .ref (n + 6)]) :: ([] ++ [.inl (0, 10, .inl (fun _ => 0))] ++ [.inl (0, 10, .inl (fun _ => 0))] ++ [.inl (3, 10, .inr (.inr (.inr (.inr (fun _ => none)))))] ++ [.inl (4, 6, .inr (.inr (.inr (.inr (fun _ => none)))))] ++ [.inl (5, 16, .inr (.inr (.inr (.inr (fun _ => none)))))] ++ [.inl (0, 6, .inl (fun _ => 0))]))) _
  have e : (M ++ (.inr (10, [.int (nI 0), .int (nI 0), .int (nI 0), .int (nI 0), .ref (n + 1), .ref (n + 2), .ref (n + 3), .ref (n + 4), .ref (n + 5), .ref (n + 6)]) :: ([] ++ [.inl (0, 10, .inl (fun _ => 0))] ++ [.inl (0, 10, .inl (fun _ => 0))] ++ [.inl (3, 10, .inr (.inr (.inr (.inr (fun _ => none)))))] ++ [.inl (4, 6, .inr (.inr (.inr (.inr (fun _ => none)))))] ++ [.inl (5, 16, .inr (.inr (.inr (.inr (fun _ => none)))))] ++ [.inl (0, 6, .inl (fun _ => 0))])) : SMem) = M ++ wB n 0 0 0 0 := rfl
  rw [e]
  refine E_iconst (pc := 75) 0 rfl dX10_init_75 ?_
  refine E_istore_n (pc := 76) (L2 := [.ref n, .int (nI 0)]) rfl rfl dX10_init_76 ?_
  refine w_loop1 hn ?_ 10 0 rfl
  refine E_iconst (pc := 102) 0 rfl dX10_init_102 ?_
  refine E_istore_n (pc := 103) (L2 := [.ref n, .int (nI 0)]) rfl rfl dX10_init_103 ?_
  refine w_loop2 hn ?_ 6 0 rfl
  refine E_aload_n (pc := 129) rfl dX10_init_129 ?_
  refine B_getf (j := 0) (pc := 130) hn f10_49 rfl (by decide) rfl dX10_init_130 ?_
  refine E_iconst (pc := 133) 1 rfl dX10_init_133 ?_
  refine E_callS (pc := 134) (As := [.ref (n + 6), .int (nI 1)]) (rest := []) (fc := (0, 0)) s10_54 oJ7_fill_53178 dX10_init_134 rfl rfl (Nat.le_of_ble_eq_true rfl) rfl rfl (by decide) (i_fill (g := fun _ => 0) (N := 6) (by decide) (B_at (j := 6) hn rfl)) (fun rv M1 hq => ?_)
  obtain ⟨rfl, rfl⟩ := hq
  rw [B_set hn]
  exact E_return (pc := 137) rfl dX10_init_137 ⟨rfl, rfl⟩
end
