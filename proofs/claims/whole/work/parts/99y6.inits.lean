section
/-! ===== the small constructors ===== -/
variable {G : GP} {md : MD} {f : Nat × Nat} {pc idx : Nat} {L st : List Value} {M B : SMem} {P : Option Value → SMem → Prop} {n j l k ci : Nat}
theorem B_get1 {ref : String} {cs : List Nat} {fs : List Value} {v : Value} {C : SMem} (hn : M.length = n) (hf : FOK md.1 idx k ref cs) (hm : B[j]? = some (.inr (ci, fs))) (hc : ci ∈ cs) (hv : fs[k]? = some v) (hd : decode md.2.2.1 pc = .ok (.getfield idx, 3)) (k' : E G md f (pc + 3) L (v :: st) ((M ++ B) ++ C) P) : E G md f pc L (.ref (n + j) :: st) ((M ++ B) ++ C) P := by
  refine E_getf hf (a := n + j) ?_ hc hv hd k'
  have h := B_at hn hm
  rw [List.getElem?_append_left (List.getElem?_eq_some_iff.mp h).1]
  exact h
theorem B_call {mdc : MD} {fc : Nat × Nat} {nn : Nat} {fs : List Value} {blk : SMem} {L0 As rest : List Value} (hn : M.length = n) (hlB : B.length = l) (hS : COKV md.1 (.invokespecial idx) ci nn mdc) (hmd : mdok mdc = true) (hd : decode md.2.2.1 pc = .ok (.invokespecial idx, 3)) (hst : st = As.reverse ++ .ref (n + l) :: rest) (hnn : As.length = nn) (hw : (rest.map fun v => v.category).sum ≤ 8) (hL0 : entL (.ref (n + l) :: As) mdc.2.2.2.1 = L0) (hlen : Nat.ble (entA (.ref (n + l) :: As)).length mdc.2.2.2.1 = true) (hf : fc.1 + 1 ≤ f.1 ∧ 8 + (mdc.2.2.2.1 + 11) + fc.2 ≤ f.2) (hc : ∀ M0 : SMem, M0.length = n + l → E G mdc fc 0 L0 [] (M0 ++ [.inr (ci, fs)]) (MK0 M0 blk)) (k' : E G md f (pc + 3) L rest (M ++ (B ++ blk)) P) : E G md f pc L st ((M ++ B) ++ [.inr (ci, fs)]) P := by
  have hlen2 := B_len hn hlB
  refine E_callV (a := n + l) (As := As) (rest := rest) (fs := fs) (ci := ci) hS hmd hd ?_ hst hnn hw hL0 hlen hf (hc _ hlen2) (fun rv M1 hq => ?_)
  · rw [List.getElem?_append_right (by omega), hlen2, Nat.sub_self]; rfl
  · obtain ⟨rfl, rfl⟩ := hq
    rw [List.append_assoc]
    exact k'
def blk7 (n : Nat) : SMem := .inr (7, [.int (-1), .int (nI 0), .ref (n + 1)]) :: ([] ++ [.inl (1, 60, .inr (.inl (fun _ => 0)))])
theorem i_X7 (hn : M.length = n) : E G mX7_init (1, 20) 0 [.ref n] [] (M ++ [.inr (7, [.int 0, .int 0, .null])]) (MK0 M (blk7 n)) := by
  refine E_aload_n (pc := 0) rfl dX7_init_0 ?_
  refine E_objInit (pc := 1) (by decide +kernel) (by decide) (Nat.le_of_ble_eq_true rfl) dX7_init_1 ?_
  refine E_aload_n (pc := 4) rfl dX7_init_4 ?_
  refine E_im1 (pc := 5) dX7_init_5 ?_
  refine B_putf (j := 0) (pc := 6) hn f7_9 rfl (by decide) rfl (by decide +kernel) rfl rfl dX7_init_6 ?_
  change E G _ _ _ _ _ (M ++ (.inr (7, [.int (-1), .int 0, .null]) :: ([]))) _
  refine E_aload_n (pc := 9) rfl dX7_init_9 ?_
  refine E_iconst (pc := 10) 0 rfl dX7_init_10 ?_
  refine B_putf (j := 0) (pc := 11) hn f7_15 rfl (by decide) rfl (by decide +kernel) rfl rfl dX7_init_11 ?_
  change E G _ _ _ _ _ (M ++ (.inr (7, [.int (-1), .int (nI 0), .null]) :: ([]))) _
  refine E_aload_n (pc := 14) rfl dX7_init_14 ?_
  refine E_bipush (pc := 15) (nI 60) (by decide) dX7_init_15 ?_
  refine B_newL (l := 1) (N := 60) (pc := 17) hn rfl rfl (by decide) dX7_init_17 ?_
  refine B_putF (j := 0) (pc := 19) hn f7_18 rfl (by decide) rfl (by decide +kernel) rfl (by decide +kernel) rfl rfl dX7_init_19 ?_
  change E G _ _ _ _ _ (M ++ (.inr (7, [.int (-1), .int (nI 0), .ref (n + 1)]) :: ([] ++ [.inl (1, 60, .inr (.inl (fun _ => 0)))]))) _
  exact E_return (pc := 22) rfl dX7_init_22 ⟨rfl, rfl⟩
def blk3 (n : Nat) : SMem := .inr (3, [.ref (n + 1), .int (nI 0), .int (nI 0), .int (nI 0), .int (nI 0), .int (nI 0)]) :: ([] ++ blk1 (n + 1))
theorem i_X3 (hn : M.length = n) : E G mX3_init (2, 40) 0 [.ref n] [] (M ++ [.inr (3, [.null, .int 0, .int 0, .int 0, .int 0, .int 0])]) (MK0 M (blk3 n)) := by
  refine E_aload_n (pc := 0) rfl dX3_init_0 ?_
  refine E_objInit (pc := 1) (by decide +kernel) (by decide) (Nat.le_of_ble_eq_true rfl) dX3_init_1 ?_
  refine E_aload_n (pc := 4) rfl dX3_init_4 ?_
  refine B_obj (l := 1) (pc := 5) (ci := 1) (fc := (1, 20)) (fs := [.int 0, .null, .null, .null, .null]) (blk := blk1 (n + 1)) hn rfl l3_7 rfl (by decide +kernel) rfl dX3_init_5 dX3_init_8 dX3_init_9 s3_9_1 oX1_init (Nat.le_of_ble_eq_true rfl) rfl rfl (by decide) (fun M0 h0 => i_X1 h0) ?_
  refine B_putF (j := 0) (pc := 12) hn f3_10 rfl (by decide) rfl (by decide +kernel) rfl (by decide +kernel) rfl rfl dX3_init_12 ?_
  change E G _ _ _ _ _ (M ++ (.inr (3, [.ref (n + 1), .int 0, .int 0, .int 0, .int 0, .int 0]) :: ([] ++ blk1 (n + 1)))) _
  refine E_aload_n (pc := 15) rfl dX3_init_15 ?_
  refine E_iconst (pc := 16) 0 rfl dX3_init_16 ?_
  refine B_putf (j := 0) (pc := 17) hn f3_16 rfl (by decide) rfl (by decide +kernel) rfl rfl dX3_init_17 ?_
  change E G _ _ _ _ _ (M ++ (.inr (3, [.ref (n + 1), .int (nI 0), .int 0, .int 0, .int 0, .int 0]) :: ([] ++ blk1 (n + 1)))) _
  refine E_aload_n (pc := 20) rfl dX3_init_20 ?_
  refine E_iconst (pc := 21) 0 rfl dX3_init_21 ?_
  refine B_putf (j := 0) (pc := 22) hn f3_20 rfl (by decide) rfl (by decide +kernel) rfl rfl dX3_init_22 ?_
  change E G _ _ _ _ _ (M ++ (.inr (3, [.ref (n + 1), .int (nI 0), .int (nI 0), .int 0, .int 0, .int 0]) :: ([] ++ blk1 (n + 1)))) _
  refine E_aload_n (pc := 25) rfl dX3_init_25 ?_
  refine E_iconst (pc := 26) 0 rfl dX3_init_26 ?_
  refine B_putf (j := 0) (pc := 27) hn f3_23 rfl (by decide) rfl (by decide +kernel) rfl rfl dX3_init_27 ?_
  change E G _ _ _ _ _ (M ++ (.inr (3, [.ref (n + 1), .int (nI 0), .int (nI 0), .int (nI 0), .int 0, .int 0]) :: ([] ++ blk1 (n + 1)))) _
  refine E_aload_n (pc := 30) rfl dX3_init_30 ?_
  refine E_iconst (pc := 31) 0 rfl dX3_init_31 ?_
  refine B_putf (j := 0) (pc := 32) hn f3_27 rfl (by decide) rfl (by decide +kernel) rfl rfl dX3_init_32 ?_
  change E G _ _ _ _ _ (M ++ (.inr (3, [.ref (n + 1), .int (nI 0), .int (nI 0), .int (nI 0), .int (nI 0), .int 0]) :: ([] ++ blk1 (n + 1)))) _
  refine E_aload_n (pc := 35) rfl dX3_init_35 ?_
  refine E_iconst (pc := 36) 0 rfl dX3_init_36 ?_
  refine B_putf (j := 0) (pc := 37) hn f3_30 rfl (by decide) rfl (by decide +kernel) rfl rfl dX3_init_37 ?_
  change E G _ _ _ _ _ (M ++ (.inr (3, [.ref (n + 1), .int (nI 0), .int (nI 0), .int (nI 0), .int (nI 0), .int (nI 0)]) :: ([] ++ blk1 (n + 1)))) _
  exact E_return (pc := 40) rfl dX3_init_40 ⟨rfl, rfl⟩
def blk0 (n a1 : Nat) : SMem := .inr (0, [.ref a1, .ref (n + 1), .ref (n + 2), .ref (n + 3), .ref (n + 4), .ref (n + 5), .ref (n + 6), .ref (n + 7), .int (nI 0)]) :: ([] ++ [.inl (0, 12, .inl (fun _ => 0))] ++ [.inl (0, 12, .inl (fun _ => 0))] ++ [.inl (0, 12, .inl (fun _ => 0))] ++ [.inl (0, 12, .inl (fun _ => 0))] ++ [.inl (0, 12, .inl (fun _ => 0))] ++ [.inl (0, 84, .inl (fun _ => 0))] ++ [.inl (0, 12, .inl (fun _ => 0))])
theorem i_X0 {a1 : Nat} (hn : M.length = n) : E G mX0_init (1, 20) 0 [.ref n, .ref a1] [] (M ++ [.inr (0, [.null, .null, .null, .null, .null, .null, .null, .null, .int 0])]) (MK0 M (blk0 n a1)) := by
  refine E_aload_n (pc := 0) rfl dX0_init_0 ?_
  refine E_objInit (pc := 1) (by decide +kernel) (by decide) (Nat.le_of_ble_eq_true rfl) dX0_init_1 ?_
  refine E_aload_n (pc := 4) rfl dX0_init_4 ?_
  refine E_bipush (pc := 5) (nI 12) (by decide) dX0_init_5 ?_
  refine B_newI (l := 1) (N := 12) (pc := 7) hn rfl rfl (by decide) dX0_init_7 ?_
  refine B_putF (j := 0) (pc := 9) hn f0_9 rfl (by decide) rfl (by decide +kernel) rfl (by decide +kernel) rfl rfl dX0_init_9 ?_
  change E G _ _ _ _ _ (M ++ (.inr (0, [.null, .ref (n + 1), .null, .null, .null, .null, .null, .null, .int 0]) :: ([] ++ [.inl (0, 12, .inl (fun _ => 0))]))) _
  refine E_aload_n (pc := 12) rfl dX0_init_12 ?_
  refine E_bipush (pc := 13) (nI 12) (by decide) dX0_init_13 ?_
  refine B_newI (l := 2) (N := 12) (pc := 15) hn rfl rfl (by decide) dX0_init_15 ?_
  refine B_putF (j := 0) (pc := 17) hn f0_15 rfl (by decide) rfl (by decide +kernel) rfl (by decide +kernel) rfl rfl dX0_init_17 ?_
  change E G _ _ _ _ _ (M ++ (.inr (0, [.null, .ref (n + 1), .ref (n + 2), .null, .null, .null, .null, .null, .int 0]) :: ([] ++ [.inl (0, 12, .inl (fun _ => 0))] ++ [.inl (0, 12, .inl (fun _ => 0))]))) _
  refine E_aload_n (pc := 20) rfl dX0_init_20 ?_
  refine E_bipush (pc := 21) (nI 12) (by decide) dX0_init_21 ?_
  refine B_newI (l := 3) (N := 12) (pc := 23) hn rfl rfl (by decide) dX0_init_23 ?_
  refine B_putF (j := 0) (pc := 25) hn f0_18 rfl (by decide) rfl (by decide +kernel) rfl (by decide +kernel) rfl rfl dX0_init_25 ?_
  change E G _ _ _ _ _ (M ++ (.inr (0, [.null, .ref (n + 1), .ref (n + 2), .ref (n + 3), .null, .null, .null, .null, .int 0]) :: ([] ++ [.inl (0, 12, .inl (fun _ => 0))] ++ [.inl (0, 12, .inl (fun _ => 0))] ++ [.inl (0, 12, .inl (fun _ => 0))]))) _
  refine E_aload_n (pc := 28) rfl dX0_init_28 ?_
  refine E_bipush (pc := 29) (nI 12) (by decide) dX0_init_29 ?_
  refine B_newI (l := 4) (N := 12) (pc := 31) hn rfl rfl (by decide) dX0_init_31 ?_
  refine B_putF (j := 0) (pc := 33) hn f0_21 rfl (by decide) rfl (by decide +kernel) rfl (by decide +kernel) rfl rfl dX0_init_33 ?_
  change E G _ _ _ _ _ (M ++ (.inr (0, [.null, .ref (n + 1), .ref (n + 2), .ref (n + 3), .ref (n + 4), .null, .null, .null, .int 0]) :: ([] ++ [.inl (0, 12, .inl (fun _ => 0))] ++ [.inl (0, 12, .inl (fun _ => 0))] ++ [.inl (0, 12, .inl (fun _ => 0))] ++ [.inl (0, 12, .inl (fun _ => 0))]))) _
  refine E_aload_n (pc := 36) rfl dX0_init_36 ?_
  refine E_bipush (pc := 37) (nI 12) (by decide) dX0_init_37 ?_
  refine B_newI (l := 5) (N := 12) (pc := 39) hn rfl rfl (by decide) dX0_init_39 ?_
  refine B_putF (j := 0) (pc := 41) hn f0_24 rfl (by decide) rfl (by decide +kernel) rfl (by decide +kernel) rfl rfl dX0_init_41 ?_
  change E G _ _ _ _ _ (M ++ (.inr (0, [.null, .ref (n + 1), .ref (n + 2), .ref (n + 3), .ref (n + 4), .ref (n + 5), .null, .null, .int 0]) :: ([] ++ [.inl (0, 12, .inl (fun _ => 0))] ++ [.inl (0, 12, .inl (fun _ => 0))] ++ [.inl (0, 12, .inl (fun _ => 0))] ++ [.inl (0, 12, .inl (fun _ => 0))] ++ [.inl (0, 12, .inl (fun _ => 0))]))) _
  refine E_aload_n (pc := 44) rfl dX0_init_44 ?_
  refine E_bipush (pc := 45) (nI 84) (by decide) dX0_init_45 ?_
  refine B_newI (l := 6) (N := 84) (pc := 47) hn rfl rfl (by decide) dX0_init_47 ?_
  refine B_putF (j := 0) (pc := 49) hn f0_27 rfl (by decide) rfl (by decide +kernel) rfl (by decide +kernel) rfl rfl dX0_init_49 ?_
  change E G _ _ _ _ _ (M ++ (.inr (0, [.null, .ref (n + 1), .ref (n + 2), .ref (n + 3), .ref (n + 4), .ref (n + 5), .ref (n + 6), .null, .int 0]) :: ([] ++ [.inl (0, 12, .inl (fun _ => 0))] ++ [.inl (0, 12, .inl (fun _ => 0))] ++ [.inl (0, 12, .inl (fun _ => 0))] ++ [.inl (0, 12, .inl (fun _ => 0))] ++ [.inl (0, 12, .inl (fun _ => 0))] ++ [.inl (0, 84, .inl (fun _ => 0))]))) _
  refine E_aload_n (pc := 52) rfl dX0_init_52 ?_
  refine E_bipush (pc := 53) (nI 12) (by decide) dX0_init_53 ?_
  refine B_newI (l := 7) (N := 12) (pc := 55) hn rfl rfl (by decide) dX0_init_55 ?_
  refine B_putF (j := 0) (pc := 57) hn f0_30 rfl (by decide) rfl (by decide +kernel) rfl (by decide +kernel) rfl rfl dX0_init_57 ?_
  change E G _ _ _ _ _ (M ++ (.inr (0, [.null, .ref (n + 1), .ref (n + 2), .ref (n + 3), .ref (n + 4), .ref (n + 5), .ref (n + 6), .ref (n + 7), .int 0]) :: ([] ++ [.inl (0, 12, .inl (fun _ => 0))] ++ [.inl (0, 12, .inl (fun _ => 0))] ++ [.inl (0, 12, .inl (fun _ => 0))] ++ [.inl (0, 12, .inl (fun _ => 0))] ++ [.inl (0, 12, .inl (fun _ => 0))] ++ [.inl (0, 84, .inl (fun _ => 0))] ++ [.inl (0, 12, .inl (fun _ => 0))]))) _
  refine E_aload_n (pc := 60) rfl dX0_init_60 ?_
  refine E_iconst (pc := 61) 0 rfl dX0_init_61 ?_
  refine B_putf (j := 0) (pc := 62) hn f0_33 rfl (by decide) rfl (by decide +kernel) rfl rfl dX0_init_62 ?_
  change E G _ _ _ _ _ (M ++ (.inr (0, [.null, .ref (n + 1), .ref (n + 2), .ref (n + 3), .ref (n + 4), .ref (n + 5), .ref (n + 6), .ref (n + 7), .int (nI 0)]) :: ([] ++ [.inl (0, 12, .inl (fun _ => 0))] ++ [.inl (0, 12, .inl (fun _ => 0))] ++ [.inl (0, 12, .inl (fun _ => 0))] ++ [.inl (0, 12, .inl (fun _ => 0))] ++ [.inl (0, 12, .inl (fun _ => 0))] ++ [.inl (0, 84, .inl (fun _ => 0))] ++ [.inl (0, 12, .inl (fun _ => 0))]))) _
  refine E_aload_n (pc := 65) rfl dX0_init_65 ?_
  refine E_aload_n (pc := 66) rfl dX0_init_66 ?_
  refine B_putF (j := 0) (pc := 67) hn f0_37 rfl (by decide) rfl (by decide +kernel) rfl (by decide +kernel) rfl rfl dX0_init_67 ?_
  change E G _ _ _ _ _ (M ++ (.inr (0, [.ref a1, .ref (n + 1), .ref (n + 2), .ref (n + 3), .ref (n + 4), .ref (n + 5), .ref (n + 6), .ref (n + 7), .int (nI 0)]) :: ([] ++ [.inl (0, 12, .inl (fun _ => 0))] ++ [.inl (0, 12, .inl (fun _ => 0))] ++ [.inl (0, 12, .inl (fun _ => 0))] ++ [.inl (0, 12, .inl (fun _ => 0))] ++ [.inl (0, 12, .inl (fun _ => 0))] ++ [.inl (0, 84, .inl (fun _ => 0))] ++ [.inl (0, 12, .inl (fun _ => 0))]))) _
  exact E_return (pc := 70) rfl dX0_init_70 ⟨rfl, rfl⟩
def blk5 (n a1 : Nat) : SMem := .inr (5, [.ref a1, .ref (n + 1), .int (nI 0), .int (nI 1), .int (nI 0), .int (nI 0), .int (-1)]) :: ([] ++ blk3 (n + 1))
theorem i_X5 {a1 : Nat} (hn : M.length = n) : E G mX5_init (3, 60) 0 [.ref n, .ref a1] [] (M ++ [.inr (5, [.null, .null, .int 0, .int 0, .int 0, .int 0, .int 0])]) (MK0 M (blk5 n a1)) := by
  refine E_aload_n (pc := 0) rfl dX5_init_0 ?_
  refine E_objInit (pc := 1) (by decide +kernel) (by decide) (Nat.le_of_ble_eq_true rfl) dX5_init_1 ?_
  refine E_aload_n (pc := 4) rfl dX5_init_4 ?_
  refine B_obj (l := 1) (pc := 5) (ci := 3) (fc := (2, 40)) (fs := [.null, .int 0, .int 0, .int 0, .int 0, .int 0]) (blk := blk3 (n + 1)) hn rfl l5_9 rfl (by decide +kernel) rfl dX5_init_5 dX5_init_8 dX5_init_9 s5_11_3 oX3_init (Nat.le_of_ble_eq_true rfl) rfl rfl (by decide) (fun M0 h0 => i_X3 h0) ?_
  refine B_putF (j := 0) (pc := 12) hn f5_12 rfl (by decide) rfl (by decide +kernel) rfl (by decide +kernel) rfl rfl dX5_init_12 ?_
  change E G _ _ _ _ _ (M ++ (.inr (5, [.null, .ref (n + 1), .int 0, .int 0, .int 0, .int 0, .int 0]) :: ([] ++ blk3 (n + 1)))) _
  refine E_aload_n (pc := 15) rfl dX5_init_15 ?_
  refine E_iconst (pc := 16) 0 rfl dX5_init_16 ?_
  refine B_putf (j := 0) (pc := 17) hn f5_18 rfl (by decide) rfl (by decide +kernel) rfl rfl dX5_init_17 ?_
  change E G _ _ _ _ _ (M ++ (.inr (5, [.null, .ref (n + 1), .int (nI 0), .int 0, .int 0, .int 0, .int 0]) :: ([] ++ blk3 (n + 1)))) _
  refine E_aload_n (pc := 20) rfl dX5_init_20 ?_
  refine E_iconst (pc := 21) 1 rfl dX5_init_21 ?_
  refine B_putf (j := 0) (pc := 22) hn f5_22 rfl (by decide) rfl (by decide +kernel) rfl rfl dX5_init_22 ?_
  change E G _ _ _ _ _ (M ++ (.inr (5, [.null, .ref (n + 1), .int (nI 0), .int (nI 1), .int 0, .int 0, .int 0]) :: ([] ++ blk3 (n + 1)))) _
  refine E_aload_n (pc := 25) rfl dX5_init_25 ?_
  refine E_iconst (pc := 26) 0 rfl dX5_init_26 ?_
  refine B_putf (j := 0) (pc := 27) hn f5_25 rfl (by decide) rfl (by decide +kernel) rfl rfl dX5_init_27 ?_
  change E G _ _ _ _ _ (M ++ (.inr (5, [.null, .ref (n + 1), .int (nI 0), .int (nI 1), .int (nI 0), .int 0, .int 0]) :: ([] ++ blk3 (n + 1)))) _
  refine E_aload_n (pc := 30) rfl dX5_init_30 ?_
  refine E_iconst (pc := 31) 0 rfl dX5_init_31 ?_
  refine B_putf (j := 0) (pc := 32) hn f5_28 rfl (by decide) rfl (by decide +kernel) rfl rfl dX5_init_32 ?_
  change E G _ _ _ _ _ (M ++ (.inr (5, [.null, .ref (n + 1), .int (nI 0), .int (nI 1), .int (nI 0), .int (nI 0), .int 0]) :: ([] ++ blk3 (n + 1)))) _
  refine E_aload_n (pc := 35) rfl dX5_init_35 ?_
  refine E_im1 (pc := 36) dX5_init_36 ?_
  refine B_putf (j := 0) (pc := 37) hn f5_32 rfl (by decide) rfl (by decide +kernel) rfl rfl dX5_init_37 ?_
  change E G _ _ _ _ _ (M ++ (.inr (5, [.null, .ref (n + 1), .int (nI 0), .int (nI 1), .int (nI 0), .int (nI 0), .int (-1)]) :: ([] ++ blk3 (n + 1)))) _
  refine E_aload_n (pc := 40) rfl dX5_init_40 ?_
  refine E_aload_n (pc := 41) rfl dX5_init_41 ?_
  refine B_putF (j := 0) (pc := 42) hn f5_35 rfl (by decide) rfl (by decide +kernel) rfl (by decide +kernel) rfl rfl dX5_init_42 ?_
  change E G _ _ _ _ _ (M ++ (.inr (5, [.ref a1, .ref (n + 1), .int (nI 0), .int (nI 1), .int (nI 0), .int (nI 0), .int (-1)]) :: ([] ++ blk3 (n + 1)))) _
  exact E_return (pc := 45) rfl dX5_init_45 ⟨rfl, rfl⟩
def blk2 (n a1 a2 a3 : Nat) : SMem := .inr (2, [.ref a1, .ref a2, .ref a3, .ref (n + 8), .ref (n + 1), .ref (n + 2), .ref (n + 3), .int (nI 0), .int (nI 1), .int (nI 1), .int (nI 1), .int (nI 0), .int (-1), .long 0, .ref (n + 4), .ref (n + 5), .ref (n + 6), .ref (n + 7)]) :: ([] ++ [.inl (0, 13312, .inl (fun _ => 0))] ++ [.inl (1, 2048, .inr (.inl (fun _ => 0)))] ++ [.inl (0, 1024, .inl (fun _ => 0))] ++ [.inl (0, 12, .inl (fun _ => 0))] ++ [.inl (0, 12, .inl (fun _ => 0))] ++ [.inl (0, 12, .inl (fun _ => 0))] ++ [.inl (0, 12, .inl (fun _ => 0))] ++ blk0 (n + 8) a1)
theorem i_X2 {a1 a2 a3 : Nat} (hn : M.length = n) : E G mX2_init (2, 41) 0 [.ref n, .ref a1, .ref a2, .ref a3] [] (M ++ [.inr (2, [.null, .null, .null, .null, .null, .null, .null, .int 0, .int 0, .int 0, .int 0, .int 0, .int 0, .long 0, .null, .null, .null, .null])]) (MK0 M (blk2 n a1 a2 a3)) := by
  refine E_aload_n (pc := 0) rfl dX2_init_0 ?_
  refine E_objInit (pc := 1) (by decide +kernel) (by decide) (Nat.le_of_ble_eq_true rfl) dX2_init_1 ?_
  refine E_aload_n (pc := 4) rfl dX2_init_4 ?_
  refine E_sipush (pc := 5) (nI 13312) (by decide) dX2_init_5 ?_
  refine B_newI (l := 1) (N := 13312) (pc := 8) hn rfl rfl (by decide) dX2_init_8 ?_
  refine B_putF (j := 0) (pc := 10) hn f2_9 rfl (by decide) rfl (by decide +kernel) rfl (by decide +kernel) rfl rfl dX2_init_10 ?_
  change E G _ _ _ _ _ (M ++ (.inr (2, [.null, .null, .null, .null, .ref (n + 1), .null, .null, .int 0, .int 0, .int 0, .int 0, .int 0, .int 0, .long 0, .null, .null, .null, .null]) :: ([] ++ [.inl (0, 13312, .inl (fun _ => 0))]))) _
  refine E_aload_n (pc := 13) rfl dX2_init_13 ?_
  refine E_sipush (pc := 14) (nI 2048) (by decide) dX2_init_14 ?_
  refine B_newL (l := 2) (N := 2048) (pc := 17) hn rfl rfl (by decide) dX2_init_17 ?_
  refine B_putF (j := 0) (pc := 19) hn f2_15 rfl (by decide) rfl (by decide +kernel) rfl (by decide +kernel) rfl rfl dX2_init_19 ?_
  change E G _ _ _ _ _ (M ++ (.inr (2, [.null, .null, .null, .null, .ref (n + 1), .ref (n + 2), .null, .int 0, .int 0, .int 0, .int 0, .int 0, .int 0, .long 0, .null, .null, .null, .null]) :: ([] ++ [.inl (0, 13312, .inl (fun _ => 0))] ++ [.inl (1, 2048, .inr (.inl (fun _ => 0)))]))) _
  refine E_aload_n (pc := 22) rfl dX2_init_22 ?_
  refine E_sipush (pc := 23) (nI 1024) (by decide) dX2_init_23 ?_
  refine B_newI (l := 3) (N := 1024) (pc := 26) hn rfl rfl (by decide) dX2_init_26 ?_
  refine B_putF (j := 0) (pc := 28) hn f2_19 rfl (by decide) rfl (by decide +kernel) rfl (by decide +kernel) rfl rfl dX2_init_28 ?_
  change E G _ _ _ _ _ (M ++ (.inr (2, [.null, .null, .null, .null, .ref (n + 1), .ref (n + 2), .ref (n + 3), .int 0, .int 0, .int 0, .int 0, .int 0, .int 0, .long 0, .null, .null, .null, .null]) :: ([] ++ [.inl (0, 13312, .inl (fun _ => 0))] ++ [.inl (1, 2048, .inr (.inl (fun _ => 0)))] ++ [.inl (0, 1024, .inl (fun _ => 0))]))) _
  refine E_aload_n (pc := 31) rfl dX2_init_31 ?_
  refine E_iconst (pc := 32) 0 rfl dX2_init_32 ?_
  refine B_putf (j := 0) (pc := 33) hn f2_22 rfl (by decide) rfl (by decide +kernel) rfl rfl dX2_init_33 ?_
  change E G _ _ _ _ _ (M ++ (.inr (2, [.null, .null, .null, .null, .ref (n + 1), .ref (n + 2), .ref (n + 3), .int (nI 0), .int 0, .int 0, .int 0, .int 0, .int 0, .long 0, .null, .null, .null, .null]) :: ([] ++ [.inl (0, 13312, .inl (fun _ => 0))] ++ [.inl (1, 2048, .inr (.inl (fun _ => 0)))] ++ [.inl (0, 1024, .inl (fun _ => 0))]))) _
  refine E_aload_n (pc := 36) rfl dX2_init_36 ?_
  refine E_iconst (pc := 37) 1 rfl dX2_init_37 ?_
  refine B_putf (j := 0) (pc := 38) hn f2_26 rfl (by decide) rfl (by decide +kernel) rfl rfl dX2_init_38 ?_
  change E G _ _ _ _ _ (M ++ (.inr (2, [.null, .null, .null, .null, .ref (n + 1), .ref (n + 2), .ref (n + 3), .int (nI 0), .int (nI 1), .int 0, .int 0, .int 0, .int 0, .long 0, .null, .null, .null, .null]) :: ([] ++ [.inl (0, 13312, .inl (fun _ => 0))] ++ [.inl (1, 2048, .inr (.inl (fun _ => 0)))] ++ [.inl (0, 1024, .inl (fun _ => 0))]))) _
  refine E_aload_n (pc := 41) rfl dX2_init_41 ?_
  refine E_iconst (pc := 42) 1 rfl dX2_init_42 ?_
  refine B_putf (j := 0) (pc := 43) hn f2_29 rfl (by decide) rfl (by decide +kernel) rfl rfl dX2_init_43 ?_
  change E G _ _ _ _ _ (M ++ (.inr (2, [.null, .null, .null, .null, .ref (n + 1), .ref (n + 2), .ref (n + 3), .int (nI 0), .int (nI 1), .int (nI 1), .int 0, .int 0, .int 0, .long 0, .null, .null, .null, .null]) :: ([] ++ [.inl (0, 13312, .inl (fun _ => 0))] ++ [.inl (1, 2048, .inr (.inl (fun _ => 0)))] ++ [.inl (0, 1024, .inl (fun _ => 0))]))) _
  refine E_aload_n (pc := 46) rfl dX2_init_46 ?_
  refine E_iconst (pc := 47) 1 rfl dX2_init_47 ?_
  refine B_putf (j := 0) (pc := 48) hn f2_32 rfl (by decide) rfl (by decide +kernel) rfl rfl dX2_init_48 ?_
  change E G _ _ _ _ _ (M ++ (.inr (2, [.null, .null, .null, .null, .ref (n + 1), .ref (n + 2), .ref (n + 3), .int (nI 0), .int (nI 1), .int (nI 1), .int (nI 1), .int 0, .int 0, .long 0, .null, .null, .null, .null]) :: ([] ++ [.inl (0, 13312, .inl (fun _ => 0))] ++ [.inl (1, 2048, .inr (.inl (fun _ => 0)))] ++ [.inl (0, 1024, .inl (fun _ => 0))]))) _
  refine E_aload_n (pc := 51) rfl dX2_init_51 ?_
  refine E_iconst (pc := 52) 0 rfl dX2_init_52 ?_
  refine B_putf (j := 0) (pc := 53) hn f2_35 rfl (by decide) rfl (by decide +kernel) rfl rfl dX2_init_53 ?_
  change E G _ _ _ _ _ (M ++ (.inr (2, [.null, .null, .null, .null, .ref (n + 1), .ref (n + 2), .ref (n + 3), .int (nI 0), .int (nI 1), .int (nI 1), .int (nI 1), .int (nI 0), .int 0, .long 0, .null, .null, .null, .null]) :: ([] ++ [.inl (0, 13312, .inl (fun _ => 0))] ++ [.inl (1, 2048, .inr (.inl (fun _ => 0)))] ++ [.inl (0, 1024, .inl (fun _ => 0))]))) _
  refine E_aload_n (pc := 56) rfl dX2_init_56 ?_
  refine E_im1 (pc := 57) dX2_init_57 ?_
  refine B_putf (j := 0) (pc := 58) hn f2_38 rfl (by decide) rfl (by decide +kernel) rfl rfl dX2_init_58 ?_
  change E G _ _ _ _ _ (M ++ (.inr (2, [.null, .null, .null, .null, .ref (n + 1), .ref (n + 2), .ref (n + 3), .int (nI 0), .int (nI 1), .int (nI 1), .int (nI 1), .int (nI 0), .int (-1), .long 0, .null, .null, .null, .null]) :: ([] ++ [.inl (0, 13312, .inl (fun _ => 0))] ++ [.inl (1, 2048, .inr (.inl (fun _ => 0)))] ++ [.inl (0, 1024, .inl (fun _ => 0))]))) _
  refine E_aload_n (pc := 61) rfl dX2_init_61 ?_
  refine E_lconst (pc := 62) 0 rfl dX2_init_62 ?_
  refine B_putf (j := 0) (pc := 63) hn f2_41 rfl (by decide) rfl (by decide +kernel) rfl rfl dX2_init_63 ?_
  change E G _ _ _ _ _ (M ++ (.inr (2, [.null, .null, .null, .null, .ref (n + 1), .ref (n + 2), .ref (n + 3), .int (nI 0), .int (nI 1), .int (nI 1), .int (nI 1), .int (nI 0), .int (-1), .long 0, .null, .null, .null, .null]) :: ([] ++ [.inl (0, 13312, .inl (fun _ => 0))] ++ [.inl (1, 2048, .inr (.inl (fun _ => 0)))] ++ [.inl (0, 1024, .inl (fun _ => 0))]))) _
  refine E_aload_n (pc := 66) rfl dX2_init_66 ?_
  refine E_bipush (pc := 67) (nI 12) (by decide) dX2_init_67 ?_
  refine B_newI (l := 4) (N := 12) (pc := 69) hn rfl rfl (by decide) dX2_init_69 ?_
  refine B_putF (j := 0) (pc := 71) hn f2_45 rfl (by decide) rfl (by decide +kernel) rfl (by decide +kernel) rfl rfl dX2_init_71 ?_
  change E G _ _ _ _ _ (M ++ (.inr (2, [.null, .null, .null, .null, .ref (n + 1), .ref (n + 2), .ref (n + 3), .int (nI 0), .int (nI 1), .int (nI 1), .int (nI 1), .int (nI 0), .int (-1), .long 0, .ref (n + 4), .null, .null, .null]) :: ([] ++ [.inl (0, 13312, .inl (fun _ => 0))] ++ [.inl (1, 2048, .inr (.inl (fun _ => 0)))] ++ [.inl (0, 1024, .inl (fun _ => 0))] ++ [.inl (0, 12, .inl (fun _ => 0))]))) _
  refine E_aload_n (pc := 74) rfl dX2_init_74 ?_
  refine E_bipush (pc := 75) (nI 12) (by decide) dX2_init_75 ?_
  refine B_newI (l := 5) (N := 12) (pc := 77) hn rfl rfl (by decide) dX2_init_77 ?_
  refine B_putF (j := 0) (pc := 79) hn f2_48 rfl (by decide) rfl (by decide +kernel) rfl (by decide +kernel) rfl rfl dX2_init_79 ?_
  change E G _ _ _ _ _ (M ++ (.inr (2, [.null, .null, .null, .null, .ref (n + 1), .ref (n + 2), .ref (n + 3), .int (nI 0), .int (nI 1), .int (nI 1), .int (nI 1), .int (nI 0), .int (-1), .long 0, .ref (n + 4), .ref (n + 5), .null, .null]) :: ([] ++ [.inl (0, 13312, .inl (fun _ => 0))] ++ [.inl (1, 2048, .inr (.inl (fun _ => 0)))] ++ [.inl (0, 1024, .inl (fun _ => 0))] ++ [.inl (0, 12, .inl (fun _ => 0))] ++ [.inl (0, 12, .inl (fun _ => 0))]))) _
  refine E_aload_n (pc := 82) rfl dX2_init_82 ?_
  refine E_bipush (pc := 83) (nI 12) (by decide) dX2_init_83 ?_
  refine B_newI (l := 6) (N := 12) (pc := 85) hn rfl rfl (by decide) dX2_init_85 ?_
  refine B_putF (j := 0) (pc := 87) hn f2_51 rfl (by decide) rfl (by decide +kernel) rfl (by decide +kernel) rfl rfl dX2_init_87 ?_
  change E G _ _ _ _ _ (M ++ (.inr (2, [.null, .null, .null, .null, .ref (n + 1), .ref (n + 2), .ref (n + 3), .int (nI 0), .int (nI 1), .int (nI 1), .int (nI 1), .int (nI 0), .int (-1), .long 0, .ref (n + 4), .ref (n + 5), .ref (n + 6), .null]) :: ([] ++ [.inl (0, 13312, .inl (fun _ => 0))] ++ [.inl (1, 2048, .inr (.inl (fun _ => 0)))] ++ [.inl (0, 1024, .inl (fun _ => 0))] ++ [.inl (0, 12, .inl (fun _ => 0))] ++ [.inl (0, 12, .inl (fun _ => 0))] ++ [.inl (0, 12, .inl (fun _ => 0))]))) _
  refine E_aload_n (pc := 90) rfl dX2_init_90 ?_
  refine E_bipush (pc := 91) (nI 12) (by decide) dX2_init_91 ?_
  refine B_newI (l := 7) (N := 12) (pc := 93) hn rfl rfl (by decide) dX2_init_93 ?_
  refine B_putF (j := 0) (pc := 95) hn f2_54 rfl (by decide) rfl (by decide +kernel) rfl (by decide +kernel) rfl rfl dX2_init_95 ?_
  change E G _ _ _ _ _ (M ++ (.inr (2, [.null, .null, .null, .null, .ref (n + 1), .ref (n + 2), .ref (n + 3), .int (nI 0), .int (nI 1), .int (nI 1), .int (nI 1), .int (nI 0), .int (-1), .long 0, .ref (n + 4), .ref (n + 5), .ref (n + 6), .ref (n + 7)]) :: ([] ++ [.inl (0, 13312, .inl (fun _ => 0))] ++ [.inl (1, 2048, .inr (.inl (fun _ => 0)))] ++ [.inl (0, 1024, .inl (fun _ => 0))] ++ [.inl (0, 12, .inl (fun _ => 0))] ++ [.inl (0, 12, .inl (fun _ => 0))] ++ [.inl (0, 12, .inl (fun _ => 0))] ++ [.inl (0, 12, .inl (fun _ => 0))]))) _
  refine E_aload_n (pc := 98) rfl dX2_init_98 ?_
  refine E_aload_n (pc := 99) rfl dX2_init_99 ?_
  refine B_putF (j := 0) (pc := 100) hn f2_57 rfl (by decide) rfl (by decide +kernel) rfl (by decide +kernel) rfl rfl dX2_init_100 ?_
  change E G _ _ _ _ _ (M ++ (.inr (2, [.ref a1, .null, .null, .null, .ref (n + 1), .ref (n + 2), .ref (n + 3), .int (nI 0), .int (nI 1), .int (nI 1), .int (nI 1), .int (nI 0), .int (-1), .long 0, .ref (n + 4), .ref (n + 5), .ref (n + 6), .ref (n + 7)]) :: ([] ++ [.inl (0, 13312, .inl (fun _ => 0))] ++ [.inl (1, 2048, .inr (.inl (fun _ => 0)))] ++ [.inl (0, 1024, .inl (fun _ => 0))] ++ [.inl (0, 12, .inl (fun _ => 0))] ++ [.inl (0, 12, .inl (fun _ => 0))] ++ [.inl (0, 12, .inl (fun _ => 0))] ++ [.inl (0, 12, .inl (fun _ => 0))]))) _
  refine E_aload_n (pc := 103) rfl dX2_init_103 ?_
  refine E_aload_n (pc := 104) rfl dX2_init_104 ?_
  refine B_putF (j := 0) (pc := 105) hn f2_61 rfl (by decide) rfl (by decide +kernel) rfl (by decide +kernel) rfl rfl dX2_init_105 ?_
  change E G _ _ _ _ _ (M ++ (.inr (2, [.ref a1, .ref a2, .null, .null, .ref (n + 1), .ref (n + 2), .ref (n + 3), .int (nI 0), .int (nI 1), .int (nI 1), .int (nI 1), .int (nI 0), .int (-1), .long 0, .ref (n + 4), .ref (n + 5), .ref (n + 6), .ref (n + 7)]) :: ([] ++ [.inl (0, 13312, .inl (fun _ => 0))] ++ [.inl (1, 2048, .inr (.inl (fun _ => 0)))] ++ [.inl (0, 1024, .inl (fun _ => 0))] ++ [.inl (0, 12, .inl (fun _ => 0))] ++ [.inl (0, 12, .inl (fun _ => 0))] ++ [.inl (0, 12, .inl (fun _ => 0))] ++ [.inl (0, 12, .inl (fun _ => 0))]))) _
  refine E_aload_n (pc := 108) rfl dX2_init_108 ?_
  refine E_aload_n (pc := 109) rfl dX2_init_109 ?_
  refine B_putF (j := 0) (pc := 110) hn f2_64 rfl (by decide) rfl (by decide +kernel) rfl (by decide +kernel) rfl rfl dX2_init_110 ?_
  change E G _ _ _ _ _ (M ++ (.inr (2, [.ref a1, .ref a2, .ref a3, .null, .ref (n + 1), .ref (n + 2), .ref (n + 3), .int (nI 0), .int (nI 1), .int (nI 1), .int (nI 1), .int (nI 0), .int (-1), .long 0, .ref (n + 4), .ref (n + 5), .ref (n + 6), .ref (n + 7)]) :: ([] ++ [.inl (0, 13312, .inl (fun _ => 0))] ++ [.inl (1, 2048, .inr (.inl (fun _ => 0)))] ++ [.inl (0, 1024, .inl (fun _ => 0))] ++ [.inl (0, 12, .inl (fun _ => 0))] ++ [.inl (0, 12, .inl (fun _ => 0))] ++ [.inl (0, 12, .inl (fun _ => 0))] ++ [.inl (0, 12, .inl (fun _ => 0))]))) _
  refine E_aload_n (pc := 113) rfl dX2_init_113 ?_
  refine B_new (l := 8) (pc := 114) (ci := 0) (fs := [.null, .null, .null, .null, .null, .null, .null, .null, .int 0]) hn rfl l2_67 rfl (by decide +kernel) rfl dX2_init_114 ?_
  refine E_dup (pc := 117) rfl dX2_init_117 ?_
  refine E_aload_n (pc := 118) rfl dX2_init_118 ?_
  refine B_call (l := 8) (pc := 119) (ci := 0) (fc := (1, 20)) (fs := [.null, .null, .null, .null, .null, .null, .null, .null, .int 0]) (As := [_]) (blk := blk0 (n + 8) a1) hn rfl s2_69_0 oX0_init dX2_init_119 rfl rfl (Nat.le_of_ble_eq_true rfl) rfl rfl (by decide) (fun M0 h0 => i_X0 h0) ?_
  refine B_putF (j := 0) (pc := 122) hn f2_72 rfl (by decide) rfl (by decide +kernel) rfl (by decide +kernel) rfl rfl dX2_init_122 ?_
  change E G _ _ _ _ _ (M ++ (.inr (2, [.ref a1, .ref a2, .ref a3, .ref (n + 8), .ref (n + 1), .ref (n + 2), .ref (n + 3), .int (nI 0), .int (nI 1), .int (nI 1), .int (nI 1), .int (nI 0), .int (-1), .long 0, .ref (n + 4), .ref (n + 5), .ref (n + 6), .ref (n + 7)]) :: ([] ++ [.inl (0, 13312, .inl (fun _ => 0))] ++ [.inl (1, 2048, .inr (.inl (fun _ => 0)))] ++ [.inl (0, 1024, .inl (fun _ => 0))] ++ [.inl (0, 12, .inl (fun _ => 0))] ++ [.inl (0, 12, .inl (fun _ => 0))] ++ [.inl (0, 12, .inl (fun _ => 0))] ++ [.inl (0, 12, .inl (fun _ => 0))] ++ blk0 (n + 8) a1))) _
  exact E_return (pc := 125) rfl dX2_init_125 ⟨rfl, rfl⟩
end
