section
/-! ===== objects are made: what stands ahead, and what is built behind it ===== -/
variable {G : GP} {md : MD} {f : Nat × Nat} {pc idx : Nat} {L st : List Value} {M B : SMem} {P : Option Value → SMem → Prop} {n j l k ci : Nat}
theorem B_at (hn : M.length = n) {c : SC} (h : B[j]? = some c) : (M ++ B)[n + j]? = some c := by
  rw [List.getElem?_append_right (by omega), hn, Nat.add_sub_cancel_left]
  exact h
theorem B_set (hn : M.length = n) {c : SC} : (M ++ B).set (n + j) c = M ++ B.set j c := by
  rw [List.set_append_right _ _ (by omega), hn, Nat.add_sub_cancel_left]
theorem B_len (hn : M.length = n) (hl : B.length = l) : (M ++ B).length = n + l := by rw [List.length_append, hn, hl]
theorem B_putf {ref : String} {cs : List Nat} {fs : List Value} {v : Value} (hn : M.length = n) (hf : FOK md.1 idx k ref cs) (hm : B[j]? = some (.inr (ci, fs))) (hc : ci ∈ cs) (hl : Nat.blt k fs.length = true) (hfin : finF ci k = false) (hna : narrow (clT ci k) (cv G v) = cv G v) (hfit : fits (clT ci k) (cv G v) = true) (hd : decode md.2.2.1 pc = .ok (.putfield idx, 3)) (k' : E G md f (pc + 3) L st (M ++ B.set j (.inr (ci, fs.set k v))) P) : E G md f pc L (v :: .ref (n + j) :: st) (M ++ B) P :=
  E_putf hf (B_at hn hm) hc hl hfin hna hfit hd (by rw [B_set hn]; exact k')
theorem B_putF {ref : String} {cs : List Nat} {fs : List Value} {v : Value} (hn : M.length = n) (hf : FOK md.1 idx k ref cs) (hm : B[j]? = some (.inr (ci, fs))) (hc : ci ∈ cs) (hl : Nat.blt k fs.length = true) (hfin : finF ci k = true) (hin : md.2.1.name = "<init>") (hdc : dclF ci k = clsN md.1) (hna : narrow (clT ci k) (cv G v) = cv G v) (hfit : fits (clT ci k) (cv G v) = true) (hd : decode md.2.2.1 pc = .ok (.putfield idx, 3)) (k' : E G md f (pc + 3) L st (M ++ B.set j (.inr (ci, fs.set k v))) P) : E G md f pc L (v :: .ref (n + j) :: st) (M ++ B) P :=
  E_putF hf (B_at hn hm) hc hl hfin hin hdc hna hfit hd (by rw [B_set hn]; exact k')
theorem B_getf {ref : String} {cs : List Nat} {fs : List Value} {v : Value} (hn : M.length = n) (hf : FOK md.1 idx k ref cs) (hm : B[j]? = some (.inr (ci, fs))) (hc : ci ∈ cs) (hv : fs[k]? = some v) (hd : decode md.2.2.1 pc = .ok (.getfield idx, 3)) (k' : E G md f (pc + 3) L (v :: st) (M ++ B) P) : E G md f pc L (.ref (n + j) :: st) (M ++ B) P := E_getf hf (B_at hn hm) hc hv hd k'
theorem B_newI {x : Int32} {N : Nat} (hn : M.length = n) (hl : B.length = l) (hN : x = nI N) (hb : N < 2 ^ 20) (hd : decode md.2.2.1 pc = .ok (.newarray .int, 2)) (k' : E G md f (pc + 2) L (.ref (n + l) :: st) (M ++ (B ++ [.inl (0, N, .inl (fun _ => 0))])) P) : E G md f pc L (.int x :: st) (M ++ B) P :=
  E_newarrI hN hb hd (by rw [B_len hn hl, List.append_assoc]; exact k')
theorem B_newL {x : Int32} {N : Nat} (hn : M.length = n) (hl : B.length = l) (hN : x = nI N) (hb : N < 2 ^ 20) (hd : decode md.2.2.1 pc = .ok (.newarray .long, 2)) (k' : E G md f (pc + 2) L (.ref (n + l) :: st) (M ++ (B ++ [.inl (1, N, .inr (.inl (fun _ => 0)))])) P) : E G md f pc L (.int x :: st) (M ++ B) P :=
  E_newarrL hN hb hd (by rw [B_len hn hl, List.append_assoc]; exact k')
theorem B_newA {t : Nat} {Cn : String} {x : Int32} {N : Nat} (hn : M.length = n) (hl : B.length = l) (hli : Cond.classLink (clsN md.1) idx Cn ∈ BW) (ht : t < 6) (hC : aty t = .object Cn) (ha : Cn ∈ aoW) (hN : x = nI N) (hb : N < 2 ^ 20) (hd : decode md.2.2.1 pc = .ok (.anewarray idx, 3)) (k' : E G md f (pc + 3) L (.ref (n + l) :: st) (M ++ (B ++ [.inl (t, N, .inr (.inr (.inr (.inr (fun _ => none)))))])) P) : E G md f pc L (.int x :: st) (M ++ B) P :=
  E_newarrA hli ht hC ha hN hb hd (by rw [B_len hn hl, List.append_assoc]; exact k')
theorem B_new {Cn : String} {T : u_T} {N : Nat} {fs : List Value} (hn : M.length = n) (hlB : B.length = l) (hl : Cond.classLink (clsN md.1) idx Cn ∈ BW) (hci : vwCl[ci]? = some (Cn, T, N)) (hw : [Cond.instantiable Cn N, .initialized Cn].all inB = true) (hfs : dflV ci N = fs) (hd : decode md.2.2.1 pc = .ok (.new idx, 3)) (k' : E G md f (pc + 3) L (.ref (n + l) :: st) ((M ++ B) ++ [.inr (ci, fs)]) P) : E G md f pc L st (M ++ B) P :=
  E_new hl hci hw hfs hd (by rw [B_len hn hlB]; exact k')
/-- what a constructor without arguments leaves -/
def MK0 (M : SMem) (b : SMem) : Option Value → SMem → Prop := fun rv M1 => rv = none ∧ M1 = M ++ b
theorem B_obj {mdc : MD} {fc : Nat × Nat} {Cn : String} {T : u_T} {N idx2 : Nat} {fs : List Value} {blk : SMem} {L0 : List Value} (hn : M.length = n) (hlB : B.length = l) (hl : Cond.classLink (clsN md.1) idx Cn ∈ BW) (hci : vwCl[ci]? = some (Cn, T, N)) (hw : [Cond.instantiable Cn N, .initialized Cn].all inB = true) (hfs : dflV ci N = fs) (hd : decode md.2.2.1 pc = .ok (.new idx, 3)) (hd1 : decode md.2.2.1 (pc + 3) = .ok (.dup, 1)) (hd2 : decode md.2.2.1 (pc + 3 + 1) = .ok (.invokespecial idx2, 3)) (hS : COKV md.1 (.invokespecial idx2) ci 0 mdc) (hmd : mdok mdc = true) (hst : ((Value.ref (n + l) :: st).map fun v => v.category).sum ≤ 8) (hL0 : entL [.ref (n + l)] mdc.2.2.2.1 = L0) (hlen : Nat.ble (entA [.ref (n + l)]).length mdc.2.2.2.1 = true) (hf : fc.1 + 1 ≤ f.1 ∧ 8 + (mdc.2.2.2.1 + 11) + fc.2 ≤ f.2) (hc : ∀ M0 : SMem, M0.length = n + l → E G mdc fc 0 L0 [] (M0 ++ [.inr (ci, fs)]) (MK0 M0 blk)) (k' : E G md f (pc + 3 + 1 + 3) L (.ref (n + l) :: st) (M ++ (B ++ blk)) P) : E G md f pc L st (M ++ B) P := by
  refine B_new hn hlB hl hci hw hfs hd ?_
  refine E_dup rfl hd1 ?_
  have hlen2 := B_len hn hlB
  refine E_callV (a := n + l) (As := []) (rest := .ref (n + l) :: st) (fs := fs) (ci := ci) hS hmd hd2 ?_ rfl rfl hst hL0 hlen hf (hc _ hlen2) (fun rv M1 hq => ?_)
  · rw [List.getElem?_append_right (by omega), hlen2, Nat.sub_self]; rfl
  · obtain ⟨rfl, rfl⟩ := hq
    rw [List.append_assoc]
    exact k'
def A30 : SC := .inl (0, 30, .inl (fun _ => 0))
def blk1 (n : Nat) : SMem := [.inr (1, [.int 0, .ref (n + 1), .ref (n + 2), .ref (n + 3), .ref (n + 4)]), A30, A30, A30, A30]
theorem i_X1 (hn : M.length = n) : E G mX1_init (1, 20) 0 [.ref n] [] (M ++ [.inr (1, [.int 0, .null, .null, .null, .null])]) (MK0 M (blk1 n)) := by
  refine E_aload_n (pc := 0) rfl dX1_init_0 ?_
  refine E_objInit (pc := 1) (by decide +kernel) (by decide) (Nat.le_of_ble_eq_true rfl) dX1_init_1 ?_
  refine E_aload_n (pc := 4) rfl dX1_init_4 ?_
  refine E_iconst (pc := 5) 0 rfl dX1_init_5 ?_
  refine B_putf (j := 0) (pc := 6) hn f1_9 rfl (by decide) rfl (by decide +kernel) rfl rfl dX1_init_6 ?_
  refine E_aload_n (pc := 9) rfl dX1_init_9 ?_
  refine E_bipush (pc := 10) (nI 30) (by decide) dX1_init_10 ?_
  refine B_newI (l := 1) (N := 30) (pc := 12) hn rfl rfl (by decide) dX1_init_12 ?_
  refine B_putF (j := 0) (pc := 14) hn f1_15 rfl (by decide) rfl (by decide +kernel) rfl (by decide +kernel) rfl rfl dX1_init_14 ?_
  refine E_aload_n (pc := 17) rfl dX1_init_17 ?_
  refine E_bipush (pc := 18) (nI 30) (by decide) dX1_init_18 ?_
  refine B_newI (l := 2) (N := 30) (pc := 20) hn rfl rfl (by decide) dX1_init_20 ?_
  refine B_putF (j := 0) (pc := 22) hn f1_19 rfl (by decide) rfl (by decide +kernel) rfl (by decide +kernel) rfl rfl dX1_init_22 ?_
  refine E_aload_n (pc := 25) rfl dX1_init_25 ?_
  refine E_bipush (pc := 26) (nI 30) (by decide) dX1_init_26 ?_
  refine B_newI (l := 3) (N := 30) (pc := 28) hn rfl rfl (by decide) dX1_init_28 ?_
  refine B_putF (j := 0) (pc := 30) hn f1_22 rfl (by decide) rfl (by decide +kernel) rfl (by decide +kernel) rfl rfl dX1_init_30 ?_
  refine E_aload_n (pc := 33) rfl dX1_init_33 ?_
  refine E_bipush (pc := 34) (nI 30) (by decide) dX1_init_34 ?_
  refine B_newI (l := 4) (N := 30) (pc := 36) hn rfl rfl (by decide) dX1_init_36 ?_
  refine B_putF (j := 0) (pc := 38) hn f1_25 rfl (by decide) rfl (by decide +kernel) rfl (by decide +kernel) rfl rfl dX1_init_38 ?_
  exact E_return (pc := 41) rfl dX1_init_41 ⟨rfl, rfl⟩
end
