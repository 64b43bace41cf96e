section
/-! ===== more building with names ===== -/
variable {G : GP} {md : MD} {f : Nat × Nat} {pc idx : Nat} {L st : List Value} {M : SMem} {P : Option Value → SMem → Prop} {n l l1 l2 b k ci c0 F : Nat}
theorem O_newA {t : Nat} {Cn : String} {fs : List Value} {tl : SMem} {x : Int32} {N : Nat} (hn : M.length = n) (hT : tl.length = l) (h1 : l + 1 = l1) (hli : Cond.classLink (clsN md.1) idx Cn ∈ BW) (ht : t < 6) (hC : aty t = .object Cn) (ha : Cn ∈ aoW) (hN : x = nI N) (hb : N < 2 ^ 20) (hd : decode md.2.2.1 pc = .ok (.anewarray idx, 3)) (k' : ∀ tl', tl' = tl ++ [.inl (t, N, .inr (.inr (.inr (.inr (fun _ => none)))))] → tl'.length = l1 → E G md f (pc + 3) L (.ref (n + l1) :: st) (M ++ (.inr (c0, fs) :: tl')) P) : E G md f pc L (.int x :: st) (M ++ (.inr (c0, fs) :: tl)) P :=
  B_newA (l := l1) hn (by rw [List.length_cons, hT, h1]) hli ht hC ha hN hb hd (by have q := k' (tl ++ [(.inl (t, N, .inr (.inr (.inr (.inr (fun _ => none))))) : SC)]) rfl (by rw [List.length_append, hT]; exact h1); exact q)
theorem O_obj {mdc : MD} {fc : Nat × Nat} {Cn : String} {T : u_T} {N idx2 : Nat} {fs fs0 : List Value} {tl blk : SMem} {L0 : List Value} (hn : M.length = n) (hT : tl.length = l) (h1 : l + 1 = l1) (hbl : blk.length = b) (h2 : l + b = l2) (hl : Cond.classLink (clsN md.1) idx Cn ∈ BW) (hci : vwCl[ci]? = some (Cn, T, N)) (hw : [Cond.instantiable Cn N, .initialized Cn].all inB = true) (hfs : dflV ci N = fs) (hd : decode md.2.2.1 pc = .ok (.new idx, 3)) (hd1 : decode md.2.2.1 (pc + 3) = .ok (.dup, 1)) (hd2 : decode md.2.2.1 (pc + 3 + 1) = .ok (.invokespecial idx2, 3)) (hS : COKV md.1 (.invokespecial idx2) ci 0 mdc) (hmd : mdok mdc = true) (hst : ((Value.ref (n + l1) :: st).map fun v => v.category).sum ≤ 8) (hL0 : entL [.ref (n + l1)] mdc.2.2.2.1 = L0) (hlen : Nat.ble (entA [.ref (n + l1)]).length mdc.2.2.2.1 = true) (hf : fc.1 + 1 ≤ f.1 ∧ 8 + (mdc.2.2.2.1 + 11) + fc.2 ≤ f.2) (hc : ∀ M0 : SMem, M0.length = n + l1 → E G mdc fc 0 L0 [] (M0 ++ [.inr (ci, fs)]) (MK0 M0 blk)) (k' : ∀ tl', tl' = tl ++ blk → tl'.length = l2 → E G md f (pc + 3 + 1 + 3) L (.ref (n + l1) :: st) (M ++ (.inr (c0, fs0) :: tl')) P) : E G md f pc L st (M ++ (.inr (c0, fs0) :: tl)) P :=
  B_obj (l := l1) hn (by rw [List.length_cons, hT, h1]) hl hci hw hfs hd hd1 hd2 hS hmd hst hL0 hlen hf hc (by have q := k' (tl ++ blk) rfl (by rw [List.length_append, hT, hbl]; exact h2); exact q)
theorem O_call {mdc : MD} {fc : Nat × Nat} {nn : Nat} {fs fs0 : List Value} {tl blk : SMem} {L0 As rest : List Value} (hn : M.length = n) (hT : tl.length = l) (h1 : l + 1 = l1) (hbl : blk.length = b) (h2 : l + b = l2) (hS : COKV md.1 (.invokespecial idx) ci nn mdc) (hmd : mdok mdc = true) (hd : decode md.2.2.1 pc = .ok (.invokespecial idx, 3)) (hst : st = As.reverse ++ .ref (n + l1) :: rest) (hnn : As.length = nn) (hw : (rest.map fun v => v.category).sum ≤ 8) (hL0 : entL (.ref (n + l1) :: As) mdc.2.2.2.1 = L0) (hlen : Nat.ble (entA (.ref (n + l1) :: As)).length mdc.2.2.2.1 = true) (hf : fc.1 + 1 ≤ f.1 ∧ 8 + (mdc.2.2.2.1 + 11) + fc.2 ≤ f.2) (hc : ∀ M0 : SMem, M0.length = n + l1 → E G mdc fc 0 L0 [] (M0 ++ [.inr (ci, fs)]) (MK0 M0 blk)) (k' : ∀ tl', tl' = tl ++ blk → tl'.length = l2 → E G md f (pc + 3) L rest (M ++ (.inr (c0, fs0) :: tl')) P) : E G md f pc L st ((M ++ (.inr (c0, fs0) :: tl)) ++ [.inr (ci, fs)]) P :=
  B_call (l := l1) (B := .inr (c0, fs0) :: tl) hn (by rw [List.length_cons, hT, h1]) hS hmd hd hst hnn hw hL0 hlen hf hc (by have q := k' (tl ++ blk) rfl (by rw [List.length_append, hT, hbl]; exact h2); exact q)
end
section
/-! ===== the class's object is made ===== -/
variable {G : GP} {M : SMem} {P : Option Value → SMem → Prop} {n : Nat}
theorem blk5_len (n a : Nat) : (blk5 n a).length = 7 := rfl
theorem blk2_len (n a b c : Nat) : (blk2 n a b c).length = 16 := rfl
def sF (n : Nat) : List Value := [.ref (n + 1), .ref (n + 2), .ref (n + 95), .ref (n + 188), .ref (n + 195), .ref (n + 196), .ref (n + 197), .ref (n + 213), .ref (n + 229), .ref (n + 230), .int (nI 0), .int (nI 1), .int (nI 1), .int (-1)]
def SAr (n i : Nat) : SC := .inl (2, 8, .inr (.inr (.inr (.inr (fun k => if k < i then some (n + (231 + 2 * k)) else none)))))
def shs (n : Nat) : Nat → SMem
  | 0 => []
  | i + 1 => shs n i ++ blk7 (n + (231 + 2 * i))
theorem shs_len : ∀ i, (shs n i).length = 2 * i := by
  intro i
  induction i with
  | zero => rfl
  | succ i ih => rw [shs, List.length_append, ih]; show 2 * i + 2 = _; omega
def sT (n : Nat) : SMem := blk10 (n + 2) ++ blk10 (n + 95) ++ blk5 (n + 188) (n + 2) ++ [.inl (0, 1024, .inl (fun _ => 0))] ++ [.inl (0, 7168, .inl (fun _ => 0))] ++ blk2 (n + 197) (n + 2) (n + 195) (n + 196) ++ blk2 (n + 213) (n + 2) (n + 195) (n + 196) ++ [.inl (0, 8, .inl (fun _ => 0))] ++ [.inl (0, 21, .inl (fun _ => 0))]
theorem sT_len : (sT n).length = 229 := by simp [sT, blk10_len, blk5_len, blk2_len]
def sB (n i : Nat) : SMem := .inr (11, sF n) :: SAr n i :: (sT n ++ shs n i)
theorem sB_len {i : Nat} : (sB n i).length = 231 + 2 * i := by
  unfold sB
  rw [List.length_cons, List.length_cons, List.length_append, sT_len, shs_len]
  omega
theorem sB_0 {i : Nat} : (sB n i)[0]? = some (.inr (11, sF n)) := rfl
theorem sB_1 {i : Nat} : (sB n i)[1]? = some (SAr n i) := rfl
theorem sF_0 : (sF n)[0]? = some (.ref (n + 1)) := rfl
theorem SAr_up {i : Nat} : (.inl (2, 8, .inr (.inr (.inr (.inr (va_up (fun k => if k < i then some (n + (231 + 2 * k)) else none) i (some (n + (231 + 2 * i)))))))) : SC) = SAr n (i + 1) := by
  have e : va_up (fun k => if k < i then some (n + (231 + 2 * k)) else none) i (some (n + (231 + 2 * i))) = fun k => if k < i + 1 then some (n + (231 + 2 * k)) else none := by
    funext k
    unfold va_up
    by_cases z : k = i
    · rw [if_pos z, z, if_pos (by omega)]
    · rw [if_neg z]
      show (if k < i then _ else _) = _
      by_cases w : k < i
      · rw [if_pos w, if_pos (by omega)]
      · rw [if_neg w, if_neg (by omega)]
  unfold SAr
  rw [e]
theorem s_at1 {i : Nat} (B : SMem) : (sB n i ++ B)[1]? = some (SAr n i) := rfl
theorem s_up {i : Nat} : (sB n i ++ blk7 (n + (231 + 2 * i))).set 1 (SAr n (i + 1)) = sB n (i + 1) := by
  unfold sB
  rw [show shs n (i + 1) = shs n i ++ blk7 (n + (231 + 2 * i)) from rfl, ← List.append_assoc, List.cons_append, List.cons_append, List.set_cons_succ, List.set_cons_zero]
theorem SAr_z : SAr n 0 = .inl (2, 8, .inr (.inr (.inr (.inr (fun _ => none))))) := by
  unfold SAr
  rw [show (fun k : Nat => if k < 0 then some (n + (231 + 2 * k)) else none) = fun _ => none from funext fun k => if_neg (Nat.not_lt_zero k)]
theorem sB0_eq : sB n 0 = .inr (11, [.ref (n + 1), .ref (n + 2), .ref (n + 95), .ref (n + 188), .ref (n + 195), .ref (n + 196), .ref (n + 197), .ref (n + 213), .ref (n + 229), .ref (n + 230), .int (nI 0), .int (nI 1), .int (nI 1), .int (-1)]) :: .inl (2, 8, .inr (.inr (.inr (.inr (fun _ => none))))) :: (blk10 (n + 2) ++ blk10 (n + 95) ++ blk5 (n + 188) (n + 2) ++ [.inl (0, 1024, .inl (fun _ => 0))] ++ [.inl (0, 7168, .inl (fun _ => 0))] ++ blk2 (n + 197) (n + 2) (n + 195) (n + 196) ++ blk2 (n + 213) (n + 2) (n + 195) (n + 196) ++ [.inl (0, 8, .inl (fun _ => 0))] ++ [.inl (0, 21, .inl (fun _ => 0))] ++ []) := by
  rw [← SAr_z (n := n)]
  rfl
theorem s_loop (hn : M.length = n) (kk : E G mX11_init (4, 81) 177 [.ref n, .int (nI 8)] [] (M ++ sB n 8) P) : ∀ d i, i + d = 8 → E G mX11_init (4, 81) 152 [.ref n, .int (nI i)] [] (M ++ sB n i) P := by
  intro d
  induction d with
  | zero =>
    intro i hi
    have : i = 8 := hi
    subst this
    refine E_iload_n (pc := 152) rfl dX11_init_152 ?_
    refine E_bipush (pc := 153) (nI 8) (by decide) dX11_init_153 ?_
    exact E_icmp_ge (pc := 155) 177 dX11_init_155 (by decide) (fun _ => kk) (fun q => absurd (by decide) q)
  | succ d ih =>
    intro i hi
    have hlen : (sB n i).length = 231 + 2 * i := sB_len
    refine E_iload_n (pc := 152) rfl dX11_init_152 ?_
    refine E_bipush (pc := 153) (nI 8) (by decide) dX11_init_153 ?_
    refine E_icmp_ge (pc := 155) 177 dX11_init_155 (by decide) (fun q => absurd q (Int32.not_le.mpr ((nI_ltI (by omega) (by omega)).mpr (by omega)))) (fun _ => ?_)
    refine E_aload_n (pc := 158) rfl dX11_init_158 ?_
    refine B_getf (j := 0) (pc := 159) hn f11_11 sB_0 (by decide) sF_0 dX11_init_159 ?_
    refine E_iload_n (pc := 162) rfl dX11_init_162 ?_
    refine B_obj (l := 231 + 2 * i) (pc := 163) (ci := 7) (fc := (1, 20)) (fs := [.int 0, .int 0, .null]) (blk := blk7 (n + (231 + 2 * i))) hn hlen l11_9 rfl (by decide +kernel) rfl dX11_init_163 dX11_init_166 dX11_init_167 s11_75_7 oX7_init (Nat.le_of_ble_eq_true rfl) rfl rfl (by decide) (fun M0 h0 => i_X7 h0) ?_
    refine E_aastore (pc := 170) (t := 2) (n := 8) (j := i) (v := n + (231 + 2 * i)) (ci := 7) (B_at (j := 1) hn (s_at1 (blk7 _))) (by decide) rfl (B_at (j := 231 + 2 * i) hn (c := .inr (7, [.int (-1), .int (nI 0), .ref (n + (231 + 2 * i) + 1)])) ?_) rfl (by omega) (by decide) dX11_init_170 ?_
    · rw [List.getElem?_append_right (by omega), hlen, Nat.sub_self]; rfl
    · rw [B_set hn, SAr_up, s_up]
      refine E_iinc (pc := 171) (L2 := [.ref n, .int (nI (i + 1))]) (v := nI (i + 1)) rfl (nI_add i 1) rfl rfl dX11_init_171 ?_
      refine E_goto (pc := 174) 152 (by decide) dX11_init_174 ?_
      exact ih (i + 1) (by omega)
def blk11 (n : Nat) : SMem := sB n 8
set_option maxHeartbeats 8000000 in
set_option maxRecDepth 8000 in
theorem i_X11 (hn : M.length = n) : E G mX11_init (4, 81) 0 [.ref n, D0] [] (M ++ [.inr (11, [.null, .null, .null, .null, .null, .null, .null, .null, .null, .null, .int 0, .int 0, .int 0, .int 0])]) (MK0 M (blk11 n)) := by
  refine E_aload_n (pc := 0) rfl dX11_init_0 ?_
  refine E_objInit (pc := 1) (by decide +kernel) (by decide) (Nat.le_of_ble_eq_true rfl) dX11_init_1 ?_
  refine O_gen (M := M) (ci := 11) (F := 14) (l := 0) rfl rfl ?_
  intro fs0 tl0 e0 hF0 t0 hT0
  refine E_aload_n (pc := 4) rfl dX11_init_4 ?_
  refine E_bipush (pc := 5) (nI 8) (by decide) dX11_init_5 ?_
  refine O_newA (l := 0) (l1 := 1) (t := 2) (N := 8) (pc := 7) hn hT0 rfl l11_9 (by decide) rfl (by decide +kernel) rfl (by decide) dX11_init_7 ?_
  intro tl1 t1 hT1
  refine O_putF (F := 14) (pc := 10) hn hF0 f11_11 (by decide) rfl (by decide +kernel) rfl (by decide +kernel) rfl rfl dX11_init_10 ?_
  intro fs1 e1 hF1
  replace e1 : fs1 = [.ref (n + 1), .null, .null, .null, .null, .null, .null, .null, .null, .null, .int 0, .int 0, .int 0, .int 0] := by rw [e1, e0]; rfl
  refine E_aload_n (pc := 13) rfl dX11_init_13 ?_
  refine O_obj (l := 1) (l1 := 2) (b := 93) (l2 := 94) (pc := 14) (ci := 10) (fc := (3, 60)) (fs := [.int 0, .int 0, .int 0, .int 0, .null, .null, .null, .null, .null, .null]) (blk := blk10 (n + 2)) hn hT1 rfl blk10_len rfl l11_15 rfl (by decide +kernel) rfl dX11_init_14 dX11_init_17 dX11_init_18 s11_17_10 oX10_init (Nat.le_of_ble_eq_true rfl) rfl rfl (by decide) (fun M0 h0 => i_X10 h0) ?_
  intro tl2 t2 hT2
  refine O_putF (F := 14) (pc := 21) hn hF1 f11_18 (by decide) rfl (by decide +kernel) rfl (by decide +kernel) rfl rfl dX11_init_21 ?_
  intro fs2 e2 hF2
  replace e2 : fs2 = [.ref (n + 1), .ref (n + 2), .null, .null, .null, .null, .null, .null, .null, .null, .int 0, .int 0, .int 0, .int 0] := by rw [e2, e1]; rfl
  refine E_aload_n (pc := 24) rfl dX11_init_24 ?_
  refine O_obj (l := 94) (l1 := 95) (b := 93) (l2 := 187) (pc := 25) (ci := 10) (fc := (3, 60)) (fs := [.int 0, .int 0, .int 0, .int 0, .null, .null, .null, .null, .null, .null]) (blk := blk10 (n + 95)) hn hT2 rfl blk10_len rfl l11_15 rfl (by decide +kernel) rfl dX11_init_25 dX11_init_28 dX11_init_29 s11_17_10 oX10_init (Nat.le_of_ble_eq_true rfl) rfl rfl (by decide) (fun M0 h0 => i_X10 h0) ?_
  intro tl3 t3 hT3
  refine O_putF (F := 14) (pc := 32) hn hF2 f11_22 (by decide) rfl (by decide +kernel) rfl (by decide +kernel) rfl rfl dX11_init_32 ?_
  intro fs3 e3 hF3
  replace e3 : fs3 = [.ref (n + 1), .ref (n + 2), .ref (n + 95), .null, .null, .null, .null, .null, .null, .null, .int 0, .int 0, .int 0, .int 0] := by rw [e3, e2]; rfl
  refine E_aload_n (pc := 35) rfl dX11_init_35 ?_
  refine B_new (l := 188) (pc := 36) (ci := 5) (fs := [.null, .null, .int 0, .int 0, .int 0, .int 0, .int 0]) hn (by rw [List.length_cons, hT3]) l11_25 rfl (by decide +kernel) rfl dX11_init_36 ?_
  refine E_dup (pc := 39) rfl dX11_init_39 ?_
  refine E_aload_n (pc := 40) rfl dX11_init_40 ?_
  refine B_get1 (j := 0) (k := 1) (v := .ref (n + 2)) (pc := 41) hn f11_18 rfl (by decide) (by rw [e3]; rfl) dX11_init_41 ?_
  refine O_call (l := 187) (l1 := 188) (b := 7) (l2 := 194) (pc := 44) (ci := 5) (fc := (3, 60)) (fs := [.null, .null, .int 0, .int 0, .int 0, .int 0, .int 0]) (As := [.ref (n + 2)]) (blk := blk5 (n + 188) (n + 2)) hn hT3 rfl (blk5_len _ _) rfl s11_27_5 oX5_init dX11_init_44 rfl rfl (Nat.le_of_ble_eq_true rfl) rfl rfl (by decide) (fun M0 h0 => i_X5 h0) ?_
  intro tl4 t4 hT4
  refine O_putF (F := 14) (pc := 47) hn hF3 f11_30 (by decide) rfl (by decide +kernel) rfl (by decide +kernel) rfl rfl dX11_init_47 ?_
  intro fs4 e4 hF4
  replace e4 : fs4 = [.ref (n + 1), .ref (n + 2), .ref (n + 95), .ref (n + 188), .null, .null, .null, .null, .null, .null, .int 0, .int 0, .int 0, .int 0] := by rw [e4, e3]; rfl
  refine E_aload_n (pc := 50) rfl dX11_init_50 ?_
  refine E_sipush (pc := 51) (nI 1024) (by decide) dX11_init_51 ?_
  refine O_newI (l := 194) (l1 := 195) (N := 1024) (pc := 54) hn hT4 rfl rfl (by decide) dX11_init_54 ?_
  intro tl5 t5 hT5
  refine O_putF (F := 14) (pc := 56) hn hF4 f11_34 (by decide) rfl (by decide +kernel) rfl (by decide +kernel) rfl rfl dX11_init_56 ?_
  intro fs5 e5 hF5
  replace e5 : fs5 = [.ref (n + 1), .ref (n + 2), .ref (n + 95), .ref (n + 188), .ref (n + 195), .null, .null, .null, .null, .null, .int 0, .int 0, .int 0, .int 0] := by rw [e5, e4]; rfl
  refine E_aload_n (pc := 59) rfl dX11_init_59 ?_
  refine E_sipush (pc := 60) (nI 7168) (by decide) dX11_init_60 ?_
  refine O_newI (l := 195) (l1 := 196) (N := 7168) (pc := 63) hn hT5 rfl rfl (by decide) dX11_init_63 ?_
  intro tl6 t6 hT6
  refine O_putF (F := 14) (pc := 65) hn hF5 f11_38 (by decide) rfl (by decide +kernel) rfl (by decide +kernel) rfl rfl dX11_init_65 ?_
  intro fs6 e6 hF6
  replace e6 : fs6 = [.ref (n + 1), .ref (n + 2), .ref (n + 95), .ref (n + 188), .ref (n + 195), .ref (n + 196), .null, .null, .null, .null, .int 0, .int 0, .int 0, .int 0] := by rw [e6, e5]; rfl
  refine E_aload_n (pc := 68) rfl dX11_init_68 ?_
  refine B_new (l := 197) (pc := 69) (ci := 2) (fs := [.null, .null, .null, .null, .null, .null, .null, .int 0, .int 0, .int 0, .int 0, .int 0, .int 0, .long 0, .null, .null, .null, .null]) hn (by rw [List.length_cons, hT6]) l11_41 rfl (by decide +kernel) rfl dX11_init_69 ?_
  refine E_dup (pc := 72) rfl dX11_init_72 ?_
  refine E_aload_n (pc := 73) rfl dX11_init_73 ?_
  refine B_get1 (j := 0) (k := 1) (v := .ref (n + 2)) (pc := 74) hn f11_18 rfl (by decide) (by rw [e6]; rfl) dX11_init_74 ?_
  refine E_aload_n (pc := 77) rfl dX11_init_77 ?_
  refine B_get1 (j := 0) (k := 4) (v := .ref (n + 195)) (pc := 78) hn f11_34 rfl (by decide) (by rw [e6]; rfl) dX11_init_78 ?_
  refine E_aload_n (pc := 81) rfl dX11_init_81 ?_
  refine B_get1 (j := 0) (k := 5) (v := .ref (n + 196)) (pc := 82) hn f11_38 rfl (by decide) (by rw [e6]; rfl) dX11_init_82 ?_
  refine O_call (l := 196) (l1 := 197) (b := 16) (l2 := 212) (pc := 85) (ci := 2) (fc := (2, 41)) (fs := [.null, .null, .null, .null, .null, .null, .null, .int 0, .int 0, .int 0, .int 0, .int 0, .int 0, .long 0, .null, .null, .null, .null]) (As := [.ref (n + 2), .ref (n + 195), .ref (n + 196)]) (blk := blk2 (n + 197) (n + 2) (n + 195) (n + 196)) hn hT6 rfl (blk2_len _ _ _ _) rfl s11_43_2 oX2_init dX11_init_85 rfl rfl (Nat.le_of_ble_eq_true rfl) rfl rfl (by decide) (fun M0 h0 => i_X2 h0) ?_
  intro tl7 t7 hT7
  refine O_putF (F := 14) (pc := 88) hn hF6 f11_46 (by decide) rfl (by decide +kernel) rfl (by decide +kernel) rfl rfl dX11_init_88 ?_
  intro fs7 e7 hF7
  replace e7 : fs7 = [.ref (n + 1), .ref (n + 2), .ref (n + 95), .ref (n + 188), .ref (n + 195), .ref (n + 196), .ref (n + 197), .null, .null, .null, .int 0, .int 0, .int 0, .int 0] := by rw [e7, e6]; rfl
  refine E_aload_n (pc := 91) rfl dX11_init_91 ?_
  refine B_new (l := 213) (pc := 92) (ci := 2) (fs := [.null, .null, .null, .null, .null, .null, .null, .int 0, .int 0, .int 0, .int 0, .int 0, .int 0, .long 0, .null, .null, .null, .null]) hn (by rw [List.length_cons, hT7]) l11_41 rfl (by decide +kernel) rfl dX11_init_92 ?_
  refine E_dup (pc := 95) rfl dX11_init_95 ?_
  refine E_aload_n (pc := 96) rfl dX11_init_96 ?_
  refine B_get1 (j := 0) (k := 1) (v := .ref (n + 2)) (pc := 97) hn f11_18 rfl (by decide) (by rw [e7]; rfl) dX11_init_97 ?_
  refine E_aload_n (pc := 100) rfl dX11_init_100 ?_
  refine B_get1 (j := 0) (k := 4) (v := .ref (n + 195)) (pc := 101) hn f11_34 rfl (by decide) (by rw [e7]; rfl) dX11_init_101 ?_
  refine E_aload_n (pc := 104) rfl dX11_init_104 ?_
  refine B_get1 (j := 0) (k := 5) (v := .ref (n + 196)) (pc := 105) hn f11_38 rfl (by decide) (by rw [e7]; rfl) dX11_init_105 ?_
  refine O_call (l := 212) (l1 := 213) (b := 16) (l2 := 228) (pc := 108) (ci := 2) (fc := (2, 41)) (fs := [.null, .null, .null, .null, .null, .null, .null, .int 0, .int 0, .int 0, .int 0, .int 0, .int 0, .long 0, .null, .null, .null, .null]) (As := [.ref (n + 2), .ref (n + 195), .ref (n + 196)]) (blk := blk2 (n + 213) (n + 2) (n + 195) (n + 196)) hn hT7 rfl (blk2_len _ _ _ _) rfl s11_43_2 oX2_init dX11_init_108 rfl rfl (Nat.le_of_ble_eq_true rfl) rfl rfl (by decide) (fun M0 h0 => i_X2 h0) ?_
  intro tl8 t8 hT8
  refine O_putF (F := 14) (pc := 111) hn hF7 f11_50 (by decide) rfl (by decide +kernel) rfl (by decide +kernel) rfl rfl dX11_init_111 ?_
  intro fs8 e8 hF8
  replace e8 : fs8 = [.ref (n + 1), .ref (n + 2), .ref (n + 95), .ref (n + 188), .ref (n + 195), .ref (n + 196), .ref (n + 197), .ref (n + 213), .null, .null, .int 0, .int 0, .int 0, .int 0] := by rw [e8, e7]; rfl
  refine E_aload_n (pc := 114) rfl dX11_init_114 ?_
  refine E_bipush (pc := 115) (nI 8) (by decide) dX11_init_115 ?_
  refine O_newI (l := 228) (l1 := 229) (N := 8) (pc := 117) hn hT8 rfl rfl (by decide) dX11_init_117 ?_
  intro tl9 t9 hT9
  refine O_putF (F := 14) (pc := 119) hn hF8 f11_53 (by decide) rfl (by decide +kernel) rfl (by decide +kernel) rfl rfl dX11_init_119 ?_
  intro fs9 e9 hF9
  replace e9 : fs9 = [.ref (n + 1), .ref (n + 2), .ref (n + 95), .ref (n + 188), .ref (n + 195), .ref (n + 196), .ref (n + 197), .ref (n + 213), .ref (n + 229), .null, .int 0, .int 0, .int 0, .int 0] := by rw [e9, e8]; rfl
  refine E_aload_n (pc := 122) rfl dX11_init_122 ?_
  refine E_bipush (pc := 123) (nI 21) (by decide) dX11_init_123 ?_
  refine O_newI (l := 229) (l1 := 230) (N := 21) (pc := 125) hn hT9 rfl rfl (by decide) dX11_init_125 ?_
  intro tl10 t10 hT10
  refine O_putF (F := 14) (pc := 127) hn hF9 f11_58 (by decide) rfl (by decide +kernel) rfl (by decide +kernel) rfl rfl dX11_init_127 ?_
  intro fs10 e10 hF10
  replace e10 : fs10 = [.ref (n + 1), .ref (n + 2), .ref (n + 95), .ref (n + 188), .ref (n + 195), .ref (n + 196), .ref (n + 197), .ref (n + 213), .ref (n + 229), .ref (n + 230), .int 0, .int 0, .int 0, .int 0] := by rw [e10, e9]; rfl
  refine E_aload_n (pc := 130) rfl dX11_init_130 ?_
  refine E_iconst (pc := 131) 0 rfl dX11_init_131 ?_
  refine O_putf (F := 14) (pc := 132) hn hF10 f11_61 (by decide) rfl (by decide +kernel) rfl rfl dX11_init_132 ?_
  intro fs11 e11 hF11
  replace e11 : fs11 = [.ref (n + 1), .ref (n + 2), .ref (n + 95), .ref (n + 188), .ref (n + 195), .ref (n + 196), .ref (n + 197), .ref (n + 213), .ref (n + 229), .ref (n + 230), .int (nI 0), .int 0, .int 0, .int 0] := by rw [e11, e10]; rfl
  refine E_aload_n (pc := 135) rfl dX11_init_135 ?_
  refine E_iconst (pc := 136) 1 rfl dX11_init_136 ?_
  refine O_putf (F := 14) (pc := 137) hn hF11 f11_65 (by decide) rfl (by decide +kernel) rfl rfl dX11_init_137 ?_
  intro fs12 e12 hF12
  replace e12 : fs12 = [.ref (n + 1), .ref (n + 2), .ref (n + 95), .ref (n + 188), .ref (n + 195), .ref (n + 196), .ref (n + 197), .ref (n + 213), .ref (n + 229), .ref (n + 230), .int (nI 0), .int (nI 1), .int 0, .int 0] := by rw [e12, e11]; rfl
  refine E_aload_n (pc := 140) rfl dX11_init_140 ?_
  refine E_iconst (pc := 141) 1 rfl dX11_init_141 ?_
  refine O_putf (F := 14) (pc := 142) hn hF12 f11_68 (by decide) rfl (by decide +kernel) rfl rfl dX11_init_142 ?_
  intro fs13 e13 hF13
  replace e13 : fs13 = [.ref (n + 1), .ref (n + 2), .ref (n + 95), .ref (n + 188), .ref (n + 195), .ref (n + 196), .ref (n + 197), .ref (n + 213), .ref (n + 229), .ref (n + 230), .int (nI 0), .int (nI 1), .int (nI 1), .int 0] := by rw [e13, e12]; rfl
  refine E_aload_n (pc := 145) rfl dX11_init_145 ?_
  refine E_im1 (pc := 146) dX11_init_146 ?_
  refine O_putf (F := 14) (pc := 147) hn hF13 f11_71 (by decide) rfl (by decide +kernel) rfl rfl dX11_init_147 ?_
  intro fs14 e14 hF14
  replace e14 : fs14 = [.ref (n + 1), .ref (n + 2), .ref (n + 95), .ref (n + 188), .ref (n + 195), .ref (n + 196), .ref (n + 197), .ref (n + 213), .ref (n + 229), .ref (n + 230), .int (nI 0), .int (nI 1), .int (nI 1), .int (-1)] := by rw [e14, e13]; rfl
  have hb : (M ++ (.inr (11, fs14) :: tl10) : SMem) = M ++ sB n 0 := by
    rw [e14, t10, t9, t8, t7, t6, t5, t4, t3, t2, t1, t0, sB0_eq]
    simp only [List.nil_append, List.cons_append, List.append_assoc]
  rw [hb]
  refine E_iconst (pc := 150) 0 rfl dX11_init_150 ?_
  refine E_istore_n (pc := 151) (L2 := [.ref n, .int (nI 0)]) rfl rfl dX11_init_151 ?_
  refine s_loop hn ?_ 8 0 rfl
  exact E_return (pc := 177) rfl dX11_init_177 ⟨rfl, rfl⟩
end
