section
/-! ===== building with names: the fields' row and the tail stay closed ===== -/
variable {G : GP} {md : MD} {f : Nat × Nat} {pc idx : Nat} {L st : List Value} {M : SMem} {P : Option Value → SMem → Prop} {n l l1 k ci F : Nat}
theorem O_gen {ci F l : Nat} {fs : List Value} {tl : SMem} (hF : fs.length = F) (hT : tl.length = l) (k' : ∀ fs' tl', fs' = fs → fs'.length = F → tl' = tl → tl'.length = l → E G md f pc L st (M ++ (.inr (ci, fs') :: tl')) P) : E G md f pc L st (M ++ (.inr (ci, fs) :: tl)) P := k' fs tl rfl hF rfl hT
theorem O_putF {fs : List Value} {tl : SMem} {ref : String} {cs : List Nat} {v : Value} (hn : M.length = n) (hF : fs.length = F) (hf : FOK md.1 idx k ref cs) (hc : ci ∈ cs) (hl : Nat.blt k F = true) (hfin : finF ci k = true) (hin : md.2.1.name = "<init>") (hdc : dclF ci k = clsN md.1) (hna : narrow (clT ci k) (cv G v) = cv G v) (hfit : fits (clT ci k) (cv G v) = true) (hd : decode md.2.2.1 pc = .ok (.putfield idx, 3)) (k' : ∀ fs', fs' = fs.set k v → fs'.length = F → E G md f (pc + 3) L st (M ++ (.inr (ci, fs') :: tl)) P) : E G md f pc L (v :: .ref n :: st) (M ++ (.inr (ci, fs) :: tl)) P :=
  B_putF (j := 0) hn hf rfl hc (by rw [hF]; exact hl) hfin hin hdc hna hfit hd (k' _ rfl (by rw [List.length_set]; exact hF))
theorem O_putf {fs : List Value} {tl : SMem} {ref : String} {cs : List Nat} {v : Value} (hn : M.length = n) (hF : fs.length = F) (hf : FOK md.1 idx k ref cs) (hc : ci ∈ cs) (hl : Nat.blt k F = true) (hfin : finF ci k = false) (hna : narrow (clT ci k) (cv G v) = cv G v) (hfit : fits (clT ci k) (cv G v) = true) (hd : decode md.2.2.1 pc = .ok (.putfield idx, 3)) (k' : ∀ fs', fs' = fs.set k v → fs'.length = F → E G md f (pc + 3) L st (M ++ (.inr (ci, fs') :: tl)) P) : E G md f pc L (v :: .ref n :: st) (M ++ (.inr (ci, fs) :: tl)) P :=
  B_putf (j := 0) hn hf rfl hc (by rw [hF]; exact hl) hfin hna hfit hd (k' _ rfl (by rw [List.length_set]; exact hF))
theorem O_newI {fs : List Value} {tl : SMem} {x : Int32} {N : Nat} (hn : M.length = n) (hT : tl.length = l) (h1 : l + 1 = l1) (hN : x = nI N) (hb : N < 2 ^ 20) (hd : decode md.2.2.1 pc = .ok (.newarray .int, 2)) (k' : ∀ tl', tl' = tl ++ [.inl (0, N, .inl (fun _ => 0))] → tl'.length = l1 → E G md f (pc + 2) L (.ref (n + l1) :: st) (M ++ (.inr (ci, fs) :: tl')) P) : E G md f pc L (.int x :: st) (M ++ (.inr (ci, fs) :: tl)) P :=
  B_newI (l := l1) hn (by rw [List.length_cons, hT, h1]) hN hb hd (by have q := k' (tl ++ [(.inl (0, N, .inl (fun _ => 0)) : SC)]) rfl (by rw [List.length_append, hT]; exact h1); exact q)
theorem O_newL {fs : List Value} {tl : SMem} {x : Int32} {N : Nat} (hn : M.length = n) (hT : tl.length = l) (h1 : l + 1 = l1) (hN : x = nI N) (hb : N < 2 ^ 20) (hd : decode md.2.2.1 pc = .ok (.newarray .long, 2)) (k' : ∀ tl', tl' = tl ++ [.inl (1, N, .inr (.inl (fun _ => 0)))] → tl'.length = l1 → E G md f (pc + 2) L (.ref (n + l1) :: st) (M ++ (.inr (ci, fs) :: tl')) P) : E G md f pc L (.int x :: st) (M ++ (.inr (ci, fs) :: tl)) P :=
  B_newL (l := l1) hn (by rw [List.length_cons, hT, h1]) hN hb hd (by have q := k' (tl ++ [(.inl (1, N, .inr (.inl (fun _ => 0))) : SC)]) rfl (by rw [List.length_append, hT]; exact h1); exact q)
end
section
/-! ===== the reference's object is made ===== -/
variable {G : GP} {M : SMem} {P : Option Value → SMem → Prop} {n : Nat}
def mF (n : Nat) : List Value := [.int 0, .ref (n + 1), .ref (n + 2), .ref (n + 3), .int 0, .ref (n + 4), .ref (n + 5), .ref (n + 6), .ref (n + 7), .int 0, .ref (n + 8), .ref (n + 9), .ref (n + 10), .ref (n + 11), .ref (n + 12), .ref (n + 13), .ref (n + 14), .ref (n + 15), .ref (n + 16), .ref (n + 17), .ref (n + 18), .int (-1), .int 0, .ref (n + 19), .ref (n + 20), .ref (n + 21), .ref (n + 22), .int 0, .int 0, .int 0, .ref (n + 23), .ref (n + 24), .ref (n + 25), .ref (n + 26), .ref (n + 27), .ref (n + 28), .int 0, .ref (n + 29), .ref (n + 30), .int 0, .int 0, .ref (n + 31), .ref (n + 32), .ref (n + 33), .ref (n + 34), .ref (n + 35), .ref (n + 36), .ref (n + 37), .ref (n + 38), .ref (n + 39), .ref (n + 40), .ref (n + 41), .int 0, .int 0, .ref (n + 42), .ref (n + 43), .ref (n + 44), .ref (n + 45), .ref (n + 46), .ref (n + 47), .int 0, .ref (n + 48)]
def mT (g1 g2 : Nat → Int32) : SMem := [.inl (0, 10, .inl (fun _ => 0)), .inl (0, 10, .inl (fun _ => 0)), .inl (0, 600, .inl (fun _ => 0)), .inl (0, 6, .inl (fun _ => 0)), .inl (0, 360, .inl (fun _ => 0)), .inl (0, 6, .inl (fun _ => 0)), .inl (0, 6, .inl (fun _ => 0)), .inl (0, 16, .inl (fun _ => 0)), .inl (0, 16, .inl (fun _ => 0)), .inl (0, 16, .inl (fun _ => 0)), .inl (0, 16, .inl (fun _ => 0)), .inl (0, 16, .inl (fun _ => 0)), .inl (0, 16, .inl (fun _ => 0)), .inl (0, 16, .inl (fun _ => 0)), .inl (0, 6, .inl g2), .inl (0, 8, .inl g1), .inl (0, 8, .inl (fun _ => 0)), .inl (1, 480, .inr (.inl (fun _ => 0))), .inl (0, 10, .inl (fun _ => 0)), .inl (0, 1024, .inl (fun _ => 0)), .inl (0, 1024, .inl (fun _ => 0)), .inl (0, 7168, .inl (fun _ => 0)), .inl (0, 12, .inl (fun _ => 0)), .inl (0, 12, .inl (fun _ => 0)), .inl (0, 12, .inl (fun _ => 0)), .inl (0, 12, .inl (fun _ => 0)), .inl (0, 12, .inl (fun _ => 0)), .inl (0, 2, .inl (fun _ => 0)), .inl (0, 13312, .inl (fun _ => 0)), .inl (0, 13312, .inl (fun _ => 0)), .inl (0, 28, .inl (fun _ => 0)), .inl (0, 28, .inl (fun _ => 0)), .inl (0, 28, .inl (fun _ => 0)), .inl (0, 28, .inl (fun _ => 0)), .inl (0, 1024, .inl (fun _ => 0)), .inl (0, 1024, .inl (fun _ => 0)), .inl (0, 1024, .inl (fun _ => 0)), .inl (0, 1024, .inl (fun _ => 0)), .inl (1, 1024, .inr (.inl (fun _ => 0))), .inl (1, 1024, .inr (.inl (fun _ => 0))), .inl (0, 20, .inl (fun _ => 0)), .inl (0, 3, .inl (fun _ => 0)), .inl (0, 620, .inl (fun _ => 0)), .inl (0, 378, .inl (fun _ => 0)), .inl (0, 112, .inl (fun _ => 0)), .inl (0, 6, .inl (fun _ => 0)), .inl (0, 8, .inl (fun _ => 0)), .inl (0, 12, .inl (fun _ => 0))]
def mB (n : Nat) (g1 g2 : Nat → Int32) : SMem := .inr (12, mF n) :: mT g1 g2
theorem mB_0 (g1 g2 : Nat → Int32) : (mB n g1 g2)[0]? = some (.inr (12, mF n)) := rfl
theorem mF_55 (n : Nat) : (mF n)[18]? = some (.ref (n + 16)) := rfl
theorem mF_52 (n : Nat) : (mF n)[17]? = some (.ref (n + 15)) := rfl
theorem mB_16 (g1 g2 : Nat → Int32) : (mB n g1 g2)[16]? = some (.inl (0, 8, .inl g1)) := rfl
theorem mB_15 (g1 g2 : Nat → Int32) : (mB n g1 g2)[15]? = some (.inl (0, 6, .inl g2)) := rfl
theorem mB_s16 {g1 g2 g : Nat → Int32} : (mB n g1 g2).set 16 (.inl (0, 8, .inl g)) = mB n g g2 := rfl
theorem mB_s15 {g1 g2 g : Nat → Int32} : (mB n g1 g2).set 15 (.inl (0, 6, .inl g)) = mB n g1 g := rfl
theorem gi_z {x : Int32} {g : Nat → Int32} : gi x g 0 = g := by
  funext k
  exact if_neg (Nat.not_lt_zero k)
theorem m_lp1 (hn : M.length = n) {g1 g2 : Nat → Int32} (kk : E G mX12_init (1, 20) 428 [.ref n, .int (nI 8)] [] (M ++ mB n (gi (-1) g1 8) g2) P) : ∀ d i, i + d = 8 → E G mX12_init (1, 20) 409 [.ref n, .int (nI i)] [] (M ++ mB n (gi (-1) g1 i) g2) P := by
  intro d
  induction d with
  | zero =>
    intro i hi
    have : i = 8 := hi
    subst this
    refine E_iload_n (pc := 409) rfl dX12_init_409 ?_
    refine E_bipush (pc := 410) (nI 8) (by decide) dX12_init_410 ?_
    exact E_icmp_ge (pc := 412) 428 dX12_init_412 (by decide) (fun _ => kk) (fun q => absurd (by decide) q)
  | succ d ih =>
    intro i hi
    refine E_iload_n (pc := 409) rfl dX12_init_409 ?_
    refine E_bipush (pc := 410) (nI 8) (by decide) dX12_init_410 ?_
    refine E_icmp_ge (pc := 412) 428 dX12_init_412 (by decide) (fun q => absurd q (Int32.not_le.mpr ((nI_ltI (by omega) (by omega)).mpr (by omega)))) (fun _ => ?_)
    refine E_aload_n (pc := 415) rfl dX12_init_415 ?_
    refine B_getf (j := 0) (pc := 416) hn f12_55 (mB_0 _ _) (by decide) (mF_55 _) dX12_init_416 ?_
    refine E_iload_n (pc := 419) rfl dX12_init_419 ?_
    refine E_im1 (pc := 420) dX12_init_420 ?_
    refine E_iastore (pc := 421) (j := i) (B_at (j := 16) hn (mB_16 _ _)) rfl (by omega) (by decide) dX12_init_421 ?_
    rw [B_set hn, gi_up, mB_s16]
    refine E_iinc (pc := 422) (L2 := [.ref n, .int (nI (i + 1))]) (v := nI (i + 1)) rfl (nI_add i 1) rfl rfl dX12_init_422 ?_
    refine E_goto (pc := 425) 409 (by decide) dX12_init_425 ?_
    exact ih (i + 1) (by omega)
theorem m_lp2 (hn : M.length = n) {g1 g2 : Nat → Int32} (kk : E G mX12_init (1, 20) 449 [.ref n, .int (nI 6)] [] (M ++ mB n g1 (gi (nI 1) g2 6)) P) : ∀ d i, i + d = 6 → E G mX12_init (1, 20) 430 [.ref n, .int (nI i)] [] (M ++ mB n g1 (gi (nI 1) g2 i)) P := by
  intro d
  induction d with
  | zero =>
    intro i hi
    have : i = 6 := hi
    subst this
    refine E_iload_n (pc := 430) rfl dX12_init_430 ?_
    refine E_bipush (pc := 431) (nI 6) (by decide) dX12_init_431 ?_
    exact E_icmp_ge (pc := 433) 449 dX12_init_433 (by decide) (fun _ => kk) (fun q => absurd (by decide) q)
  | succ d ih =>
    intro i hi
    refine E_iload_n (pc := 430) rfl dX12_init_430 ?_
    refine E_bipush (pc := 431) (nI 6) (by decide) dX12_init_431 ?_
    refine E_icmp_ge (pc := 433) 449 dX12_init_433 (by decide) (fun q => absurd q (Int32.not_le.mpr ((nI_ltI (by omega) (by omega)).mpr (by omega)))) (fun _ => ?_)
    refine E_aload_n (pc := 436) rfl dX12_init_436 ?_
    refine B_getf (j := 0) (pc := 437) hn f12_52 (mB_0 _ _) (by decide) (mF_52 _) dX12_init_437 ?_
    refine E_iload_n (pc := 440) rfl dX12_init_440 ?_
    refine E_iconst (pc := 441) 1 rfl dX12_init_441 ?_
    refine E_iastore (pc := 442) (j := i) (B_at (j := 15) hn (mB_15 _ _)) rfl (by omega) (by decide) dX12_init_442 ?_
    rw [B_set hn, gi_up, mB_s15]
    refine E_iinc (pc := 443) (L2 := [.ref n, .int (nI (i + 1))]) (v := nI (i + 1)) rfl (nI_add i 1) rfl rfl dX12_init_443 ?_
    refine E_goto (pc := 446) 430 (by decide) dX12_init_446 ?_
    exact ih (i + 1) (by omega)
def blk12 (n : Nat) : SMem := mB n (gi (-1) (fun _ => 0) 8) (gi (nI 1) (fun _ => 0) 6)
set_option maxHeartbeats 8000000 in
set_option maxRecDepth 8000 in
theorem i_X12 (hn : M.length = n) : E G mX12_init (1, 20) 0 [.ref n, D0] [] (M ++ [.inr (12, [.int 0, .null, .null, .null, .int 0, .null, .null, .null, .null, .int 0, .null, .null, .null, .null, .null, .null, .null, .null, .null, .null, .null, .int 0, .int 0, .null, .null, .null, .null, .int 0, .int 0, .int 0, .null, .null, .null, .null, .null, .null, .int 0, .null, .null, .int 0, .int 0, .null, .null, .null, .null, .null, .null, .null, .null, .null, .null, .null, .int 0, .int 0, .null, .null, .null, .null, .null, .null, .int 0, .null])]) (MK0 M (blk12 n)) := by
  refine E_aload_n (pc := 0) rfl dX12_init_0 ?_
  refine E_objInit (pc := 1) (by decide +kernel) (by decide) (Nat.le_of_ble_eq_true rfl) dX12_init_1 ?_
  refine O_gen (M := M) (ci := 12) (F := 62) (l := 0) rfl rfl ?_
  intro fs0 tl0 e0 hF0 t0 hT0
  refine E_aload_n (pc := 4) rfl dX12_init_4 ?_
  refine E_bipush (pc := 5) (nI 10) (by decide) dX12_init_5 ?_
  refine O_newI (l := 0) (l1 := 1) (N := 10) (pc := 7) hn hT0 rfl rfl (by decide) dX12_init_7 ?_
  intro tl1 t1 hT1
  refine O_putF (F := 62) (pc := 9) hn hF0 f12_7 (by decide) rfl (by decide +kernel) rfl (by decide +kernel) rfl rfl dX12_init_9 ?_
  intro fs1 e1 hF1
  refine E_aload_n (pc := 12) rfl dX12_init_12 ?_
  refine E_bipush (pc := 13) (nI 10) (by decide) dX12_init_13 ?_
  refine O_newI (l := 1) (l1 := 2) (N := 10) (pc := 15) hn hT1 rfl rfl (by decide) dX12_init_15 ?_
  intro tl2 t2 hT2
  refine O_putF (F := 62) (pc := 17) hn hF1 f12_13 (by decide) rfl (by decide +kernel) rfl (by decide +kernel) rfl rfl dX12_init_17 ?_
  intro fs2 e2 hF2
  refine E_aload_n (pc := 20) rfl dX12_init_20 ?_
  refine E_sipush (pc := 21) (nI 600) (by decide) dX12_init_21 ?_
  refine O_newI (l := 2) (l1 := 3) (N := 600) (pc := 24) hn hT2 rfl rfl (by decide) dX12_init_24 ?_
  intro tl3 t3 hT3
  refine O_putF (F := 62) (pc := 26) hn hF2 f12_16 (by decide) rfl (by decide +kernel) rfl (by decide +kernel) rfl rfl dX12_init_26 ?_
  intro fs3 e3 hF3
  refine E_aload_n (pc := 29) rfl dX12_init_29 ?_
  refine E_bipush (pc := 30) (nI 6) (by decide) dX12_init_30 ?_
  refine O_newI (l := 3) (l1 := 4) (N := 6) (pc := 32) hn hT3 rfl rfl (by decide) dX12_init_32 ?_
  intro tl4 t4 hT4
  refine O_putF (F := 62) (pc := 34) hn hF3 f12_19 (by decide) rfl (by decide +kernel) rfl (by decide +kernel) rfl rfl dX12_init_34 ?_
  intro fs4 e4 hF4
  refine E_aload_n (pc := 37) rfl dX12_init_37 ?_
  refine E_sipush (pc := 38) (nI 360) (by decide) dX12_init_38 ?_
  refine O_newI (l := 4) (l1 := 5) (N := 360) (pc := 41) hn hT4 rfl rfl (by decide) dX12_init_41 ?_
  intro tl5 t5 hT5
  refine O_putF (F := 62) (pc := 43) hn hF4 f12_22 (by decide) rfl (by decide +kernel) rfl (by decide +kernel) rfl rfl dX12_init_43 ?_
  intro fs5 e5 hF5
  refine E_aload_n (pc := 46) rfl dX12_init_46 ?_
  refine E_bipush (pc := 47) (nI 6) (by decide) dX12_init_47 ?_
  refine O_newI (l := 5) (l1 := 6) (N := 6) (pc := 49) hn hT5 rfl rfl (by decide) dX12_init_49 ?_
  intro tl6 t6 hT6
  refine O_putF (F := 62) (pc := 51) hn hF5 f12_25 (by decide) rfl (by decide +kernel) rfl (by decide +kernel) rfl rfl dX12_init_51 ?_
  intro fs6 e6 hF6
  refine E_aload_n (pc := 54) rfl dX12_init_54 ?_
  refine E_bipush (pc := 55) (nI 6) (by decide) dX12_init_55 ?_
  refine O_newI (l := 6) (l1 := 7) (N := 6) (pc := 57) hn hT6 rfl rfl (by decide) dX12_init_57 ?_
  intro tl7 t7 hT7
  refine O_putF (F := 62) (pc := 59) hn hF6 f12_28 (by decide) rfl (by decide +kernel) rfl (by decide +kernel) rfl rfl dX12_init_59 ?_
  intro fs7 e7 hF7
  refine E_aload_n (pc := 62) rfl dX12_init_62 ?_
  refine E_bipush (pc := 63) (nI 16) (by decide) dX12_init_63 ?_
  refine O_newI (l := 7) (l1 := 8) (N := 16) (pc := 65) hn hT7 rfl rfl (by decide) dX12_init_65 ?_
  intro tl8 t8 hT8
  refine O_putF (F := 62) (pc := 67) hn hF7 f12_31 (by decide) rfl (by decide +kernel) rfl (by decide +kernel) rfl rfl dX12_init_67 ?_
  intro fs8 e8 hF8
  refine E_aload_n (pc := 70) rfl dX12_init_70 ?_
  refine E_bipush (pc := 71) (nI 16) (by decide) dX12_init_71 ?_
  refine O_newI (l := 8) (l1 := 9) (N := 16) (pc := 73) hn hT8 rfl rfl (by decide) dX12_init_73 ?_
  intro tl9 t9 hT9
  refine O_putF (F := 62) (pc := 75) hn hF8 f12_34 (by decide) rfl (by decide +kernel) rfl (by decide +kernel) rfl rfl dX12_init_75 ?_
  intro fs9 e9 hF9
  refine E_aload_n (pc := 78) rfl dX12_init_78 ?_
  refine E_bipush (pc := 79) (nI 16) (by decide) dX12_init_79 ?_
  refine O_newI (l := 9) (l1 := 10) (N := 16) (pc := 81) hn hT9 rfl rfl (by decide) dX12_init_81 ?_
  intro tl10 t10 hT10
  refine O_putF (F := 62) (pc := 83) hn hF9 f12_37 (by decide) rfl (by decide +kernel) rfl (by decide +kernel) rfl rfl dX12_init_83 ?_
  intro fs10 e10 hF10
  refine E_aload_n (pc := 86) rfl dX12_init_86 ?_
  refine E_bipush (pc := 87) (nI 16) (by decide) dX12_init_87 ?_
  refine O_newI (l := 10) (l1 := 11) (N := 16) (pc := 89) hn hT10 rfl rfl (by decide) dX12_init_89 ?_
  intro tl11 t11 hT11
  refine O_putF (F := 62) (pc := 91) hn hF10 f12_40 (by decide) rfl (by decide +kernel) rfl (by decide +kernel) rfl rfl dX12_init_91 ?_
  intro fs11 e11 hF11
  refine E_aload_n (pc := 94) rfl dX12_init_94 ?_
  refine E_bipush (pc := 95) (nI 16) (by decide) dX12_init_95 ?_
  refine O_newI (l := 11) (l1 := 12) (N := 16) (pc := 97) hn hT11 rfl rfl (by decide) dX12_init_97 ?_
  intro tl12 t12 hT12
  refine O_putF (F := 62) (pc := 99) hn hF11 f12_43 (by decide) rfl (by decide +kernel) rfl (by decide +kernel) rfl rfl dX12_init_99 ?_
  intro fs12 e12 hF12
  refine E_aload_n (pc := 102) rfl dX12_init_102 ?_
  refine E_bipush (pc := 103) (nI 16) (by decide) dX12_init_103 ?_
  refine O_newI (l := 12) (l1 := 13) (N := 16) (pc := 105) hn hT12 rfl rfl (by decide) dX12_init_105 ?_
  intro tl13 t13 hT13
  refine O_putF (F := 62) (pc := 107) hn hF12 f12_46 (by decide) rfl (by decide +kernel) rfl (by decide +kernel) rfl rfl dX12_init_107 ?_
  intro fs13 e13 hF13
  refine E_aload_n (pc := 110) rfl dX12_init_110 ?_
  refine E_bipush (pc := 111) (nI 16) (by decide) dX12_init_111 ?_
  refine O_newI (l := 13) (l1 := 14) (N := 16) (pc := 113) hn hT13 rfl rfl (by decide) dX12_init_113 ?_
  intro tl14 t14 hT14
  refine O_putF (F := 62) (pc := 115) hn hF13 f12_49 (by decide) rfl (by decide +kernel) rfl (by decide +kernel) rfl rfl dX12_init_115 ?_
  intro fs14 e14 hF14
  refine E_aload_n (pc := 118) rfl dX12_init_118 ?_
  refine E_bipush (pc := 119) (nI 6) (by decide) dX12_init_119 ?_
  refine O_newI (l := 14) (l1 := 15) (N := 6) (pc := 121) hn hT14 rfl rfl (by decide) dX12_init_121 ?_
  intro tl15 t15 hT15
  refine O_putF (F := 62) (pc := 123) hn hF14 f12_52 (by decide) rfl (by decide +kernel) rfl (by decide +kernel) rfl rfl dX12_init_123 ?_
  intro fs15 e15 hF15
  refine E_aload_n (pc := 126) rfl dX12_init_126 ?_
  refine E_bipush (pc := 127) (nI 8) (by decide) dX12_init_127 ?_
  refine O_newI (l := 15) (l1 := 16) (N := 8) (pc := 129) hn hT15 rfl rfl (by decide) dX12_init_129 ?_
  intro tl16 t16 hT16
  refine O_putF (F := 62) (pc := 131) hn hF15 f12_55 (by decide) rfl (by decide +kernel) rfl (by decide +kernel) rfl rfl dX12_init_131 ?_
  intro fs16 e16 hF16
  refine E_aload_n (pc := 134) rfl dX12_init_134 ?_
  refine E_bipush (pc := 135) (nI 8) (by decide) dX12_init_135 ?_
  refine O_newI (l := 16) (l1 := 17) (N := 8) (pc := 137) hn hT16 rfl rfl (by decide) dX12_init_137 ?_
  intro tl17 t17 hT17
  refine O_putF (F := 62) (pc := 139) hn hF16 f12_58 (by decide) rfl (by decide +kernel) rfl (by decide +kernel) rfl rfl dX12_init_139 ?_
  intro fs17 e17 hF17
  refine E_aload_n (pc := 142) rfl dX12_init_142 ?_
  refine E_sipush (pc := 143) (nI 480) (by decide) dX12_init_143 ?_
  refine O_newL (l := 17) (l1 := 18) (N := 480) (pc := 146) hn hT17 rfl rfl (by decide) dX12_init_146 ?_
  intro tl18 t18 hT18
  refine O_putF (F := 62) (pc := 148) hn hF17 f12_61 (by decide) rfl (by decide +kernel) rfl (by decide +kernel) rfl rfl dX12_init_148 ?_
  intro fs18 e18 hF18
  refine E_aload_n (pc := 151) rfl dX12_init_151 ?_
  refine E_im1 (pc := 152) dX12_init_152 ?_
  refine O_putf (F := 62) (pc := 153) hn hF18 f12_65 (by decide) rfl (by decide +kernel) rfl rfl dX12_init_153 ?_
  intro fs19 e19 hF19
  refine E_aload_n (pc := 156) rfl dX12_init_156 ?_
  refine E_bipush (pc := 157) (nI 10) (by decide) dX12_init_157 ?_
  refine O_newI (l := 18) (l1 := 19) (N := 10) (pc := 159) hn hT18 rfl rfl (by decide) dX12_init_159 ?_
  intro tl19 t19 hT19
  refine O_putF (F := 62) (pc := 161) hn hF19 f12_69 (by decide) rfl (by decide +kernel) rfl (by decide +kernel) rfl rfl dX12_init_161 ?_
  intro fs20 e20 hF20
  refine E_aload_n (pc := 164) rfl dX12_init_164 ?_
  refine E_sipush (pc := 165) (nI 1024) (by decide) dX12_init_165 ?_
  refine O_newI (l := 19) (l1 := 20) (N := 1024) (pc := 168) hn hT19 rfl rfl (by decide) dX12_init_168 ?_
  intro tl20 t20 hT20
  refine O_putF (F := 62) (pc := 170) hn hF20 f12_72 (by decide) rfl (by decide +kernel) rfl (by decide +kernel) rfl rfl dX12_init_170 ?_
  intro fs21 e21 hF21
  refine E_aload_n (pc := 173) rfl dX12_init_173 ?_
  refine E_sipush (pc := 174) (nI 1024) (by decide) dX12_init_174 ?_
  refine O_newI (l := 20) (l1 := 21) (N := 1024) (pc := 177) hn hT20 rfl rfl (by decide) dX12_init_177 ?_
  intro tl21 t21 hT21
  refine O_putF (F := 62) (pc := 179) hn hF21 f12_75 (by decide) rfl (by decide +kernel) rfl (by decide +kernel) rfl rfl dX12_init_179 ?_
  intro fs22 e22 hF22
  refine E_aload_n (pc := 182) rfl dX12_init_182 ?_
  refine E_sipush (pc := 183) (nI 7168) (by decide) dX12_init_183 ?_
  refine O_newI (l := 21) (l1 := 22) (N := 7168) (pc := 186) hn hT21 rfl rfl (by decide) dX12_init_186 ?_
  intro tl22 t22 hT22
  refine O_putF (F := 62) (pc := 188) hn hF22 f12_78 (by decide) rfl (by decide +kernel) rfl (by decide +kernel) rfl rfl dX12_init_188 ?_
  intro fs23 e23 hF23
  refine E_aload_n (pc := 191) rfl dX12_init_191 ?_
  refine E_bipush (pc := 192) (nI 12) (by decide) dX12_init_192 ?_
  refine O_newI (l := 22) (l1 := 23) (N := 12) (pc := 194) hn hT22 rfl rfl (by decide) dX12_init_194 ?_
  intro tl23 t23 hT23
  refine O_putF (F := 62) (pc := 196) hn hF23 f12_81 (by decide) rfl (by decide +kernel) rfl (by decide +kernel) rfl rfl dX12_init_196 ?_
  intro fs24 e24 hF24
  refine E_aload_n (pc := 199) rfl dX12_init_199 ?_
  refine E_bipush (pc := 200) (nI 12) (by decide) dX12_init_200 ?_
  refine O_newI (l := 23) (l1 := 24) (N := 12) (pc := 202) hn hT23 rfl rfl (by decide) dX12_init_202 ?_
  intro tl24 t24 hT24
  refine O_putF (F := 62) (pc := 204) hn hF24 f12_84 (by decide) rfl (by decide +kernel) rfl (by decide +kernel) rfl rfl dX12_init_204 ?_
  intro fs25 e25 hF25
  refine E_aload_n (pc := 207) rfl dX12_init_207 ?_
  refine E_bipush (pc := 208) (nI 12) (by decide) dX12_init_208 ?_
  refine O_newI (l := 24) (l1 := 25) (N := 12) (pc := 210) hn hT24 rfl rfl (by decide) dX12_init_210 ?_
  intro tl25 t25 hT25
  refine O_putF (F := 62) (pc := 212) hn hF25 f12_87 (by decide) rfl (by decide +kernel) rfl (by decide +kernel) rfl rfl dX12_init_212 ?_
  intro fs26 e26 hF26
  refine E_aload_n (pc := 215) rfl dX12_init_215 ?_
  refine E_bipush (pc := 216) (nI 12) (by decide) dX12_init_216 ?_
  refine O_newI (l := 25) (l1 := 26) (N := 12) (pc := 218) hn hT25 rfl rfl (by decide) dX12_init_218 ?_
  intro tl26 t26 hT26
  refine O_putF (F := 62) (pc := 220) hn hF26 f12_90 (by decide) rfl (by decide +kernel) rfl (by decide +kernel) rfl rfl dX12_init_220 ?_
  intro fs27 e27 hF27
  refine E_aload_n (pc := 223) rfl dX12_init_223 ?_
  refine E_bipush (pc := 224) (nI 12) (by decide) dX12_init_224 ?_
  refine O_newI (l := 26) (l1 := 27) (N := 12) (pc := 226) hn hT26 rfl rfl (by decide) dX12_init_226 ?_
  intro tl27 t27 hT27
  refine O_putF (F := 62) (pc := 228) hn hF27 f12_93 (by decide) rfl (by decide +kernel) rfl (by decide +kernel) rfl rfl dX12_init_228 ?_
  intro fs28 e28 hF28
  refine E_aload_n (pc := 231) rfl dX12_init_231 ?_
  refine E_iconst (pc := 232) 2 rfl dX12_init_232 ?_
  refine O_newI (l := 27) (l1 := 28) (N := 2) (pc := 233) hn hT27 rfl rfl (by decide) dX12_init_233 ?_
  intro tl28 t28 hT28
  refine O_putF (F := 62) (pc := 235) hn hF28 f12_96 (by decide) rfl (by decide +kernel) rfl (by decide +kernel) rfl rfl dX12_init_235 ?_
  intro fs29 e29 hF29
  refine E_aload_n (pc := 238) rfl dX12_init_238 ?_
  refine E_sipush (pc := 239) (nI 13312) (by decide) dX12_init_239 ?_
  refine O_newI (l := 28) (l1 := 29) (N := 13312) (pc := 242) hn hT28 rfl rfl (by decide) dX12_init_242 ?_
  intro tl29 t29 hT29
  refine O_putF (F := 62) (pc := 244) hn hF29 f12_99 (by decide) rfl (by decide +kernel) rfl (by decide +kernel) rfl rfl dX12_init_244 ?_
  intro fs30 e30 hF30
  refine E_aload_n (pc := 247) rfl dX12_init_247 ?_
  refine E_sipush (pc := 248) (nI 13312) (by decide) dX12_init_248 ?_
  refine O_newI (l := 29) (l1 := 30) (N := 13312) (pc := 251) hn hT29 rfl rfl (by decide) dX12_init_251 ?_
  intro tl30 t30 hT30
  refine O_putF (F := 62) (pc := 253) hn hF30 f12_102 (by decide) rfl (by decide +kernel) rfl (by decide +kernel) rfl rfl dX12_init_253 ?_
  intro fs31 e31 hF31
  refine E_aload_n (pc := 256) rfl dX12_init_256 ?_
  refine E_bipush (pc := 257) (nI 28) (by decide) dX12_init_257 ?_
  refine O_newI (l := 30) (l1 := 31) (N := 28) (pc := 259) hn hT30 rfl rfl (by decide) dX12_init_259 ?_
  intro tl31 t31 hT31
  refine O_putF (F := 62) (pc := 261) hn hF31 f12_105 (by decide) rfl (by decide +kernel) rfl (by decide +kernel) rfl rfl dX12_init_261 ?_
  intro fs32 e32 hF32
  refine E_aload_n (pc := 264) rfl dX12_init_264 ?_
  refine E_bipush (pc := 265) (nI 28) (by decide) dX12_init_265 ?_
  refine O_newI (l := 31) (l1 := 32) (N := 28) (pc := 267) hn hT31 rfl rfl (by decide) dX12_init_267 ?_
  intro tl32 t32 hT32
  refine O_putF (F := 62) (pc := 269) hn hF32 f12_108 (by decide) rfl (by decide +kernel) rfl (by decide +kernel) rfl rfl dX12_init_269 ?_
  intro fs33 e33 hF33
  refine E_aload_n (pc := 272) rfl dX12_init_272 ?_
  refine E_bipush (pc := 273) (nI 28) (by decide) dX12_init_273 ?_
  refine O_newI (l := 32) (l1 := 33) (N := 28) (pc := 275) hn hT32 rfl rfl (by decide) dX12_init_275 ?_
  intro tl33 t33 hT33
  refine O_putF (F := 62) (pc := 277) hn hF33 f12_111 (by decide) rfl (by decide +kernel) rfl (by decide +kernel) rfl rfl dX12_init_277 ?_
  intro fs34 e34 hF34
  refine E_aload_n (pc := 280) rfl dX12_init_280 ?_
  refine E_bipush (pc := 281) (nI 28) (by decide) dX12_init_281 ?_
  refine O_newI (l := 33) (l1 := 34) (N := 28) (pc := 283) hn hT33 rfl rfl (by decide) dX12_init_283 ?_
  intro tl34 t34 hT34
  refine O_putF (F := 62) (pc := 285) hn hF34 f12_114 (by decide) rfl (by decide +kernel) rfl (by decide +kernel) rfl rfl dX12_init_285 ?_
  intro fs35 e35 hF35
  refine E_aload_n (pc := 288) rfl dX12_init_288 ?_
  refine E_sipush (pc := 289) (nI 1024) (by decide) dX12_init_289 ?_
  refine O_newI (l := 34) (l1 := 35) (N := 1024) (pc := 292) hn hT34 rfl rfl (by decide) dX12_init_292 ?_
  intro tl35 t35 hT35
  refine O_putF (F := 62) (pc := 294) hn hF35 f12_117 (by decide) rfl (by decide +kernel) rfl (by decide +kernel) rfl rfl dX12_init_294 ?_
  intro fs36 e36 hF36
  refine E_aload_n (pc := 297) rfl dX12_init_297 ?_
  refine E_sipush (pc := 298) (nI 1024) (by decide) dX12_init_298 ?_
  refine O_newI (l := 35) (l1 := 36) (N := 1024) (pc := 301) hn hT35 rfl rfl (by decide) dX12_init_301 ?_
  intro tl36 t36 hT36
  refine O_putF (F := 62) (pc := 303) hn hF36 f12_120 (by decide) rfl (by decide +kernel) rfl (by decide +kernel) rfl rfl dX12_init_303 ?_
  intro fs37 e37 hF37
  refine E_aload_n (pc := 306) rfl dX12_init_306 ?_
  refine E_sipush (pc := 307) (nI 1024) (by decide) dX12_init_307 ?_
  refine O_newI (l := 36) (l1 := 37) (N := 1024) (pc := 310) hn hT36 rfl rfl (by decide) dX12_init_310 ?_
  intro tl37 t37 hT37
  refine O_putF (F := 62) (pc := 312) hn hF37 f12_123 (by decide) rfl (by decide +kernel) rfl (by decide +kernel) rfl rfl dX12_init_312 ?_
  intro fs38 e38 hF38
  refine E_aload_n (pc := 315) rfl dX12_init_315 ?_
  refine E_sipush (pc := 316) (nI 1024) (by decide) dX12_init_316 ?_
  refine O_newI (l := 37) (l1 := 38) (N := 1024) (pc := 319) hn hT37 rfl rfl (by decide) dX12_init_319 ?_
  intro tl38 t38 hT38
  refine O_putF (F := 62) (pc := 321) hn hF38 f12_126 (by decide) rfl (by decide +kernel) rfl (by decide +kernel) rfl rfl dX12_init_321 ?_
  intro fs39 e39 hF39
  refine E_aload_n (pc := 324) rfl dX12_init_324 ?_
  refine E_sipush (pc := 325) (nI 1024) (by decide) dX12_init_325 ?_
  refine O_newL (l := 38) (l1 := 39) (N := 1024) (pc := 328) hn hT38 rfl rfl (by decide) dX12_init_328 ?_
  intro tl39 t39 hT39
  refine O_putF (F := 62) (pc := 330) hn hF39 f12_129 (by decide) rfl (by decide +kernel) rfl (by decide +kernel) rfl rfl dX12_init_330 ?_
  intro fs40 e40 hF40
  refine E_aload_n (pc := 333) rfl dX12_init_333 ?_
  refine E_sipush (pc := 334) (nI 1024) (by decide) dX12_init_334 ?_
  refine O_newL (l := 39) (l1 := 40) (N := 1024) (pc := 337) hn hT39 rfl rfl (by decide) dX12_init_337 ?_
  intro tl40 t40 hT40
  refine O_putF (F := 62) (pc := 339) hn hF40 f12_132 (by decide) rfl (by decide +kernel) rfl (by decide +kernel) rfl rfl dX12_init_339 ?_
  intro fs41 e41 hF41
  refine E_aload_n (pc := 342) rfl dX12_init_342 ?_
  refine E_bipush (pc := 343) (nI 20) (by decide) dX12_init_343 ?_
  refine O_newI (l := 40) (l1 := 41) (N := 20) (pc := 345) hn hT40 rfl rfl (by decide) dX12_init_345 ?_
  intro tl41 t41 hT41
  refine O_putF (F := 62) (pc := 347) hn hF41 f12_135 (by decide) rfl (by decide +kernel) rfl (by decide +kernel) rfl rfl dX12_init_347 ?_
  intro fs42 e42 hF42
  refine E_aload_n (pc := 350) rfl dX12_init_350 ?_
  refine E_iconst (pc := 351) 3 rfl dX12_init_351 ?_
  refine O_newI (l := 41) (l1 := 42) (N := 3) (pc := 352) hn hT41 rfl rfl (by decide) dX12_init_352 ?_
  intro tl42 t42 hT42
  refine O_putF (F := 62) (pc := 354) hn hF42 f12_138 (by decide) rfl (by decide +kernel) rfl (by decide +kernel) rfl rfl dX12_init_354 ?_
  intro fs43 e43 hF43
  refine E_aload_n (pc := 357) rfl dX12_init_357 ?_
  refine E_sipush (pc := 358) (nI 620) (by decide) dX12_init_358 ?_
  refine O_newI (l := 42) (l1 := 43) (N := 620) (pc := 361) hn hT42 rfl rfl (by decide) dX12_init_361 ?_
  intro tl43 t43 hT43
  refine O_putF (F := 62) (pc := 363) hn hF43 f12_141 (by decide) rfl (by decide +kernel) rfl (by decide +kernel) rfl rfl dX12_init_363 ?_
  intro fs44 e44 hF44
  refine E_aload_n (pc := 366) rfl dX12_init_366 ?_
  refine E_sipush (pc := 367) (nI 378) (by decide) dX12_init_367 ?_
  refine O_newI (l := 43) (l1 := 44) (N := 378) (pc := 370) hn hT43 rfl rfl (by decide) dX12_init_370 ?_
  intro tl44 t44 hT44
  refine O_putF (F := 62) (pc := 372) hn hF44 f12_144 (by decide) rfl (by decide +kernel) rfl (by decide +kernel) rfl rfl dX12_init_372 ?_
  intro fs45 e45 hF45
  refine E_aload_n (pc := 375) rfl dX12_init_375 ?_
  refine E_bipush (pc := 376) (nI 112) (by decide) dX12_init_376 ?_
  refine O_newI (l := 44) (l1 := 45) (N := 112) (pc := 378) hn hT44 rfl rfl (by decide) dX12_init_378 ?_
  intro tl45 t45 hT45
  refine O_putF (F := 62) (pc := 380) hn hF45 f12_147 (by decide) rfl (by decide +kernel) rfl (by decide +kernel) rfl rfl dX12_init_380 ?_
  intro fs46 e46 hF46
  refine E_aload_n (pc := 383) rfl dX12_init_383 ?_
  refine E_bipush (pc := 384) (nI 6) (by decide) dX12_init_384 ?_
  refine O_newI (l := 45) (l1 := 46) (N := 6) (pc := 386) hn hT45 rfl rfl (by decide) dX12_init_386 ?_
  intro tl46 t46 hT46
  refine O_putF (F := 62) (pc := 388) hn hF46 f12_150 (by decide) rfl (by decide +kernel) rfl (by decide +kernel) rfl rfl dX12_init_388 ?_
  intro fs47 e47 hF47
  refine E_aload_n (pc := 391) rfl dX12_init_391 ?_
  refine E_bipush (pc := 392) (nI 8) (by decide) dX12_init_392 ?_
  refine O_newI (l := 46) (l1 := 47) (N := 8) (pc := 394) hn hT46 rfl rfl (by decide) dX12_init_394 ?_
  intro tl47 t47 hT47
  refine O_putF (F := 62) (pc := 396) hn hF47 f12_153 (by decide) rfl (by decide +kernel) rfl (by decide +kernel) rfl rfl dX12_init_396 ?_
  intro fs48 e48 hF48
  refine E_aload_n (pc := 399) rfl dX12_init_399 ?_
  refine E_bipush (pc := 400) (nI 12) (by decide) dX12_init_400 ?_
  refine O_newI (l := 47) (l1 := 48) (N := 12) (pc := 402) hn hT47 rfl rfl (by decide) dX12_init_402 ?_
  intro tl48 t48 hT48
  refine O_putF (F := 62) (pc := 404) hn hF48 f12_156 (by decide) rfl (by decide +kernel) rfl (by decide +kernel) rfl rfl dX12_init_404 ?_
  intro fs49 e49 hF49
  have hfs : fs49 = mF n := by
    rw [e49, e48, e47, e46, e45, e44, e43, e42, e41, e40, e39, e38, e37, e36, e35, e34, e33, e32, e31, e30, e29, e28, e27, e26, e25, e24, e23, e22, e21, e20, e19, e18, e17, e16, e15, e14, e13, e12, e11, e10, e9, e8, e7, e6, e5, e4, e3, e2, e1, e0]
    simp only [List.set_cons_succ, List.set_cons_zero]
    rfl
  have htl : tl48 = mT (fun _ => 0) (fun _ => 0) := by
    rw [t48, t47, t46, t45, t44, t43, t42, t41, t40, t39, t38, t37, t36, t35, t34, t33, t32, t31, t30, t29, t28, t27, t26, t25, t24, t23, t22, t21, t20, t19, t18, t17, t16, t15, t14, t13, t12, t11, t10, t9, t8, t7, t6, t5, t4, t3, t2, t1, t0]
    simp only [List.nil_append, List.cons_append, List.append_assoc]
    rfl
  have hb : (M ++ (.inr (12, fs49) :: tl48) : SMem) = M ++ mB n (gi (-1) (fun _ => 0) 0) (gi (nI 1) (fun _ => 0) 0) := by
    rw [hfs, htl, gi_z, gi_z]
    rfl
  rw [hb]
  clear e49 hF49 e48 hF48 e47 hF47 e46 hF46 e45 hF45 e44 hF44 e43 hF43 e42 hF42 e41 hF41 e40 hF40 e39 hF39 e38 hF38 e37 hF37 e36 hF36 e35 hF35 e34 hF34 e33 hF33 e32 hF32 e31 hF31 e30 hF30 e29 hF29 e28 hF28 e27 hF27 e26 hF26 e25 hF25 e24 hF24 e23 hF23 e22 hF22 e21 hF21 e20 hF20 e19 hF19 e18 hF18 e17 hF17 e16 hF16 e15 hF15 e14 hF14 e13 hF13 e12 hF12 e11 hF11 e10 hF10 e9 hF9 e8 hF8 e7 hF7 e6 hF6 e5 hF5 e4 hF4 e3 hF3 e2 hF2 e1 hF1 e0 hF0 t48 hT48 t47 hT47 t46 hT46 t45 hT45 t44 hT44 t43 hT43 t42 hT42 t41 hT41 t40 hT40 t39 hT39 t38 hT38 t37 hT37 t36 hT36 t35 hT35 t34 hT34 t33 hT33 t32 hT32 t31 hT31 t30 hT30 t29 hT29 t28 hT28 t27 hT27 t26 hT26 t25 hT25 t24 hT24 t23 hT23 t22 hT22 t21 hT21 t20 hT20 t19 hT19 t18 hT18 t17 hT17 t16 hT16 t15 hT15 t14 hT14 t13 hT13 t12 hT12 t11 hT11 t10 hT10 t9 hT9 t8 hT8 t7 hT7 t6 hT6 t5 hT5 t4 hT4 t3 hT3 t2 hT2 t1 hT1 t0 hT0 hfs htl hb
  refine E_iconst (pc := 407) 0 rfl dX12_init_407 ?_
  refine E_istore_n (pc := 408) (L2 := [.ref n, .int (nI 0)]) rfl rfl dX12_init_408 ?_
  refine m_lp1 hn ?_ 8 0 rfl
  refine E_iconst (pc := 428) 0 rfl dX12_init_428 ?_
  refine E_istore_n (pc := 429) (L2 := [.ref n, .int (nI 0)]) rfl rfl dX12_init_429 ?_
  refine m_lp2 hn ?_ 6 0 rfl
  exact E_return (pc := 449) rfl dX12_init_449 ⟨rfl, rfl⟩
end
