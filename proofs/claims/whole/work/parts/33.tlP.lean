/-! ===== functions: 33.tlP ===== -/
noncomputable def f_X6_init_ (p0 : Nat) (x1 : Int32) (x2 : Int32) (x3 : Int32) (x4 : Int32) (x5 : Int32) (x6 : Int32) (x7 : Int32) (σ : ST) : Option ST :=
    (pfP [6, 4, 8, 9] σ p0 0 x1).bind fun s1 =>
    (pfP [6, 4, 8, 9] s1 p0 1 x2).bind fun s2 =>
    (pfP [6, 4, 8, 9] s2 p0 2 x3).bind fun s3 =>
    (pfP [6, 4, 8, 9] s3 p0 3 x4).bind fun s4 =>
    (pfP [6, 4, 8, 9] s4 p0 4 x5).bind fun s5 =>
    (pfP [6, 4, 8, 9] s5 p0 5 x6).bind fun s6 =>
    (pfP [6, 4, 8, 9] s6 p0 6 x7).bind fun s7 =>
    some s7
theorem e_X6_init_ {G : GP} {p0 : Nat} {x1 : Int32} {x2 : Int32} {x3 : Int32} {x4 : Int32} {x5 : Int32} {x6 : Int32} {x7 : Int32} {σ : ST} {s : ST}  (h : f_X6_init_ p0 x1 x2 x3 x4 x5 x6 x7 σ = some s) : E G mX6_init_ (1, 20) 0 [.ref p0, .int x1, .int x2, .int x3, .int x4, .int x5, .int x6, .int x7] [] (mem σ) (QV s) := by
  unfold f_X6_init_ at h
  refine E_aload_n (pc := 0) rfl dX6_init__0 ?_
  refine E_objInit (pc := 1) (by decide +kernel) (by decide) (Nat.le_of_ble_eq_true rfl) dX6_init__1 ?_
  refine E_aload_n (pc := 4) rfl dX6_init__4 ?_
  refine E_iload_n (pc := 5) rfl dX6_init__5 ?_
  refine T_putP (pc := 6) f6_14 dX6_init__6 rfl (by decide +kernel) h (fun s1 h => ?_)
  refine E_aload_n (pc := 9) rfl dX6_init__9 ?_
  refine E_iload_n (pc := 10) rfl dX6_init__10 ?_
  refine T_putP (pc := 11) f6_18 dX6_init__11 rfl (by decide +kernel) h (fun s2 h => ?_)
  refine E_aload_n (pc := 14) rfl dX6_init__14 ?_
  refine E_iload_n (pc := 15) rfl dX6_init__15 ?_
  refine T_putP (pc := 16) f6_21 dX6_init__16 rfl (by decide +kernel) h (fun s3 h => ?_)
  refine E_aload_n (pc := 19) rfl dX6_init__19 ?_
  refine E_iload (pc := 20) rfl dX6_init__20 ?_
  refine T_putP (pc := 22) f6_24 dX6_init__22 rfl (by decide +kernel) h (fun s4 h => ?_)
  refine E_aload_n (pc := 25) rfl dX6_init__25 ?_
  refine E_iload (pc := 26) rfl dX6_init__26 ?_
  refine T_putP (pc := 28) f6_27 dX6_init__28 rfl (by decide +kernel) h (fun s5 h => ?_)
  refine E_aload_n (pc := 31) rfl dX6_init__31 ?_
  refine E_iload (pc := 32) rfl dX6_init__32 ?_
  refine T_putP (pc := 34) f6_30 dX6_init__34 rfl (by decide +kernel) h (fun s6 h => ?_)
  refine E_aload_n (pc := 37) rfl dX6_init__37 ?_
  refine E_iload (pc := 38) rfl dX6_init__38 ?_
  refine T_putP (pc := 40) f6_33 dX6_init__40 rfl (by decide +kernel) h (fun s7 h => ?_)
  exact E_return (pc := 43) rfl dX6_init__43 (QV_of h)
noncomputable def f_X8_init_ (p0 : Nat) (x1 : Int32) (x2 : Int32) (x3 : Int32) (x4 : Int32) (x5 : Int32) (x6 : Int32) (σ : ST) : Option ST :=
    (chkP [8, 4] σ p0).bind fun c2 =>
    (f_X6_init_ p0 x1 x2 x3 x4 x5 (nI 0) x6 σ).bind fun s1 =>
    some s1
theorem e_X8_init_ {G : GP} {p0 : Nat} {x1 : Int32} {x2 : Int32} {x3 : Int32} {x4 : Int32} {x5 : Int32} {x6 : Int32} {σ : ST} {s : ST}  (h : f_X8_init_ p0 x1 x2 x3 x4 x5 x6 σ = some s) : E G mX8_init_ (2, 47) 0 [.ref p0, .int x1, .int x2, .int x3, .int x4, .int x5, .int x6] [] (mem σ) (QV s) := by
  unfold f_X8_init_ at h
  refine E_aload_n (pc := 0) rfl dX8_init__0 ?_
  refine E_iload_n (pc := 1) rfl dX8_init__1 ?_
  refine E_iload_n (pc := 2) rfl dX8_init__2 ?_
  refine E_iload_n (pc := 3) rfl dX8_init__3 ?_
  refine E_iload (pc := 4) rfl dX8_init__4 ?_
  refine E_iload (pc := 6) rfl dX8_init__6 ?_
  refine E_iconst (pc := 8) 0 rfl dX8_init__8 ?_
  refine E_iload (pc := 9) rfl dX8_init__9 ?_
  obtain ⟨c2, hc, h⟩ := bd_some h
  obtain ⟨hc, he⟩ := chkP_of hc
  rcases (by simpa using hc : c2 = 8 ∨ c2 = 4) with rfl | rfl
  · obtain ⟨s1, hp, h⟩ := bd_some h
    refine E_callV (pc := 11) (As := [_, _, _, _, _, _, _]) (fc := (1, 20)) s8_3_8 oX6_init_ dX8_init__11 (mem_ob he) rfl rfl (Nat.le_of_ble_eq_true rfl) rfl rfl (by decide) (e_X6_init_  hp) (fun rv_ M_ hq_ => ?_)
    obtain ⟨rfl, rfl⟩ := hq_
    exact E_return (pc := 14) rfl dX8_init__14 (QV_of h)
  · obtain ⟨s1, hp, h⟩ := bd_some h
    refine E_callV (pc := 11) (As := [_, _, _, _, _, _, _]) (fc := (1, 20)) s8_3_4 oX6_init_ dX8_init__11 (mem_ob he) rfl rfl (Nat.le_of_ble_eq_true rfl) rfl rfl (by decide) (e_X6_init_  hp) (fun rv_ M_ hq_ => ?_)
    obtain ⟨rfl, rfl⟩ := hq_
    exact E_return (pc := 14) rfl dX8_init__14 (QV_of h)
noncomputable def f_X4_init (p0 : Nat) (x1 : Int32) (x2 : Int32) (x3 : Int32) (x4 : Int32) (x5 : Int32) (σ : ST) : Option ST :=
    (chkP [4] σ p0).bind fun c2 =>
    (f_X8_init_ p0 x1 (nI 3) x2 x3 x4 x5 σ).bind fun s1 =>
    some s1
theorem e_X4_init {G : GP} {p0 : Nat} {x1 : Int32} {x2 : Int32} {x3 : Int32} {x4 : Int32} {x5 : Int32} {σ : ST} {s : ST}  (h : f_X4_init p0 x1 x2 x3 x4 x5 σ = some s) : E G mX4_init (3, 73) 0 [.ref p0, .int x1, .int x2, .int x3, .int x4, .int x5] [] (mem σ) (QV s) := by
  unfold f_X4_init at h
  refine E_aload_n (pc := 0) rfl dX4_init_0 ?_
  refine E_iload_n (pc := 1) rfl dX4_init_1 ?_
  refine E_iconst (pc := 2) 3 rfl dX4_init_2 ?_
  refine E_iload_n (pc := 3) rfl dX4_init_3 ?_
  refine E_iload_n (pc := 4) rfl dX4_init_4 ?_
  refine E_iload (pc := 5) rfl dX4_init_5 ?_
  refine E_iload (pc := 7) rfl dX4_init_7 ?_
  obtain ⟨c2, hc, h⟩ := bd_some h
  obtain ⟨hc, he⟩ := chkP_of hc
  rcases (by simpa using hc : c2 = 4) with rfl
  · obtain ⟨s1, hp, h⟩ := bd_some h
    refine E_callV (pc := 9) (As := [_, _, _, _, _, _]) (fc := (2, 47)) s4_3_4 oX8_init_ dX4_init_9 (mem_ob he) rfl rfl (Nat.le_of_ble_eq_true rfl) rfl rfl (by decide) (e_X8_init_  hp) (fun rv_ M_ hq_ => ?_)
    obtain ⟨rfl, rfl⟩ := hq_
    exact E_return (pc := 12) rfl dX4_init_12 (QV_of h)
noncomputable def f_X6_begin (x0 : Int32) (a1 : Nat) (n1 : Nat) (σ : ST) : Option ST :=
    (rdI σ a1 n1 (nI 0)).bind fun v1 =>
    if 0 < (v1 + (nI 1)) then
    (if (v1 + (nI 1)) < (nI n1) then
    ((wrI σ a1 n1 (v1 + (nI 1)) x0).bind fun s4 =>
    (wrI s4 a1 n1 (nI 0) (v1 + (nI 1))).bind fun s5 =>
    some s5)
    else ((wrI σ a1 n1 (nI 0) (v1 + (nI 1))).bind fun s3 =>
    some s3))
    else ((wrI σ a1 n1 (nI 0) (v1 + (nI 1))).bind fun s2 =>
    some s2)
theorem e_X6_begin {G : GP} {x0 : Int32} {a1 : Nat} {n1 : Nat} {σ : ST} {s : ST} (h1 : slT[a1]? = some (0, n1, []) ∧ n1 < 2 ^ 31) (h : f_X6_begin x0 a1 n1 σ = some s) : E G mX6_begin (0, 0) 0 [.int x0, .ref a1, D0] [] (mem σ) (QV s) := by
  unfold f_X6_begin at h
  refine E_aload_n (pc := 0) rfl dX6_begin_0 ?_
  refine E_iconst (pc := 1) 0 rfl dX6_begin_1 ?_
  refine T_iald (pc := 2) dX6_begin_2 (ent_st h1.1) h1.2 h (fun v1 h => ?_)
  refine E_iconst (pc := 3) 1 rfl dX6_begin_3 ?_
  refine E_iadd (pc := 4) dX6_begin_4 ?_
  refine E_istore_n (pc := 5) (L2 := [_, _, _]) rfl rfl dX6_begin_5 ?_
  refine E_iload_n (pc := 6) rfl dX6_begin_6 ?_
  refine T_if_le (pc := 7) 20 dX6_begin_7 (by decide) h (fun h => ?_) (fun h => ?_)
  · refine E_aload_n (pc := 20) rfl dX6_begin_20 ?_
    refine E_iconst (pc := 21) 0 rfl dX6_begin_21 ?_
    refine E_iload_n (pc := 22) rfl dX6_begin_22 ?_
    refine T_iast (pc := 23) dX6_begin_23 (ent_st h1.1) h1.2 h (fun s2 h => ?_)
    exact E_return (pc := 24) rfl dX6_begin_24 (QV_of h)
  · refine E_iload_n (pc := 10) rfl dX6_begin_10 ?_
    refine E_aload_n (pc := 11) rfl dX6_begin_11 ?_
    refine R_alen (pc := 12) (v := nI n1) dX6_begin_12 (ent_st h1.1) (by decide) rfl ?_
    refine T_icmp_ge (pc := 13) 20 dX6_begin_13 (by decide) h (fun h => ?_) (fun h => ?_)
    · refine E_aload_n (pc := 20) rfl dX6_begin_20 ?_
      refine E_iconst (pc := 21) 0 rfl dX6_begin_21 ?_
      refine E_iload_n (pc := 22) rfl dX6_begin_22 ?_
      refine T_iast (pc := 23) dX6_begin_23 (ent_st h1.1) h1.2 h (fun s3 h => ?_)
      exact E_return (pc := 24) rfl dX6_begin_24 (QV_of h)
    · refine E_aload_n (pc := 16) rfl dX6_begin_16 ?_
      refine E_iload_n (pc := 17) rfl dX6_begin_17 ?_
      refine E_iload_n (pc := 18) rfl dX6_begin_18 ?_
      refine T_iast (pc := 19) dX6_begin_19 (ent_st h1.1) h1.2 h (fun s4 h => ?_)
      refine E_aload_n (pc := 20) rfl dX6_begin_20 ?_
      refine E_iconst (pc := 21) 0 rfl dX6_begin_21 ?_
      refine E_iload_n (pc := 22) rfl dX6_begin_22 ?_
      refine T_iast (pc := 23) dX6_begin_23 (ent_st h1.1) h1.2 h (fun s5 h => ?_)
      exact E_return (pc := 24) rfl dX6_begin_24 (QV_of h)
noncomputable def f_X6_tells (p0 : Nat) (x1 : Int32) (a2 : Nat) (n2 : Nat) (σ : ST) : Option (Int32 × ST) :=
    (f_X6_begin (nI 10) a2 n2 σ).bind fun s1 =>
    (rdP [6, 4, 8, 9] s1 p0 3).bind fun v2 =>
    some ((x1 + v2), s1)
theorem e_X6_tells {G : GP} {p0 : Nat} {x1 : Int32} {a2 : Nat} {n2 : Nat} {σ : ST} {v : Int32} {s : ST} (h2 : slT[a2]? = some (0, n2, []) ∧ n2 < 2 ^ 31) (h : f_X6_tells p0 x1 a2 n2 σ = some (v, s)) : E G mX6_tells (1, 22) 0 [.ref p0, .int x1, .ref a2] [] (mem σ) (QI v s) := by
  unfold f_X6_tells at h
  refine E_bipush (pc := 0) (nI 10) (by decide) dX6_tells_0 ?_
  refine E_aload_n (pc := 2) rfl dX6_tells_2 ?_
  obtain ⟨s1, hp, h⟩ := bd_some h
  refine E_callS (pc := 3) (As := [_, _]) (fc := (0, 0)) s6_36 oX6_begin dX6_tells_3 rfl rfl (Nat.le_of_ble_eq_true rfl) rfl rfl (by decide) (e_X6_begin ⟨h2.1, h2.2⟩ hp) (fun rv_ M_ hq_ => ?_)
  obtain ⟨rfl, rfl⟩ := hq_
  refine E_iload_n (pc := 6) rfl dX6_tells_6 ?_
  refine E_aload_n (pc := 7) rfl dX6_tells_7 ?_
  refine T_getP (pc := 8) f6_24 dX6_tells_8 (by decide) h (fun v2 h => ?_)
  refine E_iadd (pc := 11) dX6_tells_11 ?_
  exact E_ireturn (pc := 12) rfl rfl dX6_tells_12 (QI_of h)
noncomputable def f_X4_tells (p0 : Nat) (x1 : Int32) (a2 : Nat) (n2 : Nat) (σ : ST) : Option (Int32 × ST) :=
    (f_X6_begin (nI 41) a2 n2 σ).bind fun s1 =>
    (chkP [4] s1 p0).bind fun c4 =>
    bd2 (f_X6_tells p0 (x1 + (nI 1)) a2 n2 s1) fun v3 s2 =>
    some (v3, s2)
theorem e_X4_tells {G : GP} {p0 : Nat} {x1 : Int32} {a2 : Nat} {n2 : Nat} {σ : ST} {v : Int32} {s : ST} (h2 : slT[a2]? = some (0, n2, []) ∧ n2 < 2 ^ 31) (h : f_X4_tells p0 x1 a2 n2 σ = some (v, s)) : E G mX4_tells (2, 44) 0 [.ref p0, .int x1, .ref a2] [] (mem σ) (QI v s) := by
  unfold f_X4_tells at h
  refine E_bipush (pc := 0) (nI 41) (by decide) dX4_tells_0 ?_
  refine E_aload_n (pc := 2) rfl dX4_tells_2 ?_
  obtain ⟨s1, hp, h⟩ := bd_some h
  refine E_callS (pc := 3) (As := [_, _]) (fc := (0, 0)) s4_9 oX6_begin dX4_tells_3 rfl rfl (Nat.le_of_ble_eq_true rfl) rfl rfl (by decide) (e_X6_begin ⟨h2.1, h2.2⟩ hp) (fun rv_ M_ hq_ => ?_)
  obtain ⟨rfl, rfl⟩ := hq_
  refine E_aload_n (pc := 6) rfl dX4_tells_6 ?_
  refine E_iload_n (pc := 7) rfl dX4_tells_7 ?_
  refine E_iconst (pc := 8) 1 rfl dX4_tells_8 ?_
  refine E_iadd (pc := 9) dX4_tells_9 ?_
  refine E_aload_n (pc := 10) rfl dX4_tells_10 ?_
  obtain ⟨c4, hc, h⟩ := bd_some h
  obtain ⟨hc, he⟩ := chkP_of hc
  rcases (by simpa using hc : c4 = 4) with rfl
  · obtain ⟨v3, s2, hp, h⟩ := bd2_some h
    refine E_callV (pc := 11) (As := [_, _]) (fc := (1, 22)) s4_19_4 oX6_tells dX4_tells_11 (mem_ob he) rfl rfl (Nat.le_of_ble_eq_true rfl) rfl rfl (by decide) (e_X6_tells ⟨h2.1, h2.2⟩ hp) (fun rv_ M_ hq_ => ?_)
    obtain ⟨rfl, rfl⟩ := hq_
    exact E_ireturn (pc := 14) rfl rfl dX4_tells_14 (QI_of h)
noncomputable def f_X9_tells (p0 : Nat) (x1 : Int32) (a2 : Nat) (n2 : Nat) (σ : ST) : Option (Int32 × ST) :=
    (f_X6_begin (nI 30) a2 n2 σ).bind fun s1 =>
    (chkP [9] s1 p0).bind fun c4 =>
    bd2 (f_X6_tells p0 x1 a2 n2 s1) fun v3 s2 =>
    some ((v3 * (nI 3)), s2)
theorem e_X9_tells {G : GP} {p0 : Nat} {x1 : Int32} {a2 : Nat} {n2 : Nat} {σ : ST} {v : Int32} {s : ST} (h2 : slT[a2]? = some (0, n2, []) ∧ n2 < 2 ^ 31) (h : f_X9_tells p0 x1 a2 n2 σ = some (v, s)) : E G mX9_tells (2, 44) 0 [.ref p0, .int x1, .ref a2] [] (mem σ) (QI v s) := by
  unfold f_X9_tells at h
  refine E_bipush (pc := 0) (nI 30) (by decide) dX9_tells_0 ?_
  refine E_aload_n (pc := 2) rfl dX9_tells_2 ?_
  obtain ⟨s1, hp, h⟩ := bd_some h
  refine E_callS (pc := 3) (As := [_, _]) (fc := (0, 0)) s9_9 oX6_begin dX9_tells_3 rfl rfl (Nat.le_of_ble_eq_true rfl) rfl rfl (by decide) (e_X6_begin ⟨h2.1, h2.2⟩ hp) (fun rv_ M_ hq_ => ?_)
  obtain ⟨rfl, rfl⟩ := hq_
  refine E_aload_n (pc := 6) rfl dX9_tells_6 ?_
  refine E_iload_n (pc := 7) rfl dX9_tells_7 ?_
  refine E_aload_n (pc := 8) rfl dX9_tells_8 ?_
  obtain ⟨c4, hc, h⟩ := bd_some h
  obtain ⟨hc, he⟩ := chkP_of hc
  rcases (by simpa using hc : c4 = 9) with rfl
  · obtain ⟨v3, s2, hp, h⟩ := bd2_some h
    refine E_callV (pc := 9) (As := [_, _]) (fc := (1, 22)) s9_15_9 oX6_tells dX9_tells_9 (mem_ob he) rfl rfl (Nat.le_of_ble_eq_true rfl) rfl rfl (by decide) (e_X6_tells ⟨h2.1, h2.2⟩ hp) (fun rv_ M_ hq_ => ?_)
    obtain ⟨rfl, rfl⟩ := hq_
    refine E_iconst (pc := 12) 3 rfl dX9_tells_12 ?_
    refine E_imul (pc := 13) dX9_tells_13 ?_
    exact E_ireturn (pc := 14) rfl rfl dX9_tells_14 (QI_of h)
noncomputable def f_V_tells (c : Nat) (p0 : Nat) (x1 : Int32) (a2 n2 : Nat) (σ : ST) : Option (Int32 × ST) := if c = 4 then f_X4_tells p0 x1 a2 n2 σ else if c = 8 then f_X6_tells p0 x1 a2 n2 σ else if c = 9 then f_X9_tells p0 x1 a2 n2 σ else f_X6_tells p0 x1 a2 n2 σ
theorem f_V_tells_6 {p0 : Nat} {x1 : Int32} {a2 n2 : Nat} {σ : ST} : f_V_tells 6 p0 x1 a2 n2 σ = f_X6_tells p0 x1 a2 n2 σ := rfl
theorem f_V_tells_4 {p0 : Nat} {x1 : Int32} {a2 n2 : Nat} {σ : ST} : f_V_tells 4 p0 x1 a2 n2 σ = f_X4_tells p0 x1 a2 n2 σ := rfl
theorem f_V_tells_8 {p0 : Nat} {x1 : Int32} {a2 n2 : Nat} {σ : ST} : f_V_tells 8 p0 x1 a2 n2 σ = f_X6_tells p0 x1 a2 n2 σ := rfl
theorem f_V_tells_9 {p0 : Nat} {x1 : Int32} {a2 n2 : Nat} {σ : ST} : f_V_tells 9 p0 x1 a2 n2 σ = f_X9_tells p0 x1 a2 n2 σ := rfl
noncomputable def f_X6_binds (p0 : Nat) (x1 : Int32) (a2 : Nat) (n2 : Nat) (σ : ST) : Option (Int32 × ST) :=
    (f_X6_begin (nI 11) a2 n2 σ).bind fun s1 =>
    (chkP [6, 4, 8, 9] s1 p0).bind fun c4 =>
    bd2 (f_V_tells c4 p0 x1 a2 n2 s1) fun v3 s2 =>
    some ((v3 * (nI 2)), s2)
theorem e_X6_binds {G : GP} {p0 : Nat} {x1 : Int32} {a2 : Nat} {n2 : Nat} {σ : ST} {v : Int32} {s : ST} (h2 : slT[a2]? = some (0, n2, []) ∧ n2 < 2 ^ 31) (h : f_X6_binds p0 x1 a2 n2 σ = some (v, s)) : E G mX6_binds (3, 66) 0 [.ref p0, .int x1, .ref a2] [] (mem σ) (QI v s) := by
  unfold f_X6_binds at h
  refine E_bipush (pc := 0) (nI 11) (by decide) dX6_binds_0 ?_
  refine E_aload_n (pc := 2) rfl dX6_binds_2 ?_
  obtain ⟨s1, hp, h⟩ := bd_some h
  refine E_callS (pc := 3) (As := [_, _]) (fc := (0, 0)) s6_36 oX6_begin dX6_binds_3 rfl rfl (Nat.le_of_ble_eq_true rfl) rfl rfl (by decide) (e_X6_begin ⟨h2.1, h2.2⟩ hp) (fun rv_ M_ hq_ => ?_)
  obtain ⟨rfl, rfl⟩ := hq_
  refine E_aload_n (pc := 6) rfl dX6_binds_6 ?_
  refine E_iload_n (pc := 7) rfl dX6_binds_7 ?_
  refine E_aload_n (pc := 8) rfl dX6_binds_8 ?_
  obtain ⟨c4, hc, h⟩ := bd_some h
  obtain ⟨hc, he⟩ := chkP_of hc
  rcases (by simpa using hc : c4 = 6 ∨ c4 = 4 ∨ c4 = 8 ∨ c4 = 9) with rfl | rfl | rfl | rfl
  · obtain ⟨v3, s2, hp, h⟩ := bd2_some h
    refine E_callV (pc := 9) (As := [_, _]) (fc := (1, 22)) s6_40_6 oX6_tells dX6_binds_9 (mem_ob he) rfl rfl (Nat.le_of_ble_eq_true rfl) rfl rfl (by decide) (e_X6_tells ⟨h2.1, h2.2⟩ (f_V_tells_6.symm.trans hp)) (fun rv_ M_ hq_ => ?_)
    obtain ⟨rfl, rfl⟩ := hq_
    refine E_iconst (pc := 12) 2 rfl dX6_binds_12 ?_
    refine E_imul (pc := 13) dX6_binds_13 ?_
    exact E_ireturn (pc := 14) rfl rfl dX6_binds_14 (QI_of h)
  · obtain ⟨v3, s2, hp, h⟩ := bd2_some h
    refine E_callV (pc := 9) (As := [_, _]) (fc := (2, 44)) s6_40_4 oX4_tells dX6_binds_9 (mem_ob he) rfl rfl (Nat.le_of_ble_eq_true rfl) rfl rfl (by decide) (e_X4_tells ⟨h2.1, h2.2⟩ (f_V_tells_4.symm.trans hp)) (fun rv_ M_ hq_ => ?_)
    obtain ⟨rfl, rfl⟩ := hq_
    refine E_iconst (pc := 12) 2 rfl dX6_binds_12 ?_
    refine E_imul (pc := 13) dX6_binds_13 ?_
    exact E_ireturn (pc := 14) rfl rfl dX6_binds_14 (QI_of h)
  · obtain ⟨v3, s2, hp, h⟩ := bd2_some h
    refine E_callV (pc := 9) (As := [_, _]) (fc := (1, 22)) s6_40_8 oX6_tells dX6_binds_9 (mem_ob he) rfl rfl (Nat.le_of_ble_eq_true rfl) rfl rfl (by decide) (e_X6_tells ⟨h2.1, h2.2⟩ (f_V_tells_8.symm.trans hp)) (fun rv_ M_ hq_ => ?_)
    obtain ⟨rfl, rfl⟩ := hq_
    refine E_iconst (pc := 12) 2 rfl dX6_binds_12 ?_
    refine E_imul (pc := 13) dX6_binds_13 ?_
    exact E_ireturn (pc := 14) rfl rfl dX6_binds_14 (QI_of h)
  · obtain ⟨v3, s2, hp, h⟩ := bd2_some h
    refine E_callV (pc := 9) (As := [_, _]) (fc := (2, 44)) s6_40_9 oX9_tells dX6_binds_9 (mem_ob he) rfl rfl (Nat.le_of_ble_eq_true rfl) rfl rfl (by decide) (e_X9_tells ⟨h2.1, h2.2⟩ (f_V_tells_9.symm.trans hp)) (fun rv_ M_ hq_ => ?_)
    obtain ⟨rfl, rfl⟩ := hq_
    refine E_iconst (pc := 12) 2 rfl dX6_binds_12 ?_
    refine E_imul (pc := 13) dX6_binds_13 ?_
    exact E_ireturn (pc := 14) rfl rfl dX6_binds_14 (QI_of h)
noncomputable def f_X8_binds (p0 : Nat) (x1 : Int32) (a2 : Nat) (n2 : Nat) (σ : ST) : Option (Int32 × ST) :=
    (f_X6_begin (nI 20) a2 n2 σ).bind fun s1 =>
    (chkP [8, 4] s1 p0).bind fun c4 =>
    bd2 (f_X6_binds p0 x1 a2 n2 s1) fun v3 s2 =>
    (rdP [8, 4] s2 p0 0).bind fun v5 =>
    some ((v3 + v5), s2)
theorem e_X8_binds {G : GP} {p0 : Nat} {x1 : Int32} {a2 : Nat} {n2 : Nat} {σ : ST} {v : Int32} {s : ST} (h2 : slT[a2]? = some (0, n2, []) ∧ n2 < 2 ^ 31) (h : f_X8_binds p0 x1 a2 n2 σ = some (v, s)) : E G mX8_binds (4, 88) 0 [.ref p0, .int x1, .ref a2] [] (mem σ) (QI v s) := by
  unfold f_X8_binds at h
  refine E_bipush (pc := 0) (nI 20) (by decide) dX8_binds_0 ?_
  refine E_aload_n (pc := 2) rfl dX8_binds_2 ?_
  obtain ⟨s1, hp, h⟩ := bd_some h
  refine E_callS (pc := 3) (As := [_, _]) (fc := (0, 0)) s8_9 oX6_begin dX8_binds_3 rfl rfl (Nat.le_of_ble_eq_true rfl) rfl rfl (by decide) (e_X6_begin ⟨h2.1, h2.2⟩ hp) (fun rv_ M_ hq_ => ?_)
  obtain ⟨rfl, rfl⟩ := hq_
  refine E_aload_n (pc := 6) rfl dX8_binds_6 ?_
  refine E_iload_n (pc := 7) rfl dX8_binds_7 ?_
  refine E_aload_n (pc := 8) rfl dX8_binds_8 ?_
  obtain ⟨c4, hc, h⟩ := bd_some h
  obtain ⟨hc, he⟩ := chkP_of hc
  rcases (by simpa using hc : c4 = 8 ∨ c4 = 4) with rfl | rfl
  · obtain ⟨v3, s2, hp, h⟩ := bd2_some h
    refine E_callV (pc := 9) (As := [_, _]) (fc := (3, 66)) s8_15_8 oX6_binds dX8_binds_9 (mem_ob he) rfl rfl (Nat.le_of_ble_eq_true rfl) rfl rfl (by decide) (e_X6_binds ⟨h2.1, h2.2⟩ hp) (fun rv_ M_ hq_ => ?_)
    obtain ⟨rfl, rfl⟩ := hq_
    refine E_aload_n (pc := 12) rfl dX8_binds_12 ?_
    refine T_getP (pc := 13) f8_19 dX8_binds_13 (by decide) h (fun v5 h => ?_)
    refine E_iadd (pc := 16) dX8_binds_16 ?_
    exact E_ireturn (pc := 17) rfl rfl dX8_binds_17 (QI_of h)
  · obtain ⟨v3, s2, hp, h⟩ := bd2_some h
    refine E_callV (pc := 9) (As := [_, _]) (fc := (3, 66)) s8_15_4 oX6_binds dX8_binds_9 (mem_ob he) rfl rfl (Nat.le_of_ble_eq_true rfl) rfl rfl (by decide) (e_X6_binds ⟨h2.1, h2.2⟩ hp) (fun rv_ M_ hq_ => ?_)
    obtain ⟨rfl, rfl⟩ := hq_
    refine E_aload_n (pc := 12) rfl dX8_binds_12 ?_
    refine T_getP (pc := 13) f8_19 dX8_binds_13 (by decide) h (fun v5 h => ?_)
    refine E_iadd (pc := 16) dX8_binds_16 ?_
    exact E_ireturn (pc := 17) rfl rfl dX8_binds_17 (QI_of h)
noncomputable def f_X4_binds (p0 : Nat) (x1 : Int32) (a2 : Nat) (n2 : Nat) (σ : ST) : Option (Int32 × ST) :=
    (f_X6_begin (nI 40) a2 n2 σ).bind fun s1 =>
    (chkP [4] s1 p0).bind fun c4 =>
    bd2 (f_X8_binds p0 x1 a2 n2 s1) fun v3 s2 =>
    some ((-v3), s2)
theorem e_X4_binds {G : GP} {p0 : Nat} {x1 : Int32} {a2 : Nat} {n2 : Nat} {σ : ST} {v : Int32} {s : ST} (h2 : slT[a2]? = some (0, n2, []) ∧ n2 < 2 ^ 31) (h : f_X4_binds p0 x1 a2 n2 σ = some (v, s)) : E G mX4_binds (5, 110) 0 [.ref p0, .int x1, .ref a2] [] (mem σ) (QI v s) := by
  unfold f_X4_binds at h
  refine E_bipush (pc := 0) (nI 40) (by decide) dX4_binds_0 ?_
  refine E_aload_n (pc := 2) rfl dX4_binds_2 ?_
  obtain ⟨s1, hp, h⟩ := bd_some h
  refine E_callS (pc := 3) (As := [_, _]) (fc := (0, 0)) s4_9 oX6_begin dX4_binds_3 rfl rfl (Nat.le_of_ble_eq_true rfl) rfl rfl (by decide) (e_X6_begin ⟨h2.1, h2.2⟩ hp) (fun rv_ M_ hq_ => ?_)
  obtain ⟨rfl, rfl⟩ := hq_
  refine E_aload_n (pc := 6) rfl dX4_binds_6 ?_
  refine E_iload_n (pc := 7) rfl dX4_binds_7 ?_
  refine E_aload_n (pc := 8) rfl dX4_binds_8 ?_
  obtain ⟨c4, hc, h⟩ := bd_some h
  obtain ⟨hc, he⟩ := chkP_of hc
  rcases (by simpa using hc : c4 = 4) with rfl
  · obtain ⟨v3, s2, hp, h⟩ := bd2_some h
    refine E_callV (pc := 9) (As := [_, _]) (fc := (4, 88)) s4_15_4 oX8_binds dX4_binds_9 (mem_ob he) rfl rfl (Nat.le_of_ble_eq_true rfl) rfl rfl (by decide) (e_X8_binds ⟨h2.1, h2.2⟩ hp) (fun rv_ M_ hq_ => ?_)
    obtain ⟨rfl, rfl⟩ := hq_
    refine E_ineg (pc := 12) dX4_binds_12 ?_
    exact E_ireturn (pc := 13) rfl rfl dX4_binds_13 (QI_of h)
noncomputable def f_V_binds (c : Nat) (p0 : Nat) (x1 : Int32) (a2 n2 : Nat) (σ : ST) : Option (Int32 × ST) := if c = 4 then f_X4_binds p0 x1 a2 n2 σ else if c = 8 then f_X8_binds p0 x1 a2 n2 σ else if c = 9 then f_X6_binds p0 x1 a2 n2 σ else f_X6_binds p0 x1 a2 n2 σ
theorem f_V_binds_6 {p0 : Nat} {x1 : Int32} {a2 n2 : Nat} {σ : ST} : f_V_binds 6 p0 x1 a2 n2 σ = f_X6_binds p0 x1 a2 n2 σ := rfl
theorem f_V_binds_4 {p0 : Nat} {x1 : Int32} {a2 n2 : Nat} {σ : ST} : f_V_binds 4 p0 x1 a2 n2 σ = f_X4_binds p0 x1 a2 n2 σ := rfl
theorem f_V_binds_8 {p0 : Nat} {x1 : Int32} {a2 n2 : Nat} {σ : ST} : f_V_binds 8 p0 x1 a2 n2 σ = f_X8_binds p0 x1 a2 n2 σ := rfl
theorem f_V_binds_9 {p0 : Nat} {x1 : Int32} {a2 n2 : Nat} {σ : ST} : f_V_binds 9 p0 x1 a2 n2 σ = f_X6_binds p0 x1 a2 n2 σ := rfl
noncomputable def f_X6_init (p0 : Nat) (x1 : Int32) (x2 : Int32) (x3 : Int32) (x4 : Int32) (σ : ST) : Option ST :=
    (chkP [6, 4, 8, 9] σ p0).bind fun c2 =>
    (f_X6_init_ p0 x1 (nI 0) x2 x3 x3 (nI 0) x4 σ).bind fun s1 =>
    some s1
theorem e_X6_init {G : GP} {p0 : Nat} {x1 : Int32} {x2 : Int32} {x3 : Int32} {x4 : Int32} {σ : ST} {s : ST}  (h : f_X6_init p0 x1 x2 x3 x4 σ = some s) : E G mX6_init (2, 47) 0 [.ref p0, .int x1, .int x2, .int x3, .int x4] [] (mem σ) (QV s) := by
  unfold f_X6_init at h
  refine E_aload_n (pc := 0) rfl dX6_init_0 ?_
  refine E_iload_n (pc := 1) rfl dX6_init_1 ?_
  refine E_iconst (pc := 2) 0 rfl dX6_init_2 ?_
  refine E_iload_n (pc := 3) rfl dX6_init_3 ?_
  refine E_iload_n (pc := 4) rfl dX6_init_4 ?_
  refine E_iload_n (pc := 5) rfl dX6_init_5 ?_
  refine E_iconst (pc := 6) 0 rfl dX6_init_6 ?_
  refine E_iload (pc := 7) rfl dX6_init_7 ?_
  obtain ⟨c2, hc, h⟩ := bd_some h
  obtain ⟨hc, he⟩ := chkP_of hc
  rcases (by simpa using hc : c2 = 6 ∨ c2 = 4 ∨ c2 = 8 ∨ c2 = 9) with rfl | rfl | rfl | rfl
  · obtain ⟨s1, hp, h⟩ := bd_some h
    refine E_callV (pc := 9) (As := [_, _, _, _, _, _, _]) (fc := (1, 20)) s6_3_6 oX6_init_ dX6_init_9 (mem_ob he) rfl rfl (Nat.le_of_ble_eq_true rfl) rfl rfl (by decide) (e_X6_init_  hp) (fun rv_ M_ hq_ => ?_)
    obtain ⟨rfl, rfl⟩ := hq_
    exact E_return (pc := 12) rfl dX6_init_12 (QV_of h)
  · obtain ⟨s1, hp, h⟩ := bd_some h
    refine E_callV (pc := 9) (As := [_, _, _, _, _, _, _]) (fc := (1, 20)) s6_3_4 oX6_init_ dX6_init_9 (mem_ob he) rfl rfl (Nat.le_of_ble_eq_true rfl) rfl rfl (by decide) (e_X6_init_  hp) (fun rv_ M_ hq_ => ?_)
    obtain ⟨rfl, rfl⟩ := hq_
    exact E_return (pc := 12) rfl dX6_init_12 (QV_of h)
  · obtain ⟨s1, hp, h⟩ := bd_some h
    refine E_callV (pc := 9) (As := [_, _, _, _, _, _, _]) (fc := (1, 20)) s6_3_8 oX6_init_ dX6_init_9 (mem_ob he) rfl rfl (Nat.le_of_ble_eq_true rfl) rfl rfl (by decide) (e_X6_init_  hp) (fun rv_ M_ hq_ => ?_)
    obtain ⟨rfl, rfl⟩ := hq_
    exact E_return (pc := 12) rfl dX6_init_12 (QV_of h)
  · obtain ⟨s1, hp, h⟩ := bd_some h
    refine E_callV (pc := 9) (As := [_, _, _, _, _, _, _]) (fc := (1, 20)) s6_3_9 oX6_init_ dX6_init_9 (mem_ob he) rfl rfl (Nat.le_of_ble_eq_true rfl) rfl rfl (by decide) (e_X6_init_  hp) (fun rv_ M_ hq_ => ?_)
    obtain ⟨rfl, rfl⟩ := hq_
    exact E_return (pc := 12) rfl dX6_init_12 (QV_of h)
noncomputable def f_X6_weighs (p0 : Nat) (x1 : Int32) (a2 : Nat) (n2 : Nat) (σ : ST) : Option (Int32 × ST) :=
    (f_X6_begin (nI 12) a2 n2 σ).bind fun s1 =>
    (chkP [6, 4, 8, 9] s1 p0).bind fun c4 =>
    bd2 (f_V_binds c4 p0 x1 a2 n2 s1) fun v3 s2 =>
    (rdP [6, 4, 8, 9] s2 p0 0).bind fun v5 =>
    (chkP [6, 4, 8, 9] s2 p0).bind fun c8 =>
    bd2 (f_V_tells c8 p0 (x1 - v5) a2 n2 s2) fun v7 s6 =>
    some ((v3 ^^^ v7), s6)
theorem e_X6_weighs {G : GP} {p0 : Nat} {x1 : Int32} {a2 : Nat} {n2 : Nat} {σ : ST} {v : Int32} {s : ST} (h2 : slT[a2]? = some (0, n2, []) ∧ n2 < 2 ^ 31) (h : f_X6_weighs p0 x1 a2 n2 σ = some (v, s)) : E G mX6_weighs (6, 132) 0 [.ref p0, .int x1, .ref a2, D0] [] (mem σ) (QI v s) := by
  unfold f_X6_weighs at h
  refine E_bipush (pc := 0) (nI 12) (by decide) dX6_weighs_0 ?_
  refine E_aload_n (pc := 2) rfl dX6_weighs_2 ?_
  obtain ⟨s1, hp, h⟩ := bd_some h
  refine E_callS (pc := 3) (As := [_, _]) (fc := (0, 0)) s6_36 oX6_begin dX6_weighs_3 rfl rfl (Nat.le_of_ble_eq_true rfl) rfl rfl (by decide) (e_X6_begin ⟨h2.1, h2.2⟩ hp) (fun rv_ M_ hq_ => ?_)
  obtain ⟨rfl, rfl⟩ := hq_
  refine E_aload_n (pc := 6) rfl dX6_weighs_6 ?_
  refine E_iload_n (pc := 7) rfl dX6_weighs_7 ?_
  refine E_aload_n (pc := 8) rfl dX6_weighs_8 ?_
  obtain ⟨c4, hc, h⟩ := bd_some h
  obtain ⟨hc, he⟩ := chkP_of hc
  rcases (by simpa using hc : c4 = 6 ∨ c4 = 4 ∨ c4 = 8 ∨ c4 = 9) with rfl | rfl | rfl | rfl
  · obtain ⟨v3, s2, hp, h⟩ := bd2_some h
    refine E_callV (pc := 9) (As := [_, _]) (fc := (3, 66)) s6_44_6 oX6_binds dX6_weighs_9 (mem_ob he) rfl rfl (Nat.le_of_ble_eq_true rfl) rfl rfl (by decide) (e_X6_binds ⟨h2.1, h2.2⟩ (f_V_binds_6.symm.trans hp)) (fun rv_ M_ hq_ => ?_)
    obtain ⟨rfl, rfl⟩ := hq_
    refine E_istore_n (pc := 12) (L2 := [_, _, _, _]) rfl rfl dX6_weighs_12 ?_
    refine E_iload_n (pc := 13) rfl dX6_weighs_13 ?_
    refine E_aload_n (pc := 14) rfl dX6_weighs_14 ?_
    refine E_iload_n (pc := 15) rfl dX6_weighs_15 ?_
    refine E_aload_n (pc := 16) rfl dX6_weighs_16 ?_
    refine T_getP (pc := 17) f6_14 dX6_weighs_17 (by decide) h (fun v5 h => ?_)
    refine E_isub (pc := 20) dX6_weighs_20 ?_
    refine E_aload_n (pc := 21) rfl dX6_weighs_21 ?_
    obtain ⟨c8, hc, h⟩ := bd_some h
    obtain ⟨hc, he⟩ := chkP_of hc
    rcases (by simpa using hc : c8 = 6 ∨ c8 = 4 ∨ c8 = 8 ∨ c8 = 9) with rfl | rfl | rfl | rfl
    · obtain ⟨v7, s6, hp, h⟩ := bd2_some h
      refine E_callV (pc := 22) (As := [_, _]) (fc := (1, 22)) s6_40_6 oX6_tells dX6_weighs_22 (mem_ob he) rfl rfl (Nat.le_of_ble_eq_true rfl) rfl rfl (by decide) (e_X6_tells ⟨h2.1, h2.2⟩ (f_V_tells_6.symm.trans hp)) (fun rv_ M_ hq_ => ?_)
      obtain ⟨rfl, rfl⟩ := hq_
      refine E_ixor (pc := 25) dX6_weighs_25 ?_
      exact E_ireturn (pc := 26) rfl rfl dX6_weighs_26 (QI_of h)
    · obtain ⟨v7, s6, hp, h⟩ := bd2_some h
      refine E_callV (pc := 22) (As := [_, _]) (fc := (2, 44)) s6_40_4 oX4_tells dX6_weighs_22 (mem_ob he) rfl rfl (Nat.le_of_ble_eq_true rfl) rfl rfl (by decide) (e_X4_tells ⟨h2.1, h2.2⟩ (f_V_tells_4.symm.trans hp)) (fun rv_ M_ hq_ => ?_)
      obtain ⟨rfl, rfl⟩ := hq_
      refine E_ixor (pc := 25) dX6_weighs_25 ?_
      exact E_ireturn (pc := 26) rfl rfl dX6_weighs_26 (QI_of h)
    · obtain ⟨v7, s6, hp, h⟩ := bd2_some h
      refine E_callV (pc := 22) (As := [_, _]) (fc := (1, 22)) s6_40_8 oX6_tells dX6_weighs_22 (mem_ob he) rfl rfl (Nat.le_of_ble_eq_true rfl) rfl rfl (by decide) (e_X6_tells ⟨h2.1, h2.2⟩ (f_V_tells_8.symm.trans hp)) (fun rv_ M_ hq_ => ?_)
      obtain ⟨rfl, rfl⟩ := hq_
      refine E_ixor (pc := 25) dX6_weighs_25 ?_
      exact E_ireturn (pc := 26) rfl rfl dX6_weighs_26 (QI_of h)
    · obtain ⟨v7, s6, hp, h⟩ := bd2_some h
      refine E_callV (pc := 22) (As := [_, _]) (fc := (2, 44)) s6_40_9 oX9_tells dX6_weighs_22 (mem_ob he) rfl rfl (Nat.le_of_ble_eq_true rfl) rfl rfl (by decide) (e_X9_tells ⟨h2.1, h2.2⟩ (f_V_tells_9.symm.trans hp)) (fun rv_ M_ hq_ => ?_)
      obtain ⟨rfl, rfl⟩ := hq_
      refine E_ixor (pc := 25) dX6_weighs_25 ?_
      exact E_ireturn (pc := 26) rfl rfl dX6_weighs_26 (QI_of h)
  · obtain ⟨v3, s2, hp, h⟩ := bd2_some h
    refine E_callV (pc := 9) (As := [_, _]) (fc := (5, 110)) s6_44_4 oX4_binds dX6_weighs_9 (mem_ob he) rfl rfl (Nat.le_of_ble_eq_true rfl) rfl rfl (by decide) (e_X4_binds ⟨h2.1, h2.2⟩ (f_V_binds_4.symm.trans hp)) (fun rv_ M_ hq_ => ?_)
    obtain ⟨rfl, rfl⟩ := hq_
    refine E_istore_n (pc := 12) (L2 := [_, _, _, _]) rfl rfl dX6_weighs_12 ?_
    refine E_iload_n (pc := 13) rfl dX6_weighs_13 ?_
    refine E_aload_n (pc := 14) rfl dX6_weighs_14 ?_
    refine E_iload_n (pc := 15) rfl dX6_weighs_15 ?_
    refine E_aload_n (pc := 16) rfl dX6_weighs_16 ?_
    refine T_getP (pc := 17) f6_14 dX6_weighs_17 (by decide) h (fun v5 h => ?_)
    refine E_isub (pc := 20) dX6_weighs_20 ?_
    refine E_aload_n (pc := 21) rfl dX6_weighs_21 ?_
    obtain ⟨c8, hc, h⟩ := bd_some h
    obtain ⟨hc, he⟩ := chkP_of hc
    rcases (by simpa using hc : c8 = 6 ∨ c8 = 4 ∨ c8 = 8 ∨ c8 = 9) with rfl | rfl | rfl | rfl
    · obtain ⟨v7, s6, hp, h⟩ := bd2_some h
      refine E_callV (pc := 22) (As := [_, _]) (fc := (1, 22)) s6_40_6 oX6_tells dX6_weighs_22 (mem_ob he) rfl rfl (Nat.le_of_ble_eq_true rfl) rfl rfl (by decide) (e_X6_tells ⟨h2.1, h2.2⟩ (f_V_tells_6.symm.trans hp)) (fun rv_ M_ hq_ => ?_)
      obtain ⟨rfl, rfl⟩ := hq_
      refine E_ixor (pc := 25) dX6_weighs_25 ?_
      exact E_ireturn (pc := 26) rfl rfl dX6_weighs_26 (QI_of h)
    · obtain ⟨v7, s6, hp, h⟩ := bd2_some h
      refine E_callV (pc := 22) (As := [_, _]) (fc := (2, 44)) s6_40_4 oX4_tells dX6_weighs_22 (mem_ob he) rfl rfl (Nat.le_of_ble_eq_true rfl) rfl rfl (by decide) (e_X4_tells ⟨h2.1, h2.2⟩ (f_V_tells_4.symm.trans hp)) (fun rv_ M_ hq_ => ?_)
      obtain ⟨rfl, rfl⟩ := hq_
      refine E_ixor (pc := 25) dX6_weighs_25 ?_
      exact E_ireturn (pc := 26) rfl rfl dX6_weighs_26 (QI_of h)
    · obtain ⟨v7, s6, hp, h⟩ := bd2_some h
      refine E_callV (pc := 22) (As := [_, _]) (fc := (1, 22)) s6_40_8 oX6_tells dX6_weighs_22 (mem_ob he) rfl rfl (Nat.le_of_ble_eq_true rfl) rfl rfl (by decide) (e_X6_tells ⟨h2.1, h2.2⟩ (f_V_tells_8.symm.trans hp)) (fun rv_ M_ hq_ => ?_)
      obtain ⟨rfl, rfl⟩ := hq_
      refine E_ixor (pc := 25) dX6_weighs_25 ?_
      exact E_ireturn (pc := 26) rfl rfl dX6_weighs_26 (QI_of h)
    · obtain ⟨v7, s6, hp, h⟩ := bd2_some h
      refine E_callV (pc := 22) (As := [_, _]) (fc := (2, 44)) s6_40_9 oX9_tells dX6_weighs_22 (mem_ob he) rfl rfl (Nat.le_of_ble_eq_true rfl) rfl rfl (by decide) (e_X9_tells ⟨h2.1, h2.2⟩ (f_V_tells_9.symm.trans hp)) (fun rv_ M_ hq_ => ?_)
      obtain ⟨rfl, rfl⟩ := hq_
      refine E_ixor (pc := 25) dX6_weighs_25 ?_
      exact E_ireturn (pc := 26) rfl rfl dX6_weighs_26 (QI_of h)
  · obtain ⟨v3, s2, hp, h⟩ := bd2_some h
    refine E_callV (pc := 9) (As := [_, _]) (fc := (4, 88)) s6_44_8 oX8_binds dX6_weighs_9 (mem_ob he) rfl rfl (Nat.le_of_ble_eq_true rfl) rfl rfl (by decide) (e_X8_binds ⟨h2.1, h2.2⟩ (f_V_binds_8.symm.trans hp)) (fun rv_ M_ hq_ => ?_)
    obtain ⟨rfl, rfl⟩ := hq_
    refine E_istore_n (pc := 12) (L2 := [_, _, _, _]) rfl rfl dX6_weighs_12 ?_
    refine E_iload_n (pc := 13) rfl dX6_weighs_13 ?_
    refine E_aload_n (pc := 14) rfl dX6_weighs_14 ?_
    refine E_iload_n (pc := 15) rfl dX6_weighs_15 ?_
    refine E_aload_n (pc := 16) rfl dX6_weighs_16 ?_
    refine T_getP (pc := 17) f6_14 dX6_weighs_17 (by decide) h (fun v5 h => ?_)
    refine E_isub (pc := 20) dX6_weighs_20 ?_
    refine E_aload_n (pc := 21) rfl dX6_weighs_21 ?_
    obtain ⟨c8, hc, h⟩ := bd_some h
    obtain ⟨hc, he⟩ := chkP_of hc
    rcases (by simpa using hc : c8 = 6 ∨ c8 = 4 ∨ c8 = 8 ∨ c8 = 9) with rfl | rfl | rfl | rfl
    · obtain ⟨v7, s6, hp, h⟩ := bd2_some h
      refine E_callV (pc := 22) (As := [_, _]) (fc := (1, 22)) s6_40_6 oX6_tells dX6_weighs_22 (mem_ob he) rfl rfl (Nat.le_of_ble_eq_true rfl) rfl rfl (by decide) (e_X6_tells ⟨h2.1, h2.2⟩ (f_V_tells_6.symm.trans hp)) (fun rv_ M_ hq_ => ?_)
      obtain ⟨rfl, rfl⟩ := hq_
      refine E_ixor (pc := 25) dX6_weighs_25 ?_
      exact E_ireturn (pc := 26) rfl rfl dX6_weighs_26 (QI_of h)
    · obtain ⟨v7, s6, hp, h⟩ := bd2_some h
      refine E_callV (pc := 22) (As := [_, _]) (fc := (2, 44)) s6_40_4 oX4_tells dX6_weighs_22 (mem_ob he) rfl rfl (Nat.le_of_ble_eq_true rfl) rfl rfl (by decide) (e_X4_tells ⟨h2.1, h2.2⟩ (f_V_tells_4.symm.trans hp)) (fun rv_ M_ hq_ => ?_)
      obtain ⟨rfl, rfl⟩ := hq_
      refine E_ixor (pc := 25) dX6_weighs_25 ?_
      exact E_ireturn (pc := 26) rfl rfl dX6_weighs_26 (QI_of h)
    · obtain ⟨v7, s6, hp, h⟩ := bd2_some h
      refine E_callV (pc := 22) (As := [_, _]) (fc := (1, 22)) s6_40_8 oX6_tells dX6_weighs_22 (mem_ob he) rfl rfl (Nat.le_of_ble_eq_true rfl) rfl rfl (by decide) (e_X6_tells ⟨h2.1, h2.2⟩ (f_V_tells_8.symm.trans hp)) (fun rv_ M_ hq_ => ?_)
      obtain ⟨rfl, rfl⟩ := hq_
      refine E_ixor (pc := 25) dX6_weighs_25 ?_
      exact E_ireturn (pc := 26) rfl rfl dX6_weighs_26 (QI_of h)
    · obtain ⟨v7, s6, hp, h⟩ := bd2_some h
      refine E_callV (pc := 22) (As := [_, _]) (fc := (2, 44)) s6_40_9 oX9_tells dX6_weighs_22 (mem_ob he) rfl rfl (Nat.le_of_ble_eq_true rfl) rfl rfl (by decide) (e_X9_tells ⟨h2.1, h2.2⟩ (f_V_tells_9.symm.trans hp)) (fun rv_ M_ hq_ => ?_)
      obtain ⟨rfl, rfl⟩ := hq_
      refine E_ixor (pc := 25) dX6_weighs_25 ?_
      exact E_ireturn (pc := 26) rfl rfl dX6_weighs_26 (QI_of h)
  · obtain ⟨v3, s2, hp, h⟩ := bd2_some h
    refine E_callV (pc := 9) (As := [_, _]) (fc := (3, 66)) s6_44_9 oX6_binds dX6_weighs_9 (mem_ob he) rfl rfl (Nat.le_of_ble_eq_true rfl) rfl rfl (by decide) (e_X6_binds ⟨h2.1, h2.2⟩ (f_V_binds_9.symm.trans hp)) (fun rv_ M_ hq_ => ?_)
    obtain ⟨rfl, rfl⟩ := hq_
    refine E_istore_n (pc := 12) (L2 := [_, _, _, _]) rfl rfl dX6_weighs_12 ?_
    refine E_iload_n (pc := 13) rfl dX6_weighs_13 ?_
    refine E_aload_n (pc := 14) rfl dX6_weighs_14 ?_
    refine E_iload_n (pc := 15) rfl dX6_weighs_15 ?_
    refine E_aload_n (pc := 16) rfl dX6_weighs_16 ?_
    refine T_getP (pc := 17) f6_14 dX6_weighs_17 (by decide) h (fun v5 h => ?_)
    refine E_isub (pc := 20) dX6_weighs_20 ?_
    refine E_aload_n (pc := 21) rfl dX6_weighs_21 ?_
    obtain ⟨c8, hc, h⟩ := bd_some h
    obtain ⟨hc, he⟩ := chkP_of hc
    rcases (by simpa using hc : c8 = 6 ∨ c8 = 4 ∨ c8 = 8 ∨ c8 = 9) with rfl | rfl | rfl | rfl
    · obtain ⟨v7, s6, hp, h⟩ := bd2_some h
      refine E_callV (pc := 22) (As := [_, _]) (fc := (1, 22)) s6_40_6 oX6_tells dX6_weighs_22 (mem_ob he) rfl rfl (Nat.le_of_ble_eq_true rfl) rfl rfl (by decide) (e_X6_tells ⟨h2.1, h2.2⟩ (f_V_tells_6.symm.trans hp)) (fun rv_ M_ hq_ => ?_)
      obtain ⟨rfl, rfl⟩ := hq_
      refine E_ixor (pc := 25) dX6_weighs_25 ?_
      exact E_ireturn (pc := 26) rfl rfl dX6_weighs_26 (QI_of h)
    · obtain ⟨v7, s6, hp, h⟩ := bd2_some h
      refine E_callV (pc := 22) (As := [_, _]) (fc := (2, 44)) s6_40_4 oX4_tells dX6_weighs_22 (mem_ob he) rfl rfl (Nat.le_of_ble_eq_true rfl) rfl rfl (by decide) (e_X4_tells ⟨h2.1, h2.2⟩ (f_V_tells_4.symm.trans hp)) (fun rv_ M_ hq_ => ?_)
      obtain ⟨rfl, rfl⟩ := hq_
      refine E_ixor (pc := 25) dX6_weighs_25 ?_
      exact E_ireturn (pc := 26) rfl rfl dX6_weighs_26 (QI_of h)
    · obtain ⟨v7, s6, hp, h⟩ := bd2_some h
      refine E_callV (pc := 22) (As := [_, _]) (fc := (1, 22)) s6_40_8 oX6_tells dX6_weighs_22 (mem_ob he) rfl rfl (Nat.le_of_ble_eq_true rfl) rfl rfl (by decide) (e_X6_tells ⟨h2.1, h2.2⟩ (f_V_tells_8.symm.trans hp)) (fun rv_ M_ hq_ => ?_)
      obtain ⟨rfl, rfl⟩ := hq_
      refine E_ixor (pc := 25) dX6_weighs_25 ?_
      exact E_ireturn (pc := 26) rfl rfl dX6_weighs_26 (QI_of h)
    · obtain ⟨v7, s6, hp, h⟩ := bd2_some h
      refine E_callV (pc := 22) (As := [_, _]) (fc := (2, 44)) s6_40_9 oX9_tells dX6_weighs_22 (mem_ob he) rfl rfl (Nat.le_of_ble_eq_true rfl) rfl rfl (by decide) (e_X9_tells ⟨h2.1, h2.2⟩ (f_V_tells_9.symm.trans hp)) (fun rv_ M_ hq_ => ?_)
      obtain ⟨rfl, rfl⟩ := hq_
      refine E_ixor (pc := 25) dX6_weighs_25 ?_
      exact E_ireturn (pc := 26) rfl rfl dX6_weighs_26 (QI_of h)
noncomputable def f_X8_init (p0 : Nat) (x1 : Int32) (x2 : Int32) (x3 : Int32) (x4 : Int32) (x5 : Int32) (σ : ST) : Option ST :=
    (chkP [8, 4] σ p0).bind fun c2 =>
    (f_X6_init_ p0 x1 (nI 1) x2 x3 x4 (nI 0) x5 σ).bind fun s1 =>
    some s1
theorem e_X8_init {G : GP} {p0 : Nat} {x1 : Int32} {x2 : Int32} {x3 : Int32} {x4 : Int32} {x5 : Int32} {σ : ST} {s : ST}  (h : f_X8_init p0 x1 x2 x3 x4 x5 σ = some s) : E G mX8_init (2, 47) 0 [.ref p0, .int x1, .int x2, .int x3, .int x4, .int x5] [] (mem σ) (QV s) := by
  unfold f_X8_init at h
  refine E_aload_n (pc := 0) rfl dX8_init_0 ?_
  refine E_iload_n (pc := 1) rfl dX8_init_1 ?_
  refine E_iconst (pc := 2) 1 rfl dX8_init_2 ?_
  refine E_iload_n (pc := 3) rfl dX8_init_3 ?_
  refine E_iload_n (pc := 4) rfl dX8_init_4 ?_
  refine E_iload (pc := 5) rfl dX8_init_5 ?_
  refine E_iconst (pc := 7) 0 rfl dX8_init_7 ?_
  refine E_iload (pc := 8) rfl dX8_init_8 ?_
  obtain ⟨c2, hc, h⟩ := bd_some h
  obtain ⟨hc, he⟩ := chkP_of hc
  rcases (by simpa using hc : c2 = 8 ∨ c2 = 4) with rfl | rfl
  · obtain ⟨s1, hp, h⟩ := bd_some h
    refine E_callV (pc := 10) (As := [_, _, _, _, _, _, _]) (fc := (1, 20)) s8_3_8 oX6_init_ dX8_init_10 (mem_ob he) rfl rfl (Nat.le_of_ble_eq_true rfl) rfl rfl (by decide) (e_X6_init_  hp) (fun rv_ M_ hq_ => ?_)
    obtain ⟨rfl, rfl⟩ := hq_
    exact E_return (pc := 13) rfl dX8_init_13 (QV_of h)
  · obtain ⟨s1, hp, h⟩ := bd_some h
    refine E_callV (pc := 10) (As := [_, _, _, _, _, _, _]) (fc := (1, 20)) s8_3_4 oX6_init_ dX8_init_10 (mem_ob he) rfl rfl (Nat.le_of_ble_eq_true rfl) rfl rfl (by decide) (e_X6_init_  hp) (fun rv_ M_ hq_ => ?_)
    obtain ⟨rfl, rfl⟩ := hq_
    exact E_return (pc := 13) rfl dX8_init_13 (QV_of h)
noncomputable def f_X9_init (p0 : Nat) (x1 : Int32) (x2 : Int32) (x3 : Int32) (x4 : Int32) (x5 : Int32) (x6 : Int32) (σ : ST) : Option ST :=
    (chkP [9] σ p0).bind fun c2 =>
    (f_X6_init_ p0 x1 (nI 2) x2 x3 x4 x5 x6 σ).bind fun s1 =>
    some s1
theorem e_X9_init {G : GP} {p0 : Nat} {x1 : Int32} {x2 : Int32} {x3 : Int32} {x4 : Int32} {x5 : Int32} {x6 : Int32} {σ : ST} {s : ST}  (h : f_X9_init p0 x1 x2 x3 x4 x5 x6 σ = some s) : E G mX9_init (2, 47) 0 [.ref p0, .int x1, .int x2, .int x3, .int x4, .int x5, .int x6] [] (mem σ) (QV s) := by
  unfold f_X9_init at h
  refine E_aload_n (pc := 0) rfl dX9_init_0 ?_
  refine E_iload_n (pc := 1) rfl dX9_init_1 ?_
  refine E_iconst (pc := 2) 2 rfl dX9_init_2 ?_
  refine E_iload_n (pc := 3) rfl dX9_init_3 ?_
  refine E_iload_n (pc := 4) rfl dX9_init_4 ?_
  refine E_iload (pc := 5) rfl dX9_init_5 ?_
  refine E_iload (pc := 7) rfl dX9_init_7 ?_
  refine E_iload (pc := 9) rfl dX9_init_9 ?_
  obtain ⟨c2, hc, h⟩ := bd_some h
  obtain ⟨hc, he⟩ := chkP_of hc
  rcases (by simpa using hc : c2 = 9) with rfl
  · obtain ⟨s1, hp, h⟩ := bd_some h
    refine E_callV (pc := 11) (As := [_, _, _, _, _, _, _]) (fc := (1, 20)) s9_3_9 oX6_init_ dX9_init_11 (mem_ob he) rfl rfl (Nat.le_of_ble_eq_true rfl) rfl rfl (by decide) (e_X6_init_  hp) (fun rv_ M_ hq_ => ?_)
    obtain ⟨rfl, rfl⟩ := hq_
    exact E_return (pc := 14) rfl dX9_init_14 (QV_of h)
noncomputable def f_X9_weighs (p0 : Nat) (x1 : Int32) (a2 : Nat) (n2 : Nat) (σ : ST) : Option (Int32 × ST) :=
    (f_X6_begin (nI 31) a2 n2 σ).bind fun s1 =>
    (chkP [9] s1 p0).bind fun c4 =>
    bd2 (f_X6_weighs p0 x1 a2 n2 s1) fun v3 s2 =>
    (rdP [9] s2 p0 3).bind fun v5 =>
    some ((v3 - v5), s2)
theorem e_X9_weighs {G : GP} {p0 : Nat} {x1 : Int32} {a2 : Nat} {n2 : Nat} {σ : ST} {v : Int32} {s : ST} (h2 : slT[a2]? = some (0, n2, []) ∧ n2 < 2 ^ 31) (h : f_X9_weighs p0 x1 a2 n2 σ = some (v, s)) : E G mX9_weighs (7, 155) 0 [.ref p0, .int x1, .ref a2] [] (mem σ) (QI v s) := by
  unfold f_X9_weighs at h
  refine E_bipush (pc := 0) (nI 31) (by decide) dX9_weighs_0 ?_
  refine E_aload_n (pc := 2) rfl dX9_weighs_2 ?_
  obtain ⟨s1, hp, h⟩ := bd_some h
  refine E_callS (pc := 3) (As := [_, _]) (fc := (0, 0)) s9_9 oX6_begin dX9_weighs_3 rfl rfl (Nat.le_of_ble_eq_true rfl) rfl rfl (by decide) (e_X6_begin ⟨h2.1, h2.2⟩ hp) (fun rv_ M_ hq_ => ?_)
  obtain ⟨rfl, rfl⟩ := hq_
  refine E_aload_n (pc := 6) rfl dX9_weighs_6 ?_
  refine E_iload_n (pc := 7) rfl dX9_weighs_7 ?_
  refine E_aload_n (pc := 8) rfl dX9_weighs_8 ?_
  obtain ⟨c4, hc, h⟩ := bd_some h
  obtain ⟨hc, he⟩ := chkP_of hc
  rcases (by simpa using hc : c4 = 9) with rfl
  · obtain ⟨v3, s2, hp, h⟩ := bd2_some h
    refine E_callV (pc := 9) (As := [_, _]) (fc := (6, 132)) s9_19_9 oX6_weighs dX9_weighs_9 (mem_ob he) rfl rfl (Nat.le_of_ble_eq_true rfl) rfl rfl (by decide) (e_X6_weighs ⟨h2.1, h2.2⟩ hp) (fun rv_ M_ hq_ => ?_)
    obtain ⟨rfl, rfl⟩ := hq_
    refine E_aload_n (pc := 12) rfl dX9_weighs_12 ?_
    refine T_getP (pc := 13) f9_22 dX9_weighs_13 (by decide) h (fun v5 h => ?_)
    refine E_isub (pc := 16) dX9_weighs_16 ?_
    exact E_ireturn (pc := 17) rfl rfl dX9_weighs_17 (QI_of h)
noncomputable def f_V_weighs (c : Nat) (p0 : Nat) (x1 : Int32) (a2 n2 : Nat) (σ : ST) : Option (Int32 × ST) := if c = 4 then f_X6_weighs p0 x1 a2 n2 σ else if c = 8 then f_X6_weighs p0 x1 a2 n2 σ else if c = 9 then f_X9_weighs p0 x1 a2 n2 σ else f_X6_weighs p0 x1 a2 n2 σ
theorem f_V_weighs_6 {p0 : Nat} {x1 : Int32} {a2 n2 : Nat} {σ : ST} : f_V_weighs 6 p0 x1 a2 n2 σ = f_X6_weighs p0 x1 a2 n2 σ := rfl
theorem f_V_weighs_4 {p0 : Nat} {x1 : Int32} {a2 n2 : Nat} {σ : ST} : f_V_weighs 4 p0 x1 a2 n2 σ = f_X6_weighs p0 x1 a2 n2 σ := rfl
theorem f_V_weighs_8 {p0 : Nat} {x1 : Int32} {a2 n2 : Nat} {σ : ST} : f_V_weighs 8 p0 x1 a2 n2 σ = f_X6_weighs p0 x1 a2 n2 σ := rfl
theorem f_V_weighs_9 {p0 : Nat} {x1 : Int32} {a2 n2 : Nat} {σ : ST} : f_V_weighs 9 p0 x1 a2 n2 σ = f_X9_weighs p0 x1 a2 n2 σ := rfl
