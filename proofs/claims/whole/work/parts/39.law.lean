/-! ===== the law, once both objects stand ===== -/
noncomputable def f_L_law_582 (xs : Nat → Int32) (N : Nat) (k18 : Int32 → ST → Option (Int32 × ST)) (x3 : Int32) (z0 : Int32) (z2 : Int32) (z3 : Int32) (z4 : Int32) (sg : ST) : Option (Int32 × ST) :=
    bd2 (f_X12_happening z2 z3 z4 sg) fun v85 s84 =>
    if z0 = v85 then
    (k18 (x3 + nI 6) s84)
    else (some ((nI 0), s84))
theorem e_L_law_582 {G : GP} {k18 : Int32 → ST → Option (Int32 × ST)} {x3 : Int32} {z0 : Int32} {z2 : Int32} {z3 : Int32} {z4 : Int32} {sg : ST} {v : Int32} {s : ST} (hN : gN G ≤ 3072) (hk18 : ∀ {x3 : Int32} {sg : ST}, k18 x3 sg = some (v, s) → E G mL_law (11, 406) 18 [.retAddr 0, .ref 0, .ref 247, .int x3] [] (mem sg) (QI v s)) (h : f_L_law_582 (gX G) (gN G)  k18 x3 z0 z2 z3 z4 sg = some (v, s)) : E G mL_law (11, 406) 582 [.retAddr 0, .ref 0, .ref 247, .int x3] [.int z4, .int z3, .int z2, .ref 247, .int z0] (mem sg) (QI v s) := by
  unfold f_L_law_582 at h
  obtain ⟨v85, s84, hp, h⟩ := bd2_some h
  refine E_callV (pc := 582) (As := [_, _, _]) (fc := (4, 89)) s13_57_12 oX12_happening dL_law_582 (mem_ob (ent_st MO247)) rfl rfl (Nat.le_of_ble_eq_true rfl) rfl rfl (by decide) (e_X12_happening hp) (fun rv_ M_ hq_ => ?_)
  obtain ⟨rfl, rfl⟩ := hq_
  refine T_icmp_eq (pc := 585) 1537 dL_law_585 (by decide) h (fun h => ?_) (fun h => ?_)
  · refine T_iinc (pc := 1537) (m := 6) (L2 := [_, _, _, _]) rfl rfl rfl rfl dL_law_1537 ?_
    refine E_goto (pc := 1540) 18 (by decide) dL_law_1540 ?_
    exact hk18 h
  · refine E_iconst (pc := 588) 0 rfl dL_law_588 ?_
    exact E_ireturn (pc := 589) rfl (by decide) dL_law_589 (QI_of h)
noncomputable def f_L_law_555 (xs : Nat → Int32) (N : Nat) (k18 : Int32 → ST → Option (Int32 × ST)) (x3 : Int32) (z1 : Int32) (z2 : Int32) (z3 : Int32) (sg : ST) : Option (Int32 × ST) :=
    bd2 (f_X11_happening z1 z2 z3 sg) fun v80 s79 =>
    (rdX xs N (x3 + (nI 1))).bind fun v81 =>
    (rdX xs N (x3 + (nI 2))).bind fun v82 =>
    (rdX xs N (x3 + (nI 3))).bind fun v83 =>
    if v83 = 0 then
    (f_L_law_582 xs N k18 x3 v80 v81 v82 (nI 0) s79)
    else (f_L_law_582 xs N k18 x3 v80 v81 v82 (nI 1) s79)
theorem e_L_law_555 {G : GP} {k18 : Int32 → ST → Option (Int32 × ST)} {x3 : Int32} {z1 : Int32} {z2 : Int32} {z3 : Int32} {sg : ST} {v : Int32} {s : ST} (hN : gN G ≤ 3072) (hk18 : ∀ {x3 : Int32} {sg : ST}, k18 x3 sg = some (v, s) → E G mL_law (11, 406) 18 [.retAddr 0, .ref 0, .ref 247, .int x3] [] (mem sg) (QI v s)) (h : f_L_law_555 (gX G) (gN G)  k18 x3 z1 z2 z3 sg = some (v, s)) : E G mL_law (11, 406) 555 [.retAddr 0, .ref 0, .ref 247, .int x3] [.int z3, .int z2, .int z1, .ref 0] (mem sg) (QI v s) := by
  unfold f_L_law_555 at h
  obtain ⟨v80, s79, hp, h⟩ := bd2_some h
  refine E_callV (pc := 555) (As := [_, _, _]) (fc := (7, 156)) s13_53_11 oX11_happening dL_law_555 (mem_ob (ent_st SW0)) rfl rfl (Nat.le_of_ble_eq_true rfl) rfl rfl (by decide) (e_X11_happening hp) (fun rv_ M_ hq_ => ?_)
  obtain ⟨rfl, rfl⟩ := hq_
  refine E_aload_n (pc := 558) rfl dL_law_558 ?_
  refine E_aloadS (pc := 559) rfl dL_law_559 ?_
  refine E_iload_n (pc := 560) rfl dL_law_560 ?_
  refine E_iconst (pc := 561) 1 rfl dL_law_561 ?_
  refine E_iadd (pc := 562) dL_law_562 ?_
  refine T_sload (pc := 563) rfl hN dL_law_563 h (fun v81 h => ?_)
  refine E_aloadS (pc := 564) rfl dL_law_564 ?_
  refine E_iload_n (pc := 565) rfl dL_law_565 ?_
  refine E_iconst (pc := 566) 2 rfl dL_law_566 ?_
  refine E_iadd (pc := 567) dL_law_567 ?_
  refine T_sload (pc := 568) rfl hN dL_law_568 h (fun v82 h => ?_)
  refine E_aloadS (pc := 569) rfl dL_law_569 ?_
  refine E_iload_n (pc := 570) rfl dL_law_570 ?_
  refine E_iconst (pc := 571) 3 rfl dL_law_571 ?_
  refine E_iadd (pc := 572) dL_law_572 ?_
  refine T_sload (pc := 573) rfl hN dL_law_573 h (fun v83 h => ?_)
  refine T_if_eq (pc := 574) 581 dL_law_574 (by decide) h (fun h => ?_) (fun h => ?_)
  · refine E_iconst (pc := 581) 0 rfl dL_law_581 ?_
    refine e_L_law_582 hN (fun h => hk18 h) h
  · refine E_iconst (pc := 577) 1 rfl dL_law_577 ?_
    refine E_goto (pc := 578) 582 (by decide) dL_law_578 ?_
    refine e_L_law_582 hN (fun h => hk18 h) h
noncomputable def f_L_law_778 (xs : Nat → Int32) (N : Nat) (k18 : Int32 → ST → Option (Int32 × ST)) (x3 : Int32) (z0 : Int32) (z2 : Int32) (z3 : Int32) (z4 : Int32) (z5 : Int32) (sg : ST) : Option (Int32 × ST) :=
    (rdX xs N (x3 + (nI 5))).bind fun v127 =>
    bd2 (f_X12_span z2 z3 z4 z5 v127 sg) fun v129 s128 =>
    if z0 = v129 then
    (k18 (x3 + nI 6) s128)
    else (some ((nI 0), s128))
theorem e_L_law_778 {G : GP} {k18 : Int32 → ST → Option (Int32 × ST)} {x3 : Int32} {z0 : Int32} {z2 : Int32} {z3 : Int32} {z4 : Int32} {z5 : Int32} {sg : ST} {v : Int32} {s : ST} (hN : gN G ≤ 3072) (hk18 : ∀ {x3 : Int32} {sg : ST}, k18 x3 sg = some (v, s) → E G mL_law (11, 406) 18 [.retAddr 0, .ref 0, .ref 247, .int x3] [] (mem sg) (QI v s)) (h : f_L_law_778 (gX G) (gN G)  k18 x3 z0 z2 z3 z4 z5 sg = some (v, s)) : E G mL_law (11, 406) 778 [.retAddr 0, .ref 0, .ref 247, .int x3] [.int z5, .int z4, .int z3, .int z2, .ref 247, .int z0] (mem sg) (QI v s) := by
  unfold f_L_law_778 at h
  refine E_aloadS (pc := 778) rfl dL_law_778 ?_
  refine E_iload_n (pc := 779) rfl dL_law_779 ?_
  refine E_iconst (pc := 780) 5 rfl dL_law_780 ?_
  refine E_iadd (pc := 781) dL_law_781 ?_
  refine T_sload (pc := 782) rfl hN dL_law_782 h (fun v127 h => ?_)
  obtain ⟨v129, s128, hp, h⟩ := bd2_some h
  refine E_callV (pc := 783) (As := [_, _, _, _, _]) (fc := (2, 43)) s13_79_12 oX12_span dL_law_783 (mem_ob (ent_st MO247)) rfl rfl (Nat.le_of_ble_eq_true rfl) rfl rfl (by decide) (e_X12_span hp) (fun rv_ M_ hq_ => ?_)
  obtain ⟨rfl, rfl⟩ := hq_
  refine T_icmp_eq (pc := 786) 1537 dL_law_786 (by decide) h (fun h => ?_) (fun h => ?_)
  · refine T_iinc (pc := 1537) (m := 6) (L2 := [_, _, _, _]) rfl rfl rfl rfl dL_law_1537 ?_
    refine E_goto (pc := 1540) 18 (by decide) dL_law_1540 ?_
    exact hk18 h
  · refine E_iconst (pc := 789) 0 rfl dL_law_789 ?_
    exact E_ireturn (pc := 790) rfl (by decide) dL_law_790 (QI_of h)
noncomputable def f_L_law_741 (xs : Nat → Int32) (N : Nat) (k18 : Int32 → ST → Option (Int32 × ST)) (x3 : Int32) (z1 : Int32) (z2 : Int32) (z3 : Int32) (z4 : Int32) (sg : ST) : Option (Int32 × ST) :=
    (rdX xs N (x3 + (nI 5))).bind fun v120 =>
    bd2 (f_X11_span z1 z2 z3 z4 v120 sg) fun v122 s121 =>
    (rdX xs N (x3 + (nI 1))).bind fun v123 =>
    (rdX xs N (x3 + (nI 2))).bind fun v124 =>
    (rdX xs N (x3 + (nI 3))).bind fun v125 =>
    (rdX xs N (x3 + (nI 4))).bind fun v126 =>
    if v126 = 0 then
    (f_L_law_778 xs N k18 x3 v122 v123 v124 v125 (nI 0) s121)
    else (f_L_law_778 xs N k18 x3 v122 v123 v124 v125 (nI 1) s121)
theorem e_L_law_741 {G : GP} {k18 : Int32 → ST → Option (Int32 × ST)} {x3 : Int32} {z1 : Int32} {z2 : Int32} {z3 : Int32} {z4 : Int32} {sg : ST} {v : Int32} {s : ST} (hN : gN G ≤ 3072) (hk18 : ∀ {x3 : Int32} {sg : ST}, k18 x3 sg = some (v, s) → E G mL_law (11, 406) 18 [.retAddr 0, .ref 0, .ref 247, .int x3] [] (mem sg) (QI v s)) (h : f_L_law_741 (gX G) (gN G)  k18 x3 z1 z2 z3 z4 sg = some (v, s)) : E G mL_law (11, 406) 741 [.retAddr 0, .ref 0, .ref 247, .int x3] [.int z4, .int z3, .int z2, .int z1, .ref 0] (mem sg) (QI v s) := by
  unfold f_L_law_741 at h
  refine E_aloadS (pc := 741) rfl dL_law_741 ?_
  refine E_iload_n (pc := 742) rfl dL_law_742 ?_
  refine E_iconst (pc := 743) 5 rfl dL_law_743 ?_
  refine E_iadd (pc := 744) dL_law_744 ?_
  refine T_sload (pc := 745) rfl hN dL_law_745 h (fun v120 h => ?_)
  obtain ⟨v122, s121, hp, h⟩ := bd2_some h
  refine E_callV (pc := 746) (As := [_, _, _, _, _]) (fc := (6, 151)) s13_75_11 oX11_span dL_law_746 (mem_ob (ent_st SW0)) rfl rfl (Nat.le_of_ble_eq_true rfl) rfl rfl (by decide) (e_X11_span hp) (fun rv_ M_ hq_ => ?_)
  obtain ⟨rfl, rfl⟩ := hq_
  refine E_aload_n (pc := 749) rfl dL_law_749 ?_
  refine E_aloadS (pc := 750) rfl dL_law_750 ?_
  refine E_iload_n (pc := 751) rfl dL_law_751 ?_
  refine E_iconst (pc := 752) 1 rfl dL_law_752 ?_
  refine E_iadd (pc := 753) dL_law_753 ?_
  refine T_sload (pc := 754) rfl hN dL_law_754 h (fun v123 h => ?_)
  refine E_aloadS (pc := 755) rfl dL_law_755 ?_
  refine E_iload_n (pc := 756) rfl dL_law_756 ?_
  refine E_iconst (pc := 757) 2 rfl dL_law_757 ?_
  refine E_iadd (pc := 758) dL_law_758 ?_
  refine T_sload (pc := 759) rfl hN dL_law_759 h (fun v124 h => ?_)
  refine E_aloadS (pc := 760) rfl dL_law_760 ?_
  refine E_iload_n (pc := 761) rfl dL_law_761 ?_
  refine E_iconst (pc := 762) 3 rfl dL_law_762 ?_
  refine E_iadd (pc := 763) dL_law_763 ?_
  refine T_sload (pc := 764) rfl hN dL_law_764 h (fun v125 h => ?_)
  refine E_aloadS (pc := 765) rfl dL_law_765 ?_
  refine E_iload_n (pc := 766) rfl dL_law_766 ?_
  refine E_iconst (pc := 767) 4 rfl dL_law_767 ?_
  refine E_iadd (pc := 768) dL_law_768 ?_
  refine T_sload (pc := 769) rfl hN dL_law_769 h (fun v126 h => ?_)
  refine T_if_eq (pc := 770) 777 dL_law_770 (by decide) h (fun h => ?_) (fun h => ?_)
  · refine E_iconst (pc := 777) 0 rfl dL_law_777 ?_
    refine e_L_law_778 hN (fun h => hk18 h) h
  · refine E_iconst (pc := 773) 1 rfl dL_law_773 ?_
    refine E_goto (pc := 774) 778 (by decide) dL_law_774 ?_
    refine e_L_law_778 hN (fun h => hk18 h) h
noncomputable def f_L_law_948 (xs : Nat → Int32) (N : Nat) (k18 : Int32 → ST → Option (Int32 × ST)) (x3 : Int32) (z0 : Int32) (z2 : Int32) (z3 : Int32) (sg : ST) : Option (Int32 × ST) :=
    bd2 (f_X12_by z2 z3 sg) fun v163 s162 =>
    if z0 = v163 then
    (k18 (x3 + nI 6) s162)
    else (some ((nI 0), s162))
theorem e_L_law_948 {G : GP} {k18 : Int32 → ST → Option (Int32 × ST)} {x3 : Int32} {z0 : Int32} {z2 : Int32} {z3 : Int32} {sg : ST} {v : Int32} {s : ST} (hN : gN G ≤ 3072) (hk18 : ∀ {x3 : Int32} {sg : ST}, k18 x3 sg = some (v, s) → E G mL_law (11, 406) 18 [.retAddr 0, .ref 0, .ref 247, .int x3] [] (mem sg) (QI v s)) (h : f_L_law_948 (gX G) (gN G)  k18 x3 z0 z2 z3 sg = some (v, s)) : E G mL_law (11, 406) 948 [.retAddr 0, .ref 0, .ref 247, .int x3] [.int z3, .int z2, .ref 247, .int z0] (mem sg) (QI v s) := by
  unfold f_L_law_948 at h
  obtain ⟨v163, s162, hp, h⟩ := bd2_some h
  refine E_callV (pc := 948) (As := [_, _]) (fc := (1, 21)) s13_93_12 oX12_by dL_law_948 (mem_ob (ent_st MO247)) rfl rfl (Nat.le_of_ble_eq_true rfl) rfl rfl (by decide) (e_X12_by hp) (fun rv_ M_ hq_ => ?_)
  obtain ⟨rfl, rfl⟩ := hq_
  refine T_icmp_eq (pc := 951) 1537 dL_law_951 (by decide) h (fun h => ?_) (fun h => ?_)
  · refine T_iinc (pc := 1537) (m := 6) (L2 := [_, _, _, _]) rfl rfl rfl rfl dL_law_1537 ?_
    refine E_goto (pc := 1540) 18 (by decide) dL_law_1540 ?_
    exact hk18 h
  · refine E_iconst (pc := 954) 0 rfl dL_law_954 ?_
    exact E_ireturn (pc := 955) rfl (by decide) dL_law_955 (QI_of h)
noncomputable def f_L_law_926 (xs : Nat → Int32) (N : Nat) (k18 : Int32 → ST → Option (Int32 × ST)) (x3 : Int32) (z1 : Int32) (z2 : Int32) (sg : ST) : Option (Int32 × ST) :=
    bd2 (f_X11_by z1 z2 sg) fun v159 s158 =>
    (rdX xs N (x3 + (nI 1))).bind fun v160 =>
    (rdX xs N (x3 + (nI 2))).bind fun v161 =>
    if v161 = 0 then
    (f_L_law_948 xs N k18 x3 v159 v160 (nI 0) s158)
    else (f_L_law_948 xs N k18 x3 v159 v160 (nI 1) s158)
theorem e_L_law_926 {G : GP} {k18 : Int32 → ST → Option (Int32 × ST)} {x3 : Int32} {z1 : Int32} {z2 : Int32} {sg : ST} {v : Int32} {s : ST} (hN : gN G ≤ 3072) (hk18 : ∀ {x3 : Int32} {sg : ST}, k18 x3 sg = some (v, s) → E G mL_law (11, 406) 18 [.retAddr 0, .ref 0, .ref 247, .int x3] [] (mem sg) (QI v s)) (h : f_L_law_926 (gX G) (gN G)  k18 x3 z1 z2 sg = some (v, s)) : E G mL_law (11, 406) 926 [.retAddr 0, .ref 0, .ref 247, .int x3] [.int z2, .int z1, .ref 0] (mem sg) (QI v s) := by
  unfold f_L_law_926 at h
  obtain ⟨v159, s158, hp, h⟩ := bd2_some h
  refine E_callV (pc := 926) (As := [_, _]) (fc := (1, 22)) s13_89_11 oX11_by dL_law_926 (mem_ob (ent_st SW0)) rfl rfl (Nat.le_of_ble_eq_true rfl) rfl rfl (by decide) (e_X11_by hp) (fun rv_ M_ hq_ => ?_)
  obtain ⟨rfl, rfl⟩ := hq_
  refine E_aload_n (pc := 929) rfl dL_law_929 ?_
  refine E_aloadS (pc := 930) rfl dL_law_930 ?_
  refine E_iload_n (pc := 931) rfl dL_law_931 ?_
  refine E_iconst (pc := 932) 1 rfl dL_law_932 ?_
  refine E_iadd (pc := 933) dL_law_933 ?_
  refine T_sload (pc := 934) rfl hN dL_law_934 h (fun v160 h => ?_)
  refine E_aloadS (pc := 935) rfl dL_law_935 ?_
  refine E_iload_n (pc := 936) rfl dL_law_936 ?_
  refine E_iconst (pc := 937) 2 rfl dL_law_937 ?_
  refine E_iadd (pc := 938) dL_law_938 ?_
  refine T_sload (pc := 939) rfl hN dL_law_939 h (fun v161 h => ?_)
  refine T_if_eq (pc := 940) 947 dL_law_940 (by decide) h (fun h => ?_) (fun h => ?_)
  · refine E_iconst (pc := 947) 0 rfl dL_law_947 ?_
    refine e_L_law_948 hN (fun h => hk18 h) h
  · refine E_iconst (pc := 943) 1 rfl dL_law_943 ?_
    refine E_goto (pc := 944) 948 (by decide) dL_law_944 ?_
    refine e_L_law_948 hN (fun h => hk18 h) h
noncomputable def f_L_law_18 (xs : Nat → Int32) (N : Nat) : Nat → Int32 → ST → Option (Int32 × ST)
  | 0, _, _ => none
  | n + 1, x3, sg =>
    if ((nI N) - (nI 6)) < x3 then
    (some ((nI 1), sg))
    else ((rdX xs N x3).bind fun v1 =>
    if (v1 &&& (nI 63)) = nI 0 then
    ((rdX xs N (x3 + (nI 1))).bind fun v2 =>
    (rdX xs N (x3 + (nI 2))).bind fun v3 =>
    (rdX xs N (x3 + (nI 3))).bind fun v4 =>
    bd2 (f_X11_row v2 v3 v4 sg) fun v6 s5 =>
    (rdX xs N (x3 + (nI 1))).bind fun v7 =>
    (rdX xs N (x3 + (nI 2))).bind fun v8 =>
    (rdX xs N (x3 + (nI 3))).bind fun v9 =>
    bd2 (f_X12_row v7 v8 v9 s5) fun v11 s10 =>
    if v6 = v11 then
    ((f_L_law_18 xs N n) (x3 + nI 6) s10)
    else (some ((nI 0), s10)))
    else if (v1 &&& (nI 63)) = nI 1 then
    ((rdX xs N (x3 + (nI 1))).bind fun v12 =>
    (rdX xs N (x3 + (nI 2))).bind fun v13 =>
    (rdX xs N (x3 + (nI 3))).bind fun v14 =>
    (rdX xs N (x3 + (nI 4))).bind fun v15 =>
    bd2 (f_X11_set v12 v13 ((((v14).toInt64) <<< (((nI 32)).toInt64 &&& 63)) ||| (((v15).toInt64) &&& (4294967295))) sg) fun v17 s16 =>
    (rdX xs N (x3 + (nI 1))).bind fun v18 =>
    (rdX xs N (x3 + (nI 2))).bind fun v19 =>
    (rdX xs N (x3 + (nI 3))).bind fun v20 =>
    (rdX xs N (x3 + (nI 4))).bind fun v21 =>
    bd2 (f_X12_set v18 v19 ((((v20).toInt64) <<< (((nI 32)).toInt64 &&& 63)) ||| (((v21).toInt64) &&& (4294967295))) s16) fun v23 s22 =>
    if v17 = v23 then
    ((f_L_law_18 xs N n) (x3 + nI 6) s22)
    else (some ((nI 0), s22)))
    else if (v1 &&& (nI 63)) = nI 2 then
    ((rdX xs N (x3 + (nI 1))).bind fun v24 =>
    (rdX xs N (x3 + (nI 2))).bind fun v25 =>
    (rdX xs N (x3 + (nI 3))).bind fun v26 =>
    (rdX xs N (x3 + (nI 4))).bind fun v27 =>
    (rdX xs N (x3 + (nI 5))).bind fun v28 =>
    bd2 (f_X11_copy v24 v25 v26 v27 v28 sg) fun v30 s29 =>
    (rdX xs N (x3 + (nI 1))).bind fun v31 =>
    (rdX xs N (x3 + (nI 2))).bind fun v32 =>
    (rdX xs N (x3 + (nI 3))).bind fun v33 =>
    (rdX xs N (x3 + (nI 4))).bind fun v34 =>
    (rdX xs N (x3 + (nI 5))).bind fun v35 =>
    bd2 (f_X12_copy v31 v32 v33 v34 v35 s29) fun v37 s36 =>
    if v30 = v37 then
    ((f_L_law_18 xs N n) (x3 + nI 6) s36)
    else (some ((nI 0), s36)))
    else if (v1 &&& (nI 63)) = nI 3 then
    ((rdX xs N (x3 + (nI 1))).bind fun v38 =>
    (rdX xs N (x3 + (nI 2))).bind fun v39 =>
    bd2 (f_X11_element v38 v39 sg) fun v41 s40 =>
    (rdX xs N (x3 + (nI 1))).bind fun v42 =>
    (rdX xs N (x3 + (nI 2))).bind fun v43 =>
    bd2 (f_X12_element v42 v43 s40) fun v45 s44 =>
    if (lg_cmp v41 v45) = 0 then
    ((f_L_law_18 xs N n) (x3 + nI 6) s44)
    else (some ((nI 0), s44)))
    else if (v1 &&& (nI 63)) = nI 4 then
    ((rdX xs N (x3 + (nI 1))).bind fun v46 =>
    (rdX xs N (x3 + (nI 2))).bind fun v47 =>
    bd2 (f_X11_show v46 v47 sg) fun v49 s48 =>
    (rdX xs N (x3 + (nI 1))).bind fun v50 =>
    (rdX xs N (x3 + (nI 2))).bind fun v51 =>
    bd2 (f_X12_show v50 v51 s48) fun v53 s52 =>
    if v49 = v53 then
    ((f_L_law_18 xs N n) (x3 + nI 6) s52)
    else (some ((nI 0), s52)))
    else if (v1 &&& (nI 63)) = nI 5 then
    ((rdX xs N (x3 + (nI 1))).bind fun v54 =>
    bd2 (f_X11_holds v54 sg) fun v56 s55 =>
    (rdX xs N (x3 + (nI 1))).bind fun v57 =>
    bd2 (f_X12_holds v57 s55) fun v59 s58 =>
    if v56 = v59 then
    ((f_L_law_18 xs N n) (x3 + nI 6) s58)
    else (some ((nI 0), s58)))
    else if (v1 &&& (nI 63)) = nI 6 then
    ((rdX xs N (x3 + (nI 1))).bind fun v60 =>
    (rdX xs N (x3 + (nI 2))).bind fun v61 =>
    bd2 (f_X11_says v60 v61 sg) fun v63 s62 =>
    (rdX xs N (x3 + (nI 1))).bind fun v64 =>
    (rdX xs N (x3 + (nI 2))).bind fun v65 =>
    bd2 (f_X12_says v64 v65 s62) fun v67 s66 =>
    if v63 = v67 then
    ((f_L_law_18 xs N n) (x3 + nI 6) s66)
    else (some ((nI 0), s66)))
    else if (v1 &&& (nI 63)) = nI 7 then
    ((rdX xs N (x3 + (nI 1))).bind fun v68 =>
    (rdX xs N (x3 + (nI 2))).bind fun v69 =>
    bd2 (f_X11_thing v68 v69 sg) fun v71 s70 =>
    (rdX xs N (x3 + (nI 1))).bind fun v72 =>
    (rdX xs N (x3 + (nI 2))).bind fun v73 =>
    bd2 (f_X12_thing v72 v73 s70) fun v75 s74 =>
    if v71 = v75 then
    ((f_L_law_18 xs N n) (x3 + nI 6) s74)
    else (some ((nI 0), s74)))
    else if (v1 &&& (nI 63)) = nI 8 then
    ((rdX xs N (x3 + (nI 1))).bind fun v76 =>
    (rdX xs N (x3 + (nI 2))).bind fun v77 =>
    (rdX xs N (x3 + (nI 3))).bind fun v78 =>
    if v78 = 0 then
    (f_L_law_555 xs N (f_L_law_18 xs N n) x3 v76 v77 (nI 0) sg)
    else (f_L_law_555 xs N (f_L_law_18 xs N n) x3 v76 v77 (nI 1) sg))
    else if (v1 &&& (nI 63)) = nI 9 then
    (bd2 (f_X11_fault sg) fun v87 s86 =>
    bd2 (f_X12_fault s86) fun v89 s88 =>
    if v87 = v89 then
    ((f_L_law_18 xs N n) (x3 + nI 6) s88)
    else (some ((nI 0), s88)))
    else if (v1 &&& (nI 63)) = nI 10 then
    ((rdX xs N (x3 + (nI 1))).bind fun v90 =>
    (rdX xs N (x3 + (nI 2))).bind fun v91 =>
    bd2 (f_X11_price v90 v91 sg) fun v93 s92 =>
    (rdX xs N (x3 + (nI 1))).bind fun v94 =>
    (rdX xs N (x3 + (nI 2))).bind fun v95 =>
    bd2 (f_X12_price v94 v95 s92) fun v97 s96 =>
    if v93 = v97 then
    ((f_L_law_18 xs N n) (x3 + nI 6) s96)
    else (some ((nI 0), s96)))
    else if (v1 &&& (nI 63)) = nI 11 then
    ((rdX xs N (x3 + (nI 1))).bind fun v98 =>
    (rdX xs N (x3 + (nI 2))).bind fun v99 =>
    bd2 (f_X11_weigh v98 v99 sg) fun v101 s100 =>
    (rdX xs N (x3 + (nI 1))).bind fun v102 =>
    (rdX xs N (x3 + (nI 2))).bind fun v103 =>
    bd2 (f_X12_weigh v102 v103 s100) fun v105 s104 =>
    if v101 = v105 then
    ((f_L_law_18 xs N n) (x3 + nI 6) s104)
    else (some ((nI 0), s104)))
    else if (v1 &&& (nI 63)) = nI 12 then
    ((rdX xs N (x3 + (nI 1))).bind fun v106 =>
    (rdX xs N (x3 + (nI 2))).bind fun v107 =>
    (rdX xs N (x3 + (nI 3))).bind fun v108 =>
    bd2 (f_X11_seen v106 v107 v108 sg) fun v110 s109 =>
    (rdX xs N (x3 + (nI 1))).bind fun v111 =>
    (rdX xs N (x3 + (nI 2))).bind fun v112 =>
    (rdX xs N (x3 + (nI 3))).bind fun v113 =>
    bd2 (f_X12_seen v111 v112 v113 s109) fun v115 s114 =>
    if v110 = v115 then
    ((f_L_law_18 xs N n) (x3 + nI 6) s114)
    else (some ((nI 0), s114)))
    else if (v1 &&& (nI 63)) = nI 13 then
    ((rdX xs N (x3 + (nI 1))).bind fun v116 =>
    (rdX xs N (x3 + (nI 2))).bind fun v117 =>
    (rdX xs N (x3 + (nI 3))).bind fun v118 =>
    (rdX xs N (x3 + (nI 4))).bind fun v119 =>
    if v119 = 0 then
    (f_L_law_741 xs N (f_L_law_18 xs N n) x3 v116 v117 v118 (nI 0) sg)
    else (f_L_law_741 xs N (f_L_law_18 xs N n) x3 v116 v117 v118 (nI 1) sg))
    else if (v1 &&& (nI 63)) = nI 14 then
    ((rdX xs N (x3 + (nI 1))).bind fun v130 =>
    (rdX xs N (x3 + (nI 2))).bind fun v131 =>
    (rdX xs N (x3 + (nI 3))).bind fun v132 =>
    (rdX xs N (x3 + (nI 4))).bind fun v133 =>
    (rdX xs N (x3 + (nI 5))).bind fun v134 =>
    bd2 (f_X11_was v130 v131 v132 v133 v134 sg) fun v136 s135 =>
    (rdX xs N (x3 + (nI 1))).bind fun v137 =>
    (rdX xs N (x3 + (nI 2))).bind fun v138 =>
    (rdX xs N (x3 + (nI 3))).bind fun v139 =>
    (rdX xs N (x3 + (nI 4))).bind fun v140 =>
    (rdX xs N (x3 + (nI 5))).bind fun v141 =>
    bd2 (f_X12_was v137 v138 v139 v140 v141 s135) fun v143 s142 =>
    if v136 = v143 then
    ((f_L_law_18 xs N n) (x3 + nI 6) s142)
    else (some ((nI 0), s142)))
    else if (v1 &&& (nI 63)) = nI 15 then
    ((rdX xs N (x3 + (nI 1))).bind fun v144 =>
    (rdX xs N (x3 + (nI 2))).bind fun v145 =>
    (rdX xs N (x3 + (nI 3))).bind fun v146 =>
    (rdX xs N (x3 + (nI 4))).bind fun v147 =>
    bd2 (f_X11_sheet v144 v145 v146 v147 sg) fun v149 s148 =>
    (rdX xs N (x3 + (nI 1))).bind fun v150 =>
    (rdX xs N (x3 + (nI 2))).bind fun v151 =>
    (rdX xs N (x3 + (nI 3))).bind fun v152 =>
    (rdX xs N (x3 + (nI 4))).bind fun v153 =>
    bd2 (f_X12_sheet v150 v151 v152 v153 s148) fun v155 s154 =>
    if v149 = v155 then
    ((f_L_law_18 xs N n) (x3 + nI 6) s154)
    else (some ((nI 0), s154)))
    else if (v1 &&& (nI 63)) = nI 16 then
    ((rdX xs N (x3 + (nI 1))).bind fun v156 =>
    (rdX xs N (x3 + (nI 2))).bind fun v157 =>
    if v157 = 0 then
    (f_L_law_926 xs N (f_L_law_18 xs N n) x3 v156 (nI 0) sg)
    else (f_L_law_926 xs N (f_L_law_18 xs N n) x3 v156 (nI 1) sg))
    else if (v1 &&& (nI 63)) = nI 17 then
    ((rdX xs N (x3 + (nI 1))).bind fun v164 =>
    (rdX xs N (x3 + (nI 2))).bind fun v165 =>
    bd2 (f_X11_pieceOf v164 v165 sg) fun v167 s166 =>
    (rdX xs N (x3 + (nI 1))).bind fun v168 =>
    (rdX xs N (x3 + (nI 2))).bind fun v169 =>
    bd2 (f_X12_pieceOf v168 v169 s166) fun v171 s170 =>
    if v167 = v171 then
    ((f_L_law_18 xs N n) (x3 + nI 6) s170)
    else (some ((nI 0), s170)))
    else if (v1 &&& (nI 63)) = nI 18 then
    (bd2 (f_X11_least sg) fun v173 s172 =>
    bd2 (f_X12_least s172) fun v175 s174 =>
    if v173 = v175 then
    ((f_L_law_18 xs N n) (x3 + nI 6) s174)
    else (some ((nI 0), s174)))
    else if (v1 &&& (nI 63)) = nI 19 then
    (bd2 (f_X11_courses sg) fun v177 s176 =>
    bd2 (f_X12_courses s176) fun v179 s178 =>
    if (lg_cmp v177 v179) = 0 then
    ((f_L_law_18 xs N n) (x3 + nI 6) s178)
    else (some ((nI 0), s178)))
    else if (v1 &&& (nI 63)) = nI 20 then
    ((rdX xs N (x3 + (nI 1))).bind fun v180 =>
    (rdX xs N (x3 + (nI 2))).bind fun v181 =>
    bd2 (f_X11_is v180 v181 sg) fun v183 s182 =>
    (rdX xs N (x3 + (nI 1))).bind fun v184 =>
    (rdX xs N (x3 + (nI 2))).bind fun v185 =>
    bd2 (f_X12_is v184 v185 s182) fun v187 s186 =>
    if v183 = v187 then
    ((f_L_law_18 xs N n) (x3 + nI 6) s186)
    else (some ((nI 0), s186)))
    else if (v1 &&& (nI 63)) = nI 21 then
    ((rdX xs N (x3 + (nI 1))).bind fun v188 =>
    (rdX xs N (x3 + (nI 2))).bind fun v189 =>
    bd2 (f_X11_value v188 v189 sg) fun v191 s190 =>
    (rdX xs N (x3 + (nI 1))).bind fun v192 =>
    (rdX xs N (x3 + (nI 2))).bind fun v193 =>
    bd2 (f_X12_value v192 v193 s190) fun v195 s194 =>
    if v191 = v195 then
    ((f_L_law_18 xs N n) (x3 + nI 6) s194)
    else (some ((nI 0), s194)))
    else if (v1 &&& (nI 63)) = nI 22 then
    ((rdX xs N (x3 + (nI 1))).bind fun v196 =>
    (rdX xs N (x3 + (nI 2))).bind fun v197 =>
    bd2 (f_X11_why v196 v197 sg) fun v199 s198 =>
    (rdX xs N (x3 + (nI 1))).bind fun v200 =>
    (rdX xs N (x3 + (nI 2))).bind fun v201 =>
    bd2 (f_X12_why v200 v201 s198) fun v203 s202 =>
    if v199 = v203 then
    ((f_L_law_18 xs N n) (x3 + nI 6) s202)
    else (some ((nI 0), s202)))
    else if (v1 &&& (nI 63)) = nI 23 then
    (bd2 (f_X11_quarrel sg) fun v205 s204 =>
    bd2 (f_X12_quarrel s204) fun v207 s206 =>
    if v205 = v207 then
    ((f_L_law_18 xs N n) (x3 + nI 6) s206)
    else (some ((nI 0), s206)))
    else if (v1 &&& (nI 63)) = nI 24 then
    (bd2 (f_X11_out sg) fun v209 s208 =>
    bd2 (f_X12_out s208) fun v211 s210 =>
    if v209 = v211 then
    ((f_L_law_18 xs N n) (x3 + nI 6) s210)
    else (some ((nI 0), s210)))
    else if (v1 &&& (nI 63)) = nI 25 then
    ((rdX xs N (x3 + (nI 1))).bind fun v212 =>
    (rdX xs N (x3 + (nI 2))).bind fun v213 =>
    (rdX xs N (x3 + (nI 3))).bind fun v214 =>
    bd2 (f_X11_must v212 v213 v214 sg) fun v216 s215 =>
    (rdX xs N (x3 + (nI 1))).bind fun v217 =>
    (rdX xs N (x3 + (nI 2))).bind fun v218 =>
    (rdX xs N (x3 + (nI 3))).bind fun v219 =>
    bd2 (f_X12_must v217 v218 v219 s215) fun v221 s220 =>
    if v216 = v221 then
    ((f_L_law_18 xs N n) (x3 + nI 6) s220)
    else (some ((nI 0), s220)))
    else if (v1 &&& (nI 63)) = nI 26 then
    ((rdX xs N (x3 + (nI 1))).bind fun v222 =>
    bd2 (f_X11_could v222 sg) fun v224 s223 =>
    (rdX xs N (x3 + (nI 1))).bind fun v225 =>
    bd2 (f_X12_could v225 s223) fun v227 s226 =>
    if v224 = v227 then
    ((f_L_law_18 xs N n) (x3 + nI 6) s226)
    else (some ((nI 0), s226)))
    else if (v1 &&& (nI 63)) = nI 27 then
    ((rdX xs N (x3 + (nI 1))).bind fun v228 =>
    (rdX xs N (x3 + (nI 2))).bind fun v229 =>
    (rdX xs N (x3 + (nI 3))).bind fun v230 =>
    bd2 (f_X11_ever v228 v229 v230 sg) fun v232 s231 =>
    (rdX xs N (x3 + (nI 1))).bind fun v233 =>
    (rdX xs N (x3 + (nI 2))).bind fun v234 =>
    (rdX xs N (x3 + (nI 3))).bind fun v235 =>
    bd2 (f_X12_ever v233 v234 v235 s231) fun v237 s236 =>
    if v232 = v237 then
    ((f_L_law_18 xs N n) (x3 + nI 6) s236)
    else (some ((nI 0), s236)))
    else if (v1 &&& (nI 63)) = nI 28 then
    ((rdX xs N (x3 + (nI 1))).bind fun v238 =>
    (rdX xs N (x3 + (nI 2))).bind fun v239 =>
    (rdX xs N (x3 + (nI 3))).bind fun v240 =>
    bd2 (f_X11_howLong v238 v239 v240 sg) fun v242 s241 =>
    (rdX xs N (x3 + (nI 1))).bind fun v243 =>
    (rdX xs N (x3 + (nI 2))).bind fun v244 =>
    (rdX xs N (x3 + (nI 3))).bind fun v245 =>
    bd2 (f_X12_howLong v243 v244 v245 s241) fun v247 s246 =>
    if v242 = v247 then
    ((f_L_law_18 xs N n) (x3 + nI 6) s246)
    else (some ((nI 0), s246)))
    else if (v1 &&& (nI 63)) = nI 29 then
    ((rdX xs N (x3 + (nI 1))).bind fun v248 =>
    (rdX xs N (x3 + (nI 2))).bind fun v249 =>
    bd2 (f_X11_since v248 v249 sg) fun v251 s250 =>
    (rdX xs N (x3 + (nI 1))).bind fun v252 =>
    (rdX xs N (x3 + (nI 2))).bind fun v253 =>
    bd2 (f_X12_since v252 v253 s250) fun v255 s254 =>
    if v251 = v255 then
    ((f_L_law_18 xs N n) (x3 + nI 6) s254)
    else (some ((nI 0), s254)))
    else if (v1 &&& (nI 63)) = nI 30 then
    ((rdX xs N (x3 + (nI 1))).bind fun v256 =>
    (rdX xs N (x3 + (nI 2))).bind fun v257 =>
    (rdX xs N (x3 + (nI 3))).bind fun v258 =>
    bd2 (f_X11_plan v256 v257 v258 sg) fun v260 s259 =>
    (rdX xs N (x3 + (nI 1))).bind fun v261 =>
    (rdX xs N (x3 + (nI 2))).bind fun v262 =>
    (rdX xs N (x3 + (nI 3))).bind fun v263 =>
    bd2 (f_X12_plan v261 v262 v263 s259) fun v265 s264 =>
    if v260 = v265 then
    ((f_L_law_18 xs N n) (x3 + nI 6) s264)
    else (some ((nI 0), s264)))
    else if (v1 &&& (nI 63)) = nI 31 then
    ((rdX xs N (x3 + (nI 1))).bind fun v266 =>
    (rdX xs N (x3 + (nI 2))).bind fun v267 =>
    (rdX xs N (x3 + (nI 3))).bind fun v268 =>
    (rdX xs N (x3 + (nI 4))).bind fun v269 =>
    bd2 (f_X11_seemed v266 v267 v268 v269 sg) fun v271 s270 =>
    (rdX xs N (x3 + (nI 1))).bind fun v272 =>
    (rdX xs N (x3 + (nI 2))).bind fun v273 =>
    (rdX xs N (x3 + (nI 3))).bind fun v274 =>
    (rdX xs N (x3 + (nI 4))).bind fun v275 =>
    bd2 (f_X12_seemed v272 v273 v274 v275 s270) fun v277 s276 =>
    if v271 = v277 then
    ((f_L_law_18 xs N n) (x3 + nI 6) s276)
    else (some ((nI 0), s276)))
    else if (v1 &&& (nI 63)) = nI 32 then
    ((rdX xs N (x3 + (nI 1))).bind fun v278 =>
    (rdX xs N (x3 + (nI 2))).bind fun v279 =>
    (rdX xs N (x3 + (nI 3))).bind fun v280 =>
    bd2 (f_X11_act v278 v279 v280 sg) fun v282 s281 =>
    (rdX xs N (x3 + (nI 1))).bind fun v283 =>
    (rdX xs N (x3 + (nI 2))).bind fun v284 =>
    (rdX xs N (x3 + (nI 3))).bind fun v285 =>
    bd2 (f_X12_act v283 v284 v285 s281) fun v287 s286 =>
    if v282 = v287 then
    ((f_L_law_18 xs N n) (x3 + nI 6) s286)
    else (some ((nI 0), s286)))
    else if (v1 &&& (nI 63)) = nI 33 then
    ((rdX xs N (x3 + (nI 1))).bind fun v288 =>
    bd2 (f_X11_trace v288 sg) fun v290 s289 =>
    (rdX xs N (x3 + (nI 1))).bind fun v291 =>
    bd2 (f_X12_trace v291 s289) fun v293 s292 =>
    if v290 = v293 then
    ((f_L_law_18 xs N n) (x3 + nI 6) s292)
    else (some ((nI 0), s292)))
    else if (v1 &&& (nI 63)) = nI 34 then
    (bd2 (f_X11_image sg) fun v295 s294 =>
    bd2 (f_X12_image s294) fun v297 s296 =>
    if v295 = v297 then
    ((f_L_law_18 xs N n) (x3 + nI 6) s296)
    else (some ((nI 0), s296)))
    else if (v1 &&& (nI 63)) = nI 35 then
    (bd2 (f_X11_restore sg) fun v299 s298 =>
    bd2 (f_X12_restore s298) fun v301 s300 =>
    if v299 = v301 then
    ((f_L_law_18 xs N n) (x3 + nI 6) s300)
    else (some ((nI 0), s300)))
    else if (v1 &&& (nI 63)) = nI 36 then
    ((rdX xs N (x3 + (nI 1))).bind fun v302 =>
    bd2 (f_X11_status v302 sg) fun v304 s303 =>
    (rdX xs N (x3 + (nI 1))).bind fun v305 =>
    bd2 (f_X12_status v305 s303) fun v307 s306 =>
    if v304 = v307 then
    ((f_L_law_18 xs N n) (x3 + nI 6) s306)
    else (some ((nI 0), s306)))
    else ((f_L_law_18 xs N n) (x3 + nI 6) sg))
theorem e_L_law_18 {G : GP} {v : Int32} {s : ST} (hN : gN G ≤ 3072) : ∀ (n : Nat) {x3 : Int32} {sg : ST}, f_L_law_18 (gX G) (gN G) n x3 sg = some (v, s) → E G mL_law (11, 406) 18 [.retAddr 0, .ref 0, .ref 247, .int x3] [] (mem sg) (QI v s) := by
  intro n
  induction n with
  | zero => intro _ _ h; rw [f_L_law_18] at h; cases h
  | succ n ih =>
    intro x3 sg h
    rw [f_L_law_18] at h
    refine E_iload_n (pc := 18) rfl dL_law_18 ?_
    refine E_aloadS (pc := 19) rfl dL_law_19 ?_
    refine E_slen (pc := 20) rfl dL_law_20 ?_
    refine E_bipush (pc := 21) (nI 6) (by decide) dL_law_21 ?_
    refine E_isub (pc := 23) dL_law_23 ?_
    refine T_icmp_gt (pc := 24) 1543 dL_law_24 (by decide) h (fun h => ?_) (fun h => ?_)
    · refine E_iconst (pc := 1543) 1 rfl dL_law_1543 ?_
      exact E_ireturn (pc := 1544) rfl (by decide) dL_law_1544 (QI_of h)
    · refine E_aloadS (pc := 27) rfl dL_law_27 ?_
      refine E_iload_n (pc := 28) rfl dL_law_28 ?_
      refine T_sload (pc := 29) rfl hN dL_law_29 h (fun v1 h => ?_)
      refine E_bipush (pc := 30) (nI 63) (by decide) dL_law_30 ?_
      refine E_iand (pc := 32) dL_law_32 ?_
      refine T_tbl (pc := 33) (m := 0) 196 (by omega) (by decide) (by decide) dL_law_33 rfl (by decide) h (fun h => ?_) (fun u33_0 h => ?_)
      · refine E_aload_n (pc := 196) rfl dL_law_196 ?_
        refine E_aloadS (pc := 197) rfl dL_law_197 ?_
        refine E_iload_n (pc := 198) rfl dL_law_198 ?_
        refine E_iconst (pc := 199) 1 rfl dL_law_199 ?_
        refine E_iadd (pc := 200) dL_law_200 ?_
        refine T_sload (pc := 201) rfl hN dL_law_201 h (fun v2 h => ?_)
        refine E_aloadS (pc := 202) rfl dL_law_202 ?_
        refine E_iload_n (pc := 203) rfl dL_law_203 ?_
        refine E_iconst (pc := 204) 2 rfl dL_law_204 ?_
        refine E_iadd (pc := 205) dL_law_205 ?_
        refine T_sload (pc := 206) rfl hN dL_law_206 h (fun v3 h => ?_)
        refine E_aloadS (pc := 207) rfl dL_law_207 ?_
        refine E_iload_n (pc := 208) rfl dL_law_208 ?_
        refine E_iconst (pc := 209) 3 rfl dL_law_209 ?_
        refine E_iadd (pc := 210) dL_law_210 ?_
        refine T_sload (pc := 211) rfl hN dL_law_211 h (fun v4 h => ?_)
        obtain ⟨v6, s5, hp, h⟩ := bd2_some h
        refine E_callV (pc := 212) (As := [_, _, _]) (fc := (2, 46)) s13_13_11 oX11_row dL_law_212 (mem_ob (ent_st SW0)) rfl rfl (Nat.le_of_ble_eq_true rfl) rfl rfl (by decide) (e_X11_row hp) (fun rv_ M_ hq_ => ?_)
        obtain ⟨rfl, rfl⟩ := hq_
        refine E_aload_n (pc := 215) rfl dL_law_215 ?_
        refine E_aloadS (pc := 216) rfl dL_law_216 ?_
        refine E_iload_n (pc := 217) rfl dL_law_217 ?_
        refine E_iconst (pc := 218) 1 rfl dL_law_218 ?_
        refine E_iadd (pc := 219) dL_law_219 ?_
        refine T_sload (pc := 220) rfl hN dL_law_220 h (fun v7 h => ?_)
        refine E_aloadS (pc := 221) rfl dL_law_221 ?_
        refine E_iload_n (pc := 222) rfl dL_law_222 ?_
        refine E_iconst (pc := 223) 2 rfl dL_law_223 ?_
        refine E_iadd (pc := 224) dL_law_224 ?_
        refine T_sload (pc := 225) rfl hN dL_law_225 h (fun v8 h => ?_)
        refine E_aloadS (pc := 226) rfl dL_law_226 ?_
        refine E_iload_n (pc := 227) rfl dL_law_227 ?_
        refine E_iconst (pc := 228) 3 rfl dL_law_228 ?_
        refine E_iadd (pc := 229) dL_law_229 ?_
        refine T_sload (pc := 230) rfl hN dL_law_230 h (fun v9 h => ?_)
        obtain ⟨v11, s10, hp, h⟩ := bd2_some h
        refine E_callV (pc := 231) (As := [_, _, _]) (fc := (1, 21)) s13_17_12 oX12_row dL_law_231 (mem_ob (ent_st MO247)) rfl rfl (Nat.le_of_ble_eq_true rfl) rfl rfl (by decide) (e_X12_row hp) (fun rv_ M_ hq_ => ?_)
        obtain ⟨rfl, rfl⟩ := hq_
        refine T_icmp_eq (pc := 234) 1537 dL_law_234 (by decide) h (fun h => ?_) (fun h => ?_)
        · refine T_iinc (pc := 1537) (m := 6) (L2 := [_, _, _, _]) rfl rfl rfl rfl dL_law_1537 ?_
          refine E_goto (pc := 1540) 18 (by decide) dL_law_1540 ?_
          exact ih h
        · refine E_iconst (pc := 237) 0 rfl dL_law_237 ?_
          exact E_ireturn (pc := 238) rfl (by decide) dL_law_238 (QI_of h)
      refine T_tbl (pc := 33) (m := 1) 239 (by omega) (by decide) (by decide) dL_law_33 rfl (by decide) h (fun h => ?_) (fun u33_1 h => ?_)
      · refine E_aload_n (pc := 239) rfl dL_law_239 ?_
        refine E_aloadS (pc := 240) rfl dL_law_240 ?_
        refine E_iload_n (pc := 241) rfl dL_law_241 ?_
        refine E_iconst (pc := 242) 1 rfl dL_law_242 ?_
        refine E_iadd (pc := 243) dL_law_243 ?_
        refine T_sload (pc := 244) rfl hN dL_law_244 h (fun v12 h => ?_)
        refine E_aloadS (pc := 245) rfl dL_law_245 ?_
        refine E_iload_n (pc := 246) rfl dL_law_246 ?_
        refine E_iconst (pc := 247) 2 rfl dL_law_247 ?_
        refine E_iadd (pc := 248) dL_law_248 ?_
        refine T_sload (pc := 249) rfl hN dL_law_249 h (fun v13 h => ?_)
        refine E_aloadS (pc := 250) rfl dL_law_250 ?_
        refine E_iload_n (pc := 251) rfl dL_law_251 ?_
        refine E_iconst (pc := 252) 3 rfl dL_law_252 ?_
        refine E_iadd (pc := 253) dL_law_253 ?_
        refine T_sload (pc := 254) rfl hN dL_law_254 h (fun v14 h => ?_)
        refine E_i2l (pc := 255) dL_law_255 ?_
        refine E_bipush (pc := 256) (nI 32) (by decide) dL_law_256 ?_
        refine E_lshl (pc := 258) dL_law_258 ?_
        refine E_aloadS (pc := 259) rfl dL_law_259 ?_
        refine E_iload_n (pc := 260) rfl dL_law_260 ?_
        refine E_iconst (pc := 261) 4 rfl dL_law_261 ?_
        refine E_iadd (pc := 262) dL_law_262 ?_
        refine T_sload (pc := 263) rfl hN dL_law_263 h (fun v15 h => ?_)
        refine E_i2l (pc := 264) dL_law_264 ?_
        refine E_ldc2 (pc := 265) q13_18 dL_law_265 ?_
        refine E_land (pc := 268) dL_law_268 ?_
        refine E_lor (pc := 269) dL_law_269 ?_
        obtain ⟨v17, s16, hp, h⟩ := bd2_some h
        refine E_callV (pc := 270) (As := [_, _, _]) (fc := (2, 45)) s13_20_11 oX11_set dL_law_270 (mem_ob (ent_st SW0)) rfl rfl (Nat.le_of_ble_eq_true rfl) rfl rfl (by decide) (e_X11_set hp) (fun rv_ M_ hq_ => ?_)
        obtain ⟨rfl, rfl⟩ := hq_
        refine E_aload_n (pc := 273) rfl dL_law_273 ?_
        refine E_aloadS (pc := 274) rfl dL_law_274 ?_
        refine E_iload_n (pc := 275) rfl dL_law_275 ?_
        refine E_iconst (pc := 276) 1 rfl dL_law_276 ?_
        refine E_iadd (pc := 277) dL_law_277 ?_
        refine T_sload (pc := 278) rfl hN dL_law_278 h (fun v18 h => ?_)
        refine E_aloadS (pc := 279) rfl dL_law_279 ?_
        refine E_iload_n (pc := 280) rfl dL_law_280 ?_
        refine E_iconst (pc := 281) 2 rfl dL_law_281 ?_
        refine E_iadd (pc := 282) dL_law_282 ?_
        refine T_sload (pc := 283) rfl hN dL_law_283 h (fun v19 h => ?_)
        refine E_aloadS (pc := 284) rfl dL_law_284 ?_
        refine E_iload_n (pc := 285) rfl dL_law_285 ?_
        refine E_iconst (pc := 286) 3 rfl dL_law_286 ?_
        refine E_iadd (pc := 287) dL_law_287 ?_
        refine T_sload (pc := 288) rfl hN dL_law_288 h (fun v20 h => ?_)
        refine E_i2l (pc := 289) dL_law_289 ?_
        refine E_bipush (pc := 290) (nI 32) (by decide) dL_law_290 ?_
        refine E_lshl (pc := 292) dL_law_292 ?_
        refine E_aloadS (pc := 293) rfl dL_law_293 ?_
        refine E_iload_n (pc := 294) rfl dL_law_294 ?_
        refine E_iconst (pc := 295) 4 rfl dL_law_295 ?_
        refine E_iadd (pc := 296) dL_law_296 ?_
        refine T_sload (pc := 297) rfl hN dL_law_297 h (fun v21 h => ?_)
        refine E_i2l (pc := 298) dL_law_298 ?_
        refine E_ldc2 (pc := 299) q13_18 dL_law_299 ?_
        refine E_land (pc := 302) dL_law_302 ?_
        refine E_lor (pc := 303) dL_law_303 ?_
        obtain ⟨v23, s22, hp, h⟩ := bd2_some h
        refine E_callV (pc := 304) (As := [_, _, _]) (fc := (2, 42)) s13_24_12 oX12_set dL_law_304 (mem_ob (ent_st MO247)) rfl rfl (Nat.le_of_ble_eq_true rfl) rfl rfl (by decide) (e_X12_set hp) (fun rv_ M_ hq_ => ?_)
        obtain ⟨rfl, rfl⟩ := hq_
        refine T_icmp_eq (pc := 307) 1537 dL_law_307 (by decide) h (fun h => ?_) (fun h => ?_)
        · refine T_iinc (pc := 1537) (m := 6) (L2 := [_, _, _, _]) rfl rfl rfl rfl dL_law_1537 ?_
          refine E_goto (pc := 1540) 18 (by decide) dL_law_1540 ?_
          exact ih h
        · refine E_iconst (pc := 310) 0 rfl dL_law_310 ?_
          exact E_ireturn (pc := 311) rfl (by decide) dL_law_311 (QI_of h)
      refine T_tbl (pc := 33) (m := 2) 312 (by omega) (by decide) (by decide) dL_law_33 rfl (by decide) h (fun h => ?_) (fun u33_2 h => ?_)
      · refine E_aload_n (pc := 312) rfl dL_law_312 ?_
        refine E_aloadS (pc := 313) rfl dL_law_313 ?_
        refine E_iload_n (pc := 314) rfl dL_law_314 ?_
        refine E_iconst (pc := 315) 1 rfl dL_law_315 ?_
        refine E_iadd (pc := 316) dL_law_316 ?_
        refine T_sload (pc := 317) rfl hN dL_law_317 h (fun v24 h => ?_)
        refine E_aloadS (pc := 318) rfl dL_law_318 ?_
        refine E_iload_n (pc := 319) rfl dL_law_319 ?_
        refine E_iconst (pc := 320) 2 rfl dL_law_320 ?_
        refine E_iadd (pc := 321) dL_law_321 ?_
        refine T_sload (pc := 322) rfl hN dL_law_322 h (fun v25 h => ?_)
        refine E_aloadS (pc := 323) rfl dL_law_323 ?_
        refine E_iload_n (pc := 324) rfl dL_law_324 ?_
        refine E_iconst (pc := 325) 3 rfl dL_law_325 ?_
        refine E_iadd (pc := 326) dL_law_326 ?_
        refine T_sload (pc := 327) rfl hN dL_law_327 h (fun v26 h => ?_)
        refine E_aloadS (pc := 328) rfl dL_law_328 ?_
        refine E_iload_n (pc := 329) rfl dL_law_329 ?_
        refine E_iconst (pc := 330) 4 rfl dL_law_330 ?_
        refine E_iadd (pc := 331) dL_law_331 ?_
        refine T_sload (pc := 332) rfl hN dL_law_332 h (fun v27 h => ?_)
        refine E_aloadS (pc := 333) rfl dL_law_333 ?_
        refine E_iload_n (pc := 334) rfl dL_law_334 ?_
        refine E_iconst (pc := 335) 5 rfl dL_law_335 ?_
        refine E_iadd (pc := 336) dL_law_336 ?_
        refine T_sload (pc := 337) rfl hN dL_law_337 h (fun v28 h => ?_)
        obtain ⟨v30, s29, hp, h⟩ := bd2_some h
        refine E_callV (pc := 338) (As := [_, _, _, _, _]) (fc := (1, 60)) s13_25_11 oX11_copy dL_law_338 (mem_ob (ent_st SW0)) rfl rfl (Nat.le_of_ble_eq_true rfl) rfl rfl (by decide) (e_X11_copy hp) (fun rv_ M_ hq_ => ?_)
        obtain ⟨rfl, rfl⟩ := hq_
        refine E_aload_n (pc := 341) rfl dL_law_341 ?_
        refine E_aloadS (pc := 342) rfl dL_law_342 ?_
        refine E_iload_n (pc := 343) rfl dL_law_343 ?_
        refine E_iconst (pc := 344) 1 rfl dL_law_344 ?_
        refine E_iadd (pc := 345) dL_law_345 ?_
        refine T_sload (pc := 346) rfl hN dL_law_346 h (fun v31 h => ?_)
        refine E_aloadS (pc := 347) rfl dL_law_347 ?_
        refine E_iload_n (pc := 348) rfl dL_law_348 ?_
        refine E_iconst (pc := 349) 2 rfl dL_law_349 ?_
        refine E_iadd (pc := 350) dL_law_350 ?_
        refine T_sload (pc := 351) rfl hN dL_law_351 h (fun v32 h => ?_)
        refine E_aloadS (pc := 352) rfl dL_law_352 ?_
        refine E_iload_n (pc := 353) rfl dL_law_353 ?_
        refine E_iconst (pc := 354) 3 rfl dL_law_354 ?_
        refine E_iadd (pc := 355) dL_law_355 ?_
        refine T_sload (pc := 356) rfl hN dL_law_356 h (fun v33 h => ?_)
        refine E_aloadS (pc := 357) rfl dL_law_357 ?_
        refine E_iload_n (pc := 358) rfl dL_law_358 ?_
        refine E_iconst (pc := 359) 4 rfl dL_law_359 ?_
        refine E_iadd (pc := 360) dL_law_360 ?_
        refine T_sload (pc := 361) rfl hN dL_law_361 h (fun v34 h => ?_)
        refine E_aloadS (pc := 362) rfl dL_law_362 ?_
        refine E_iload_n (pc := 363) rfl dL_law_363 ?_
        refine E_iconst (pc := 364) 5 rfl dL_law_364 ?_
        refine E_iadd (pc := 365) dL_law_365 ?_
        refine T_sload (pc := 366) rfl hN dL_law_366 h (fun v35 h => ?_)
        obtain ⟨v37, s36, hp, h⟩ := bd2_some h
        refine E_callV (pc := 367) (As := [_, _, _, _, _]) (fc := (1, 21)) s13_29_12 oX12_copy dL_law_367 (mem_ob (ent_st MO247)) rfl rfl (Nat.le_of_ble_eq_true rfl) rfl rfl (by decide) (e_X12_copy hp) (fun rv_ M_ hq_ => ?_)
        obtain ⟨rfl, rfl⟩ := hq_
        refine T_icmp_eq (pc := 370) 1537 dL_law_370 (by decide) h (fun h => ?_) (fun h => ?_)
        · refine T_iinc (pc := 1537) (m := 6) (L2 := [_, _, _, _]) rfl rfl rfl rfl dL_law_1537 ?_
          refine E_goto (pc := 1540) 18 (by decide) dL_law_1540 ?_
          exact ih h
        · refine E_iconst (pc := 373) 0 rfl dL_law_373 ?_
          exact E_ireturn (pc := 374) rfl (by decide) dL_law_374 (QI_of h)
      refine T_tbl (pc := 33) (m := 3) 375 (by omega) (by decide) (by decide) dL_law_33 rfl (by decide) h (fun h => ?_) (fun u33_3 h => ?_)
      · refine E_aload_n (pc := 375) rfl dL_law_375 ?_
        refine E_aloadS (pc := 376) rfl dL_law_376 ?_
        refine E_iload_n (pc := 377) rfl dL_law_377 ?_
        refine E_iconst (pc := 378) 1 rfl dL_law_378 ?_
        refine E_iadd (pc := 379) dL_law_379 ?_
        refine T_sload (pc := 380) rfl hN dL_law_380 h (fun v38 h => ?_)
        refine E_aloadS (pc := 381) rfl dL_law_381 ?_
        refine E_iload_n (pc := 382) rfl dL_law_382 ?_
        refine E_iconst (pc := 383) 2 rfl dL_law_383 ?_
        refine E_iadd (pc := 384) dL_law_384 ?_
        refine T_sload (pc := 385) rfl hN dL_law_385 h (fun v39 h => ?_)
        obtain ⟨v41, s40, hp, h⟩ := bd2_some h
        refine E_callV (pc := 386) (As := [_, _]) (fc := (2, 42)) s13_30_11 oX11_element dL_law_386 (mem_ob (ent_st SW0)) rfl rfl (Nat.le_of_ble_eq_true rfl) rfl rfl (by decide) (e_X11_element hp) (fun rv_ M_ hq_ => ?_)
        obtain ⟨rfl, rfl⟩ := hq_
        refine E_aload_n (pc := 389) rfl dL_law_389 ?_
        refine E_aloadS (pc := 390) rfl dL_law_390 ?_
        refine E_iload_n (pc := 391) rfl dL_law_391 ?_
        refine E_iconst (pc := 392) 1 rfl dL_law_392 ?_
        refine E_iadd (pc := 393) dL_law_393 ?_
        refine T_sload (pc := 394) rfl hN dL_law_394 h (fun v42 h => ?_)
        refine E_aloadS (pc := 395) rfl dL_law_395 ?_
        refine E_iload_n (pc := 396) rfl dL_law_396 ?_
        refine E_iconst (pc := 397) 2 rfl dL_law_397 ?_
        refine E_iadd (pc := 398) dL_law_398 ?_
        refine T_sload (pc := 399) rfl hN dL_law_399 h (fun v43 h => ?_)
        obtain ⟨v45, s44, hp, h⟩ := bd2_some h
        refine E_callV (pc := 400) (As := [_, _]) (fc := (1, 21)) s13_34_12 oX12_element dL_law_400 (mem_ob (ent_st MO247)) rfl rfl (Nat.le_of_ble_eq_true rfl) rfl rfl (by decide) (e_X12_element hp) (fun rv_ M_ hq_ => ?_)
        obtain ⟨rfl, rfl⟩ := hq_
        refine E_lcmp (pc := 403) dL_law_403 ?_
        refine T_if_eq (pc := 404) 1537 dL_law_404 (by decide) h (fun h => ?_) (fun h => ?_)
        · refine T_iinc (pc := 1537) (m := 6) (L2 := [_, _, _, _]) rfl rfl rfl rfl dL_law_1537 ?_
          refine E_goto (pc := 1540) 18 (by decide) dL_law_1540 ?_
          exact ih h
        · refine E_iconst (pc := 407) 0 rfl dL_law_407 ?_
          exact E_ireturn (pc := 408) rfl (by decide) dL_law_408 (QI_of h)
      refine T_tbl (pc := 33) (m := 4) 409 (by omega) (by decide) (by decide) dL_law_33 rfl (by decide) h (fun h => ?_) (fun u33_4 h => ?_)
      · refine E_aload_n (pc := 409) rfl dL_law_409 ?_
        refine E_aloadS (pc := 410) rfl dL_law_410 ?_
        refine E_iload_n (pc := 411) rfl dL_law_411 ?_
        refine E_iconst (pc := 412) 1 rfl dL_law_412 ?_
        refine E_iadd (pc := 413) dL_law_413 ?_
        refine T_sload (pc := 414) rfl hN dL_law_414 h (fun v46 h => ?_)
        refine E_aloadS (pc := 415) rfl dL_law_415 ?_
        refine E_iload_n (pc := 416) rfl dL_law_416 ?_
        refine E_iconst (pc := 417) 2 rfl dL_law_417 ?_
        refine E_iadd (pc := 418) dL_law_418 ?_
        refine T_sload (pc := 419) rfl hN dL_law_419 h (fun v47 h => ?_)
        obtain ⟨v49, s48, hp, h⟩ := bd2_some h
        refine E_callV (pc := 420) (As := [_, _]) (fc := (1, 22)) s13_35_11 oX11_show dL_law_420 (mem_ob (ent_st SW0)) rfl rfl (Nat.le_of_ble_eq_true rfl) rfl rfl (by decide) (e_X11_show hp) (fun rv_ M_ hq_ => ?_)
        obtain ⟨rfl, rfl⟩ := hq_
        refine E_aload_n (pc := 423) rfl dL_law_423 ?_
        refine E_aloadS (pc := 424) rfl dL_law_424 ?_
        refine E_iload_n (pc := 425) rfl dL_law_425 ?_
        refine E_iconst (pc := 426) 1 rfl dL_law_426 ?_
        refine E_iadd (pc := 427) dL_law_427 ?_
        refine T_sload (pc := 428) rfl hN dL_law_428 h (fun v50 h => ?_)
        refine E_aloadS (pc := 429) rfl dL_law_429 ?_
        refine E_iload_n (pc := 430) rfl dL_law_430 ?_
        refine E_iconst (pc := 431) 2 rfl dL_law_431 ?_
        refine E_iadd (pc := 432) dL_law_432 ?_
        refine T_sload (pc := 433) rfl hN dL_law_433 h (fun v51 h => ?_)
        obtain ⟨v53, s52, hp, h⟩ := bd2_some h
        refine E_callV (pc := 434) (As := [_, _]) (fc := (1, 21)) s13_39_12 oX12_show dL_law_434 (mem_ob (ent_st MO247)) rfl rfl (Nat.le_of_ble_eq_true rfl) rfl rfl (by decide) (e_X12_show hp) (fun rv_ M_ hq_ => ?_)
        obtain ⟨rfl, rfl⟩ := hq_
        refine T_icmp_eq (pc := 437) 1537 dL_law_437 (by decide) h (fun h => ?_) (fun h => ?_)
        · refine T_iinc (pc := 1537) (m := 6) (L2 := [_, _, _, _]) rfl rfl rfl rfl dL_law_1537 ?_
          refine E_goto (pc := 1540) 18 (by decide) dL_law_1540 ?_
          exact ih h
        · refine E_iconst (pc := 440) 0 rfl dL_law_440 ?_
          exact E_ireturn (pc := 441) rfl (by decide) dL_law_441 (QI_of h)
      refine T_tbl (pc := 33) (m := 5) 442 (by omega) (by decide) (by decide) dL_law_33 rfl (by decide) h (fun h => ?_) (fun u33_5 h => ?_)
      · refine E_aload_n (pc := 442) rfl dL_law_442 ?_
        refine E_aloadS (pc := 443) rfl dL_law_443 ?_
        refine E_iload_n (pc := 444) rfl dL_law_444 ?_
        refine E_iconst (pc := 445) 1 rfl dL_law_445 ?_
        refine E_iadd (pc := 446) dL_law_446 ?_
        refine T_sload (pc := 447) rfl hN dL_law_447 h (fun v54 h => ?_)
        obtain ⟨v56, s55, hp, h⟩ := bd2_some h
        refine E_callV (pc := 448) (As := [_]) (fc := (1, 20)) s13_40_11 oX11_holds dL_law_448 (mem_ob (ent_st SW0)) rfl rfl (Nat.le_of_ble_eq_true rfl) rfl rfl (by decide) (e_X11_holds hp) (fun rv_ M_ hq_ => ?_)
        obtain ⟨rfl, rfl⟩ := hq_
        refine E_aload_n (pc := 451) rfl dL_law_451 ?_
        refine E_aloadS (pc := 452) rfl dL_law_452 ?_
        refine E_iload_n (pc := 453) rfl dL_law_453 ?_
        refine E_iconst (pc := 454) 1 rfl dL_law_454 ?_
        refine E_iadd (pc := 455) dL_law_455 ?_
        refine T_sload (pc := 456) rfl hN dL_law_456 h (fun v57 h => ?_)
        obtain ⟨v59, s58, hp, h⟩ := bd2_some h
        refine E_callV (pc := 457) (As := [_]) (fc := (1, 21)) s13_44_12 oX12_holds dL_law_457 (mem_ob (ent_st MO247)) rfl rfl (Nat.le_of_ble_eq_true rfl) rfl rfl (by decide) (e_X12_holds hp) (fun rv_ M_ hq_ => ?_)
        obtain ⟨rfl, rfl⟩ := hq_
        refine T_icmp_eq (pc := 460) 1537 dL_law_460 (by decide) h (fun h => ?_) (fun h => ?_)
        · refine T_iinc (pc := 1537) (m := 6) (L2 := [_, _, _, _]) rfl rfl rfl rfl dL_law_1537 ?_
          refine E_goto (pc := 1540) 18 (by decide) dL_law_1540 ?_
          exact ih h
        · refine E_iconst (pc := 463) 0 rfl dL_law_463 ?_
          exact E_ireturn (pc := 464) rfl (by decide) dL_law_464 (QI_of h)
      refine T_tbl (pc := 33) (m := 6) 465 (by omega) (by decide) (by decide) dL_law_33 rfl (by decide) h (fun h => ?_) (fun u33_6 h => ?_)
      · refine E_aload_n (pc := 465) rfl dL_law_465 ?_
        refine E_aloadS (pc := 466) rfl dL_law_466 ?_
        refine E_iload_n (pc := 467) rfl dL_law_467 ?_
        refine E_iconst (pc := 468) 1 rfl dL_law_468 ?_
        refine E_iadd (pc := 469) dL_law_469 ?_
        refine T_sload (pc := 470) rfl hN dL_law_470 h (fun v60 h => ?_)
        refine E_aloadS (pc := 471) rfl dL_law_471 ?_
        refine E_iload_n (pc := 472) rfl dL_law_472 ?_
        refine E_iconst (pc := 473) 2 rfl dL_law_473 ?_
        refine E_iadd (pc := 474) dL_law_474 ?_
        refine T_sload (pc := 475) rfl hN dL_law_475 h (fun v61 h => ?_)
        obtain ⟨v63, s62, hp, h⟩ := bd2_some h
        refine E_callV (pc := 476) (As := [_, _]) (fc := (1, 22)) s13_45_11 oX11_says dL_law_476 (mem_ob (ent_st SW0)) rfl rfl (Nat.le_of_ble_eq_true rfl) rfl rfl (by decide) (e_X11_says hp) (fun rv_ M_ hq_ => ?_)
        obtain ⟨rfl, rfl⟩ := hq_
        refine E_aload_n (pc := 479) rfl dL_law_479 ?_
        refine E_aloadS (pc := 480) rfl dL_law_480 ?_
        refine E_iload_n (pc := 481) rfl dL_law_481 ?_
        refine E_iconst (pc := 482) 1 rfl dL_law_482 ?_
        refine E_iadd (pc := 483) dL_law_483 ?_
        refine T_sload (pc := 484) rfl hN dL_law_484 h (fun v64 h => ?_)
        refine E_aloadS (pc := 485) rfl dL_law_485 ?_
        refine E_iload_n (pc := 486) rfl dL_law_486 ?_
        refine E_iconst (pc := 487) 2 rfl dL_law_487 ?_
        refine E_iadd (pc := 488) dL_law_488 ?_
        refine T_sload (pc := 489) rfl hN dL_law_489 h (fun v65 h => ?_)
        obtain ⟨v67, s66, hp, h⟩ := bd2_some h
        refine E_callV (pc := 490) (As := [_, _]) (fc := (1, 21)) s13_48_12 oX12_says dL_law_490 (mem_ob (ent_st MO247)) rfl rfl (Nat.le_of_ble_eq_true rfl) rfl rfl (by decide) (e_X12_says hp) (fun rv_ M_ hq_ => ?_)
        obtain ⟨rfl, rfl⟩ := hq_
        refine T_icmp_eq (pc := 493) 1537 dL_law_493 (by decide) h (fun h => ?_) (fun h => ?_)
        · refine T_iinc (pc := 1537) (m := 6) (L2 := [_, _, _, _]) rfl rfl rfl rfl dL_law_1537 ?_
          refine E_goto (pc := 1540) 18 (by decide) dL_law_1540 ?_
          exact ih h
        · refine E_iconst (pc := 496) 0 rfl dL_law_496 ?_
          exact E_ireturn (pc := 497) rfl (by decide) dL_law_497 (QI_of h)
      refine T_tbl (pc := 33) (m := 7) 498 (by omega) (by decide) (by decide) dL_law_33 rfl (by decide) h (fun h => ?_) (fun u33_7 h => ?_)
      · refine E_aload_n (pc := 498) rfl dL_law_498 ?_
        refine E_aloadS (pc := 499) rfl dL_law_499 ?_
        refine E_iload_n (pc := 500) rfl dL_law_500 ?_
        refine E_iconst (pc := 501) 1 rfl dL_law_501 ?_
        refine E_iadd (pc := 502) dL_law_502 ?_
        refine T_sload (pc := 503) rfl hN dL_law_503 h (fun v68 h => ?_)
        refine E_aloadS (pc := 504) rfl dL_law_504 ?_
        refine E_iload_n (pc := 505) rfl dL_law_505 ?_
        refine E_iconst (pc := 506) 2 rfl dL_law_506 ?_
        refine E_iadd (pc := 507) dL_law_507 ?_
        refine T_sload (pc := 508) rfl hN dL_law_508 h (fun v69 h => ?_)
        obtain ⟨v71, s70, hp, h⟩ := bd2_some h
        refine E_callV (pc := 509) (As := [_, _]) (fc := (7, 156)) s13_49_11 oX11_thing dL_law_509 (mem_ob (ent_st SW0)) rfl rfl (Nat.le_of_ble_eq_true rfl) rfl rfl (by decide) (e_X11_thing hp) (fun rv_ M_ hq_ => ?_)
        obtain ⟨rfl, rfl⟩ := hq_
        refine E_aload_n (pc := 512) rfl dL_law_512 ?_
        refine E_aloadS (pc := 513) rfl dL_law_513 ?_
        refine E_iload_n (pc := 514) rfl dL_law_514 ?_
        refine E_iconst (pc := 515) 1 rfl dL_law_515 ?_
        refine E_iadd (pc := 516) dL_law_516 ?_
        refine T_sload (pc := 517) rfl hN dL_law_517 h (fun v72 h => ?_)
        refine E_aloadS (pc := 518) rfl dL_law_518 ?_
        refine E_iload_n (pc := 519) rfl dL_law_519 ?_
        refine E_iconst (pc := 520) 2 rfl dL_law_520 ?_
        refine E_iadd (pc := 521) dL_law_521 ?_
        refine T_sload (pc := 522) rfl hN dL_law_522 h (fun v73 h => ?_)
        obtain ⟨v75, s74, hp, h⟩ := bd2_some h
        refine E_callV (pc := 523) (As := [_, _]) (fc := (4, 87)) s13_52_12 oX12_thing dL_law_523 (mem_ob (ent_st MO247)) rfl rfl (Nat.le_of_ble_eq_true rfl) rfl rfl (by decide) (e_X12_thing hp) (fun rv_ M_ hq_ => ?_)
        obtain ⟨rfl, rfl⟩ := hq_
        refine T_icmp_eq (pc := 526) 1537 dL_law_526 (by decide) h (fun h => ?_) (fun h => ?_)
        · refine T_iinc (pc := 1537) (m := 6) (L2 := [_, _, _, _]) rfl rfl rfl rfl dL_law_1537 ?_
          refine E_goto (pc := 1540) 18 (by decide) dL_law_1540 ?_
          exact ih h
        · refine E_iconst (pc := 529) 0 rfl dL_law_529 ?_
          exact E_ireturn (pc := 530) rfl (by decide) dL_law_530 (QI_of h)
      refine T_tbl (pc := 33) (m := 8) 531 (by omega) (by decide) (by decide) dL_law_33 rfl (by decide) h (fun h => ?_) (fun u33_8 h => ?_)
      · refine E_aload_n (pc := 531) rfl dL_law_531 ?_
        refine E_aloadS (pc := 532) rfl dL_law_532 ?_
        refine E_iload_n (pc := 533) rfl dL_law_533 ?_
        refine E_iconst (pc := 534) 1 rfl dL_law_534 ?_
        refine E_iadd (pc := 535) dL_law_535 ?_
        refine T_sload (pc := 536) rfl hN dL_law_536 h (fun v76 h => ?_)
        refine E_aloadS (pc := 537) rfl dL_law_537 ?_
        refine E_iload_n (pc := 538) rfl dL_law_538 ?_
        refine E_iconst (pc := 539) 2 rfl dL_law_539 ?_
        refine E_iadd (pc := 540) dL_law_540 ?_
        refine T_sload (pc := 541) rfl hN dL_law_541 h (fun v77 h => ?_)
        refine E_aloadS (pc := 542) rfl dL_law_542 ?_
        refine E_iload_n (pc := 543) rfl dL_law_543 ?_
        refine E_iconst (pc := 544) 3 rfl dL_law_544 ?_
        refine E_iadd (pc := 545) dL_law_545 ?_
        refine T_sload (pc := 546) rfl hN dL_law_546 h (fun v78 h => ?_)
        refine T_if_eq (pc := 547) 554 dL_law_547 (by decide) h (fun h => ?_) (fun h => ?_)
        · refine E_iconst (pc := 554) 0 rfl dL_law_554 ?_
          refine e_L_law_555 hN (fun h => ih h) h
        · refine E_iconst (pc := 550) 1 rfl dL_law_550 ?_
          refine E_goto (pc := 551) 555 (by decide) dL_law_551 ?_
          refine e_L_law_555 hN (fun h => ih h) h
      refine T_tbl (pc := 33) (m := 9) 590 (by omega) (by decide) (by decide) dL_law_33 rfl (by decide) h (fun h => ?_) (fun u33_9 h => ?_)
      · refine E_aload_n (pc := 590) rfl dL_law_590 ?_
        obtain ⟨v87, s86, hp, h⟩ := bd2_some h
        refine E_callV (pc := 591) (As := []) (fc := (0, 0)) s13_58_11 oX11_fault dL_law_591 (mem_ob (ent_st SW0)) rfl rfl (Nat.le_of_ble_eq_true rfl) rfl rfl (by decide) (e_X11_fault hp) (fun rv_ M_ hq_ => ?_)
        obtain ⟨rfl, rfl⟩ := hq_
        refine E_aload_n (pc := 594) rfl dL_law_594 ?_
        obtain ⟨v89, s88, hp, h⟩ := bd2_some h
        refine E_callV (pc := 595) (As := []) (fc := (0, 0)) s13_62_12 oX12_fault dL_law_595 (mem_ob (ent_st MO247)) rfl rfl (Nat.le_of_ble_eq_true rfl) rfl rfl (by decide) (e_X12_fault hp) (fun rv_ M_ hq_ => ?_)
        obtain ⟨rfl, rfl⟩ := hq_
        refine T_icmp_eq (pc := 598) 1537 dL_law_598 (by decide) h (fun h => ?_) (fun h => ?_)
        · refine T_iinc (pc := 1537) (m := 6) (L2 := [_, _, _, _]) rfl rfl rfl rfl dL_law_1537 ?_
          refine E_goto (pc := 1540) 18 (by decide) dL_law_1540 ?_
          exact ih h
        · refine E_iconst (pc := 601) 0 rfl dL_law_601 ?_
          exact E_ireturn (pc := 602) rfl (by decide) dL_law_602 (QI_of h)
      refine T_tbl (pc := 33) (m := 10) 603 (by omega) (by decide) (by decide) dL_law_33 rfl (by decide) h (fun h => ?_) (fun u33_10 h => ?_)
      · refine E_aload_n (pc := 603) rfl dL_law_603 ?_
        refine E_aloadS (pc := 604) rfl dL_law_604 ?_
        refine E_iload_n (pc := 605) rfl dL_law_605 ?_
        refine E_iconst (pc := 606) 1 rfl dL_law_606 ?_
        refine E_iadd (pc := 607) dL_law_607 ?_
        refine T_sload (pc := 608) rfl hN dL_law_608 h (fun v90 h => ?_)
        refine E_aloadS (pc := 609) rfl dL_law_609 ?_
        refine E_iload_n (pc := 610) rfl dL_law_610 ?_
        refine E_iconst (pc := 611) 2 rfl dL_law_611 ?_
        refine E_iadd (pc := 612) dL_law_612 ?_
        refine T_sload (pc := 613) rfl hN dL_law_613 h (fun v91 h => ?_)
        obtain ⟨v93, s92, hp, h⟩ := bd2_some h
        refine E_callV (pc := 614) (As := [_, _]) (fc := (1, 22)) s13_63_11 oX11_price dL_law_614 (mem_ob (ent_st SW0)) rfl rfl (Nat.le_of_ble_eq_true rfl) rfl rfl (by decide) (e_X11_price hp) (fun rv_ M_ hq_ => ?_)
        obtain ⟨rfl, rfl⟩ := hq_
        refine E_aload_n (pc := 617) rfl dL_law_617 ?_
        refine E_aloadS (pc := 618) rfl dL_law_618 ?_
        refine E_iload_n (pc := 619) rfl dL_law_619 ?_
        refine E_iconst (pc := 620) 1 rfl dL_law_620 ?_
        refine E_iadd (pc := 621) dL_law_621 ?_
        refine T_sload (pc := 622) rfl hN dL_law_622 h (fun v94 h => ?_)
        refine E_aloadS (pc := 623) rfl dL_law_623 ?_
        refine E_iload_n (pc := 624) rfl dL_law_624 ?_
        refine E_iconst (pc := 625) 2 rfl dL_law_625 ?_
        refine E_iadd (pc := 626) dL_law_626 ?_
        refine T_sload (pc := 627) rfl hN dL_law_627 h (fun v95 h => ?_)
        obtain ⟨v97, s96, hp, h⟩ := bd2_some h
        refine E_callV (pc := 628) (As := [_, _]) (fc := (1, 21)) s13_66_12 oX12_price dL_law_628 (mem_ob (ent_st MO247)) rfl rfl (Nat.le_of_ble_eq_true rfl) rfl rfl (by decide) (e_X12_price hp) (fun rv_ M_ hq_ => ?_)
        obtain ⟨rfl, rfl⟩ := hq_
        refine T_icmp_eq (pc := 631) 1537 dL_law_631 (by decide) h (fun h => ?_) (fun h => ?_)
        · refine T_iinc (pc := 1537) (m := 6) (L2 := [_, _, _, _]) rfl rfl rfl rfl dL_law_1537 ?_
          refine E_goto (pc := 1540) 18 (by decide) dL_law_1540 ?_
          exact ih h
        · refine E_iconst (pc := 634) 0 rfl dL_law_634 ?_
          exact E_ireturn (pc := 635) rfl (by decide) dL_law_635 (QI_of h)
      refine T_tbl (pc := 33) (m := 11) 636 (by omega) (by decide) (by decide) dL_law_33 rfl (by decide) h (fun h => ?_) (fun u33_11 h => ?_)
      · refine E_aload_n (pc := 636) rfl dL_law_636 ?_
        refine E_aloadS (pc := 637) rfl dL_law_637 ?_
        refine E_iload_n (pc := 638) rfl dL_law_638 ?_
        refine E_iconst (pc := 639) 1 rfl dL_law_639 ?_
        refine E_iadd (pc := 640) dL_law_640 ?_
        refine T_sload (pc := 641) rfl hN dL_law_641 h (fun v98 h => ?_)
        refine E_aloadS (pc := 642) rfl dL_law_642 ?_
        refine E_iload_n (pc := 643) rfl dL_law_643 ?_
        refine E_iconst (pc := 644) 2 rfl dL_law_644 ?_
        refine E_iadd (pc := 645) dL_law_645 ?_
        refine T_sload (pc := 646) rfl hN dL_law_646 h (fun v99 h => ?_)
        obtain ⟨v101, s100, hp, h⟩ := bd2_some h
        refine E_callV (pc := 647) (As := [_, _]) (fc := (1, 22)) s13_67_11 oX11_weigh dL_law_647 (mem_ob (ent_st SW0)) rfl rfl (Nat.le_of_ble_eq_true rfl) rfl rfl (by decide) (e_X11_weigh hp) (fun rv_ M_ hq_ => ?_)
        obtain ⟨rfl, rfl⟩ := hq_
        refine E_aload_n (pc := 650) rfl dL_law_650 ?_
        refine E_aloadS (pc := 651) rfl dL_law_651 ?_
        refine E_iload_n (pc := 652) rfl dL_law_652 ?_
        refine E_iconst (pc := 653) 1 rfl dL_law_653 ?_
        refine E_iadd (pc := 654) dL_law_654 ?_
        refine T_sload (pc := 655) rfl hN dL_law_655 h (fun v102 h => ?_)
        refine E_aloadS (pc := 656) rfl dL_law_656 ?_
        refine E_iload_n (pc := 657) rfl dL_law_657 ?_
        refine E_iconst (pc := 658) 2 rfl dL_law_658 ?_
        refine E_iadd (pc := 659) dL_law_659 ?_
        refine T_sload (pc := 660) rfl hN dL_law_660 h (fun v103 h => ?_)
        obtain ⟨v105, s104, hp, h⟩ := bd2_some h
        refine E_callV (pc := 661) (As := [_, _]) (fc := (1, 21)) s13_70_12 oX12_weigh dL_law_661 (mem_ob (ent_st MO247)) rfl rfl (Nat.le_of_ble_eq_true rfl) rfl rfl (by decide) (e_X12_weigh hp) (fun rv_ M_ hq_ => ?_)
        obtain ⟨rfl, rfl⟩ := hq_
        refine T_icmp_eq (pc := 664) 1537 dL_law_664 (by decide) h (fun h => ?_) (fun h => ?_)
        · refine T_iinc (pc := 1537) (m := 6) (L2 := [_, _, _, _]) rfl rfl rfl rfl dL_law_1537 ?_
          refine E_goto (pc := 1540) 18 (by decide) dL_law_1540 ?_
          exact ih h
        · refine E_iconst (pc := 667) 0 rfl dL_law_667 ?_
          exact E_ireturn (pc := 668) rfl (by decide) dL_law_668 (QI_of h)
      refine T_tbl (pc := 33) (m := 12) 669 (by omega) (by decide) (by decide) dL_law_33 rfl (by decide) h (fun h => ?_) (fun u33_12 h => ?_)
      · refine E_aload_n (pc := 669) rfl dL_law_669 ?_
        refine E_aloadS (pc := 670) rfl dL_law_670 ?_
        refine E_iload_n (pc := 671) rfl dL_law_671 ?_
        refine E_iconst (pc := 672) 1 rfl dL_law_672 ?_
        refine E_iadd (pc := 673) dL_law_673 ?_
        refine T_sload (pc := 674) rfl hN dL_law_674 h (fun v106 h => ?_)
        refine E_aloadS (pc := 675) rfl dL_law_675 ?_
        refine E_iload_n (pc := 676) rfl dL_law_676 ?_
        refine E_iconst (pc := 677) 2 rfl dL_law_677 ?_
        refine E_iadd (pc := 678) dL_law_678 ?_
        refine T_sload (pc := 679) rfl hN dL_law_679 h (fun v107 h => ?_)
        refine E_aloadS (pc := 680) rfl dL_law_680 ?_
        refine E_iload_n (pc := 681) rfl dL_law_681 ?_
        refine E_iconst (pc := 682) 3 rfl dL_law_682 ?_
        refine E_iadd (pc := 683) dL_law_683 ?_
        refine T_sload (pc := 684) rfl hN dL_law_684 h (fun v108 h => ?_)
        obtain ⟨v110, s109, hp, h⟩ := bd2_some h
        refine E_callV (pc := 685) (As := [_, _, _]) (fc := (6, 151)) s13_71_11 oX11_seen dL_law_685 (mem_ob (ent_st SW0)) rfl rfl (Nat.le_of_ble_eq_true rfl) rfl rfl (by decide) (e_X11_seen hp) (fun rv_ M_ hq_ => ?_)
        obtain ⟨rfl, rfl⟩ := hq_
        refine E_aload_n (pc := 688) rfl dL_law_688 ?_
        refine E_aloadS (pc := 689) rfl dL_law_689 ?_
        refine E_iload_n (pc := 690) rfl dL_law_690 ?_
        refine E_iconst (pc := 691) 1 rfl dL_law_691 ?_
        refine E_iadd (pc := 692) dL_law_692 ?_
        refine T_sload (pc := 693) rfl hN dL_law_693 h (fun v111 h => ?_)
        refine E_aloadS (pc := 694) rfl dL_law_694 ?_
        refine E_iload_n (pc := 695) rfl dL_law_695 ?_
        refine E_iconst (pc := 696) 2 rfl dL_law_696 ?_
        refine E_iadd (pc := 697) dL_law_697 ?_
        refine T_sload (pc := 698) rfl hN dL_law_698 h (fun v112 h => ?_)
        refine E_aloadS (pc := 699) rfl dL_law_699 ?_
        refine E_iload_n (pc := 700) rfl dL_law_700 ?_
        refine E_iconst (pc := 701) 3 rfl dL_law_701 ?_
        refine E_iadd (pc := 702) dL_law_702 ?_
        refine T_sload (pc := 703) rfl hN dL_law_703 h (fun v113 h => ?_)
        obtain ⟨v115, s114, hp, h⟩ := bd2_some h
        refine E_callV (pc := 704) (As := [_, _, _]) (fc := (1, 26)) s13_74_12 oX12_seen dL_law_704 (mem_ob (ent_st MO247)) rfl rfl (Nat.le_of_ble_eq_true rfl) rfl rfl (by decide) (e_X12_seen hp) (fun rv_ M_ hq_ => ?_)
        obtain ⟨rfl, rfl⟩ := hq_
        refine T_icmp_eq (pc := 707) 1537 dL_law_707 (by decide) h (fun h => ?_) (fun h => ?_)
        · refine T_iinc (pc := 1537) (m := 6) (L2 := [_, _, _, _]) rfl rfl rfl rfl dL_law_1537 ?_
          refine E_goto (pc := 1540) 18 (by decide) dL_law_1540 ?_
          exact ih h
        · refine E_iconst (pc := 710) 0 rfl dL_law_710 ?_
          exact E_ireturn (pc := 711) rfl (by decide) dL_law_711 (QI_of h)
      refine T_tbl (pc := 33) (m := 13) 712 (by omega) (by decide) (by decide) dL_law_33 rfl (by decide) h (fun h => ?_) (fun u33_13 h => ?_)
      · refine E_aload_n (pc := 712) rfl dL_law_712 ?_
        refine E_aloadS (pc := 713) rfl dL_law_713 ?_
        refine E_iload_n (pc := 714) rfl dL_law_714 ?_
        refine E_iconst (pc := 715) 1 rfl dL_law_715 ?_
        refine E_iadd (pc := 716) dL_law_716 ?_
        refine T_sload (pc := 717) rfl hN dL_law_717 h (fun v116 h => ?_)
        refine E_aloadS (pc := 718) rfl dL_law_718 ?_
        refine E_iload_n (pc := 719) rfl dL_law_719 ?_
        refine E_iconst (pc := 720) 2 rfl dL_law_720 ?_
        refine E_iadd (pc := 721) dL_law_721 ?_
        refine T_sload (pc := 722) rfl hN dL_law_722 h (fun v117 h => ?_)
        refine E_aloadS (pc := 723) rfl dL_law_723 ?_
        refine E_iload_n (pc := 724) rfl dL_law_724 ?_
        refine E_iconst (pc := 725) 3 rfl dL_law_725 ?_
        refine E_iadd (pc := 726) dL_law_726 ?_
        refine T_sload (pc := 727) rfl hN dL_law_727 h (fun v118 h => ?_)
        refine E_aloadS (pc := 728) rfl dL_law_728 ?_
        refine E_iload_n (pc := 729) rfl dL_law_729 ?_
        refine E_iconst (pc := 730) 4 rfl dL_law_730 ?_
        refine E_iadd (pc := 731) dL_law_731 ?_
        refine T_sload (pc := 732) rfl hN dL_law_732 h (fun v119 h => ?_)
        refine T_if_eq (pc := 733) 740 dL_law_733 (by decide) h (fun h => ?_) (fun h => ?_)
        · refine E_iconst (pc := 740) 0 rfl dL_law_740 ?_
          refine e_L_law_741 hN (fun h => ih h) h
        · refine E_iconst (pc := 736) 1 rfl dL_law_736 ?_
          refine E_goto (pc := 737) 741 (by decide) dL_law_737 ?_
          refine e_L_law_741 hN (fun h => ih h) h
      refine T_tbl (pc := 33) (m := 14) 791 (by omega) (by decide) (by decide) dL_law_33 rfl (by decide) h (fun h => ?_) (fun u33_14 h => ?_)
      · refine E_aload_n (pc := 791) rfl dL_law_791 ?_
        refine E_aloadS (pc := 792) rfl dL_law_792 ?_
        refine E_iload_n (pc := 793) rfl dL_law_793 ?_
        refine E_iconst (pc := 794) 1 rfl dL_law_794 ?_
        refine E_iadd (pc := 795) dL_law_795 ?_
        refine T_sload (pc := 796) rfl hN dL_law_796 h (fun v130 h => ?_)
        refine E_aloadS (pc := 797) rfl dL_law_797 ?_
        refine E_iload_n (pc := 798) rfl dL_law_798 ?_
        refine E_iconst (pc := 799) 2 rfl dL_law_799 ?_
        refine E_iadd (pc := 800) dL_law_800 ?_
        refine T_sload (pc := 801) rfl hN dL_law_801 h (fun v131 h => ?_)
        refine E_aloadS (pc := 802) rfl dL_law_802 ?_
        refine E_iload_n (pc := 803) rfl dL_law_803 ?_
        refine E_iconst (pc := 804) 3 rfl dL_law_804 ?_
        refine E_iadd (pc := 805) dL_law_805 ?_
        refine T_sload (pc := 806) rfl hN dL_law_806 h (fun v132 h => ?_)
        refine E_aloadS (pc := 807) rfl dL_law_807 ?_
        refine E_iload_n (pc := 808) rfl dL_law_808 ?_
        refine E_iconst (pc := 809) 4 rfl dL_law_809 ?_
        refine E_iadd (pc := 810) dL_law_810 ?_
        refine T_sload (pc := 811) rfl hN dL_law_811 h (fun v133 h => ?_)
        refine E_aloadS (pc := 812) rfl dL_law_812 ?_
        refine E_iload_n (pc := 813) rfl dL_law_813 ?_
        refine E_iconst (pc := 814) 5 rfl dL_law_814 ?_
        refine E_iadd (pc := 815) dL_law_815 ?_
        refine T_sload (pc := 816) rfl hN dL_law_816 h (fun v134 h => ?_)
        obtain ⟨v136, s135, hp, h⟩ := bd2_some h
        refine E_callV (pc := 817) (As := [_, _, _, _, _]) (fc := (6, 151)) s13_80_11 oX11_was dL_law_817 (mem_ob (ent_st SW0)) rfl rfl (Nat.le_of_ble_eq_true rfl) rfl rfl (by decide) (e_X11_was hp) (fun rv_ M_ hq_ => ?_)
        obtain ⟨rfl, rfl⟩ := hq_
        refine E_aload_n (pc := 820) rfl dL_law_820 ?_
        refine E_aloadS (pc := 821) rfl dL_law_821 ?_
        refine E_iload_n (pc := 822) rfl dL_law_822 ?_
        refine E_iconst (pc := 823) 1 rfl dL_law_823 ?_
        refine E_iadd (pc := 824) dL_law_824 ?_
        refine T_sload (pc := 825) rfl hN dL_law_825 h (fun v137 h => ?_)
        refine E_aloadS (pc := 826) rfl dL_law_826 ?_
        refine E_iload_n (pc := 827) rfl dL_law_827 ?_
        refine E_iconst (pc := 828) 2 rfl dL_law_828 ?_
        refine E_iadd (pc := 829) dL_law_829 ?_
        refine T_sload (pc := 830) rfl hN dL_law_830 h (fun v138 h => ?_)
        refine E_aloadS (pc := 831) rfl dL_law_831 ?_
        refine E_iload_n (pc := 832) rfl dL_law_832 ?_
        refine E_iconst (pc := 833) 3 rfl dL_law_833 ?_
        refine E_iadd (pc := 834) dL_law_834 ?_
        refine T_sload (pc := 835) rfl hN dL_law_835 h (fun v139 h => ?_)
        refine E_aloadS (pc := 836) rfl dL_law_836 ?_
        refine E_iload_n (pc := 837) rfl dL_law_837 ?_
        refine E_iconst (pc := 838) 4 rfl dL_law_838 ?_
        refine E_iadd (pc := 839) dL_law_839 ?_
        refine T_sload (pc := 840) rfl hN dL_law_840 h (fun v140 h => ?_)
        refine E_aloadS (pc := 841) rfl dL_law_841 ?_
        refine E_iload_n (pc := 842) rfl dL_law_842 ?_
        refine E_iconst (pc := 843) 5 rfl dL_law_843 ?_
        refine E_iadd (pc := 844) dL_law_844 ?_
        refine T_sload (pc := 845) rfl hN dL_law_845 h (fun v141 h => ?_)
        obtain ⟨v143, s142, hp, h⟩ := bd2_some h
        refine E_callV (pc := 846) (As := [_, _, _, _, _]) (fc := (2, 43)) s13_83_12 oX12_was dL_law_846 (mem_ob (ent_st MO247)) rfl rfl (Nat.le_of_ble_eq_true rfl) rfl rfl (by decide) (e_X12_was hp) (fun rv_ M_ hq_ => ?_)
        obtain ⟨rfl, rfl⟩ := hq_
        refine T_icmp_eq (pc := 849) 1537 dL_law_849 (by decide) h (fun h => ?_) (fun h => ?_)
        · refine T_iinc (pc := 1537) (m := 6) (L2 := [_, _, _, _]) rfl rfl rfl rfl dL_law_1537 ?_
          refine E_goto (pc := 1540) 18 (by decide) dL_law_1540 ?_
          exact ih h
        · refine E_iconst (pc := 852) 0 rfl dL_law_852 ?_
          exact E_ireturn (pc := 853) rfl (by decide) dL_law_853 (QI_of h)
      refine T_tbl (pc := 33) (m := 15) 854 (by omega) (by decide) (by decide) dL_law_33 rfl (by decide) h (fun h => ?_) (fun u33_15 h => ?_)
      · refine E_aload_n (pc := 854) rfl dL_law_854 ?_
        refine E_aloadS (pc := 855) rfl dL_law_855 ?_
        refine E_iload_n (pc := 856) rfl dL_law_856 ?_
        refine E_iconst (pc := 857) 1 rfl dL_law_857 ?_
        refine E_iadd (pc := 858) dL_law_858 ?_
        refine T_sload (pc := 859) rfl hN dL_law_859 h (fun v144 h => ?_)
        refine E_aloadS (pc := 860) rfl dL_law_860 ?_
        refine E_iload_n (pc := 861) rfl dL_law_861 ?_
        refine E_iconst (pc := 862) 2 rfl dL_law_862 ?_
        refine E_iadd (pc := 863) dL_law_863 ?_
        refine T_sload (pc := 864) rfl hN dL_law_864 h (fun v145 h => ?_)
        refine E_aloadS (pc := 865) rfl dL_law_865 ?_
        refine E_iload_n (pc := 866) rfl dL_law_866 ?_
        refine E_iconst (pc := 867) 3 rfl dL_law_867 ?_
        refine E_iadd (pc := 868) dL_law_868 ?_
        refine T_sload (pc := 869) rfl hN dL_law_869 h (fun v146 h => ?_)
        refine E_aloadS (pc := 870) rfl dL_law_870 ?_
        refine E_iload_n (pc := 871) rfl dL_law_871 ?_
        refine E_iconst (pc := 872) 4 rfl dL_law_872 ?_
        refine E_iadd (pc := 873) dL_law_873 ?_
        refine T_sload (pc := 874) rfl hN dL_law_874 h (fun v147 h => ?_)
        obtain ⟨v149, s148, hp, h⟩ := bd2_some h
        refine E_callV (pc := 875) (As := [_, _, _, _]) (fc := (7, 180)) s13_84_11 oX11_sheet dL_law_875 (mem_ob (ent_st SW0)) rfl rfl (Nat.le_of_ble_eq_true rfl) rfl rfl (by decide) (e_X11_sheet hp) (fun rv_ M_ hq_ => ?_)
        obtain ⟨rfl, rfl⟩ := hq_
        refine E_aload_n (pc := 878) rfl dL_law_878 ?_
        refine E_aloadS (pc := 879) rfl dL_law_879 ?_
        refine E_iload_n (pc := 880) rfl dL_law_880 ?_
        refine E_iconst (pc := 881) 1 rfl dL_law_881 ?_
        refine E_iadd (pc := 882) dL_law_882 ?_
        refine T_sload (pc := 883) rfl hN dL_law_883 h (fun v150 h => ?_)
        refine E_aloadS (pc := 884) rfl dL_law_884 ?_
        refine E_iload_n (pc := 885) rfl dL_law_885 ?_
        refine E_iconst (pc := 886) 2 rfl dL_law_886 ?_
        refine E_iadd (pc := 887) dL_law_887 ?_
        refine T_sload (pc := 888) rfl hN dL_law_888 h (fun v151 h => ?_)
        refine E_aloadS (pc := 889) rfl dL_law_889 ?_
        refine E_iload_n (pc := 890) rfl dL_law_890 ?_
        refine E_iconst (pc := 891) 3 rfl dL_law_891 ?_
        refine E_iadd (pc := 892) dL_law_892 ?_
        refine T_sload (pc := 893) rfl hN dL_law_893 h (fun v152 h => ?_)
        refine E_aloadS (pc := 894) rfl dL_law_894 ?_
        refine E_iload_n (pc := 895) rfl dL_law_895 ?_
        refine E_iconst (pc := 896) 4 rfl dL_law_896 ?_
        refine E_iadd (pc := 897) dL_law_897 ?_
        refine T_sload (pc := 898) rfl hN dL_law_898 h (fun v153 h => ?_)
        obtain ⟨v155, s154, hp, h⟩ := bd2_some h
        refine E_callV (pc := 899) (As := [_, _, _, _]) (fc := (2, 43)) s13_88_12 oX12_sheet dL_law_899 (mem_ob (ent_st MO247)) rfl rfl (Nat.le_of_ble_eq_true rfl) rfl rfl (by decide) (e_X12_sheet hp) (fun rv_ M_ hq_ => ?_)
        obtain ⟨rfl, rfl⟩ := hq_
        refine T_icmp_eq (pc := 902) 1537 dL_law_902 (by decide) h (fun h => ?_) (fun h => ?_)
        · refine T_iinc (pc := 1537) (m := 6) (L2 := [_, _, _, _]) rfl rfl rfl rfl dL_law_1537 ?_
          refine E_goto (pc := 1540) 18 (by decide) dL_law_1540 ?_
          exact ih h
        · refine E_iconst (pc := 905) 0 rfl dL_law_905 ?_
          exact E_ireturn (pc := 906) rfl (by decide) dL_law_906 (QI_of h)
      refine T_tbl (pc := 33) (m := 16) 907 (by omega) (by decide) (by decide) dL_law_33 rfl (by decide) h (fun h => ?_) (fun u33_16 h => ?_)
      · refine E_aload_n (pc := 907) rfl dL_law_907 ?_
        refine E_aloadS (pc := 908) rfl dL_law_908 ?_
        refine E_iload_n (pc := 909) rfl dL_law_909 ?_
        refine E_iconst (pc := 910) 1 rfl dL_law_910 ?_
        refine E_iadd (pc := 911) dL_law_911 ?_
        refine T_sload (pc := 912) rfl hN dL_law_912 h (fun v156 h => ?_)
        refine E_aloadS (pc := 913) rfl dL_law_913 ?_
        refine E_iload_n (pc := 914) rfl dL_law_914 ?_
        refine E_iconst (pc := 915) 2 rfl dL_law_915 ?_
        refine E_iadd (pc := 916) dL_law_916 ?_
        refine T_sload (pc := 917) rfl hN dL_law_917 h (fun v157 h => ?_)
        refine T_if_eq (pc := 918) 925 dL_law_918 (by decide) h (fun h => ?_) (fun h => ?_)
        · refine E_iconst (pc := 925) 0 rfl dL_law_925 ?_
          refine e_L_law_926 hN (fun h => ih h) h
        · refine E_iconst (pc := 921) 1 rfl dL_law_921 ?_
          refine E_goto (pc := 922) 926 (by decide) dL_law_922 ?_
          refine e_L_law_926 hN (fun h => ih h) h
      refine T_tbl (pc := 33) (m := 17) 956 (by omega) (by decide) (by decide) dL_law_33 rfl (by decide) h (fun h => ?_) (fun u33_17 h => ?_)
      · refine E_aload_n (pc := 956) rfl dL_law_956 ?_
        refine E_aloadS (pc := 957) rfl dL_law_957 ?_
        refine E_iload_n (pc := 958) rfl dL_law_958 ?_
        refine E_iconst (pc := 959) 1 rfl dL_law_959 ?_
        refine E_iadd (pc := 960) dL_law_960 ?_
        refine T_sload (pc := 961) rfl hN dL_law_961 h (fun v164 h => ?_)
        refine E_aloadS (pc := 962) rfl dL_law_962 ?_
        refine E_iload_n (pc := 963) rfl dL_law_963 ?_
        refine E_iconst (pc := 964) 2 rfl dL_law_964 ?_
        refine E_iadd (pc := 965) dL_law_965 ?_
        refine T_sload (pc := 966) rfl hN dL_law_966 h (fun v165 h => ?_)
        obtain ⟨v167, s166, hp, h⟩ := bd2_some h
        refine E_callV (pc := 967) (As := [_, _]) (fc := (1, 22)) s13_94_11 oX11_pieceOf dL_law_967 (mem_ob (ent_st SW0)) rfl rfl (Nat.le_of_ble_eq_true rfl) rfl rfl (by decide) (e_X11_pieceOf hp) (fun rv_ M_ hq_ => ?_)
        obtain ⟨rfl, rfl⟩ := hq_
        refine E_aload_n (pc := 970) rfl dL_law_970 ?_
        refine E_aloadS (pc := 971) rfl dL_law_971 ?_
        refine E_iload_n (pc := 972) rfl dL_law_972 ?_
        refine E_iconst (pc := 973) 1 rfl dL_law_973 ?_
        refine E_iadd (pc := 974) dL_law_974 ?_
        refine T_sload (pc := 975) rfl hN dL_law_975 h (fun v168 h => ?_)
        refine E_aloadS (pc := 976) rfl dL_law_976 ?_
        refine E_iload_n (pc := 977) rfl dL_law_977 ?_
        refine E_iconst (pc := 978) 2 rfl dL_law_978 ?_
        refine E_iadd (pc := 979) dL_law_979 ?_
        refine T_sload (pc := 980) rfl hN dL_law_980 h (fun v169 h => ?_)
        obtain ⟨v171, s170, hp, h⟩ := bd2_some h
        refine E_callV (pc := 981) (As := [_, _]) (fc := (1, 21)) s13_97_12 oX12_pieceOf dL_law_981 (mem_ob (ent_st MO247)) rfl rfl (Nat.le_of_ble_eq_true rfl) rfl rfl (by decide) (e_X12_pieceOf hp) (fun rv_ M_ hq_ => ?_)
        obtain ⟨rfl, rfl⟩ := hq_
        refine T_icmp_eq (pc := 984) 1537 dL_law_984 (by decide) h (fun h => ?_) (fun h => ?_)
        · refine T_iinc (pc := 1537) (m := 6) (L2 := [_, _, _, _]) rfl rfl rfl rfl dL_law_1537 ?_
          refine E_goto (pc := 1540) 18 (by decide) dL_law_1540 ?_
          exact ih h
        · refine E_iconst (pc := 987) 0 rfl dL_law_987 ?_
          exact E_ireturn (pc := 988) rfl (by decide) dL_law_988 (QI_of h)
      refine T_tbl (pc := 33) (m := 18) 989 (by omega) (by decide) (by decide) dL_law_33 rfl (by decide) h (fun h => ?_) (fun u33_18 h => ?_)
      · refine E_aload_n (pc := 989) rfl dL_law_989 ?_
        obtain ⟨v173, s172, hp, h⟩ := bd2_some h
        refine E_callV (pc := 990) (As := []) (fc := (6, 155)) s13_98_11 oX11_least dL_law_990 (mem_ob (ent_st SW0)) rfl rfl (Nat.le_of_ble_eq_true rfl) rfl rfl (by decide) (e_X11_least hp) (fun rv_ M_ hq_ => ?_)
        obtain ⟨rfl, rfl⟩ := hq_
        refine E_aload_n (pc := 993) rfl dL_law_993 ?_
        obtain ⟨v175, s174, hp, h⟩ := bd2_some h
        refine E_callV (pc := 994) (As := []) (fc := (3, 89)) s13_101_12 oX12_least dL_law_994 (mem_ob (ent_st MO247)) rfl rfl (Nat.le_of_ble_eq_true rfl) rfl rfl (by decide) (e_X12_least hp) (fun rv_ M_ hq_ => ?_)
        obtain ⟨rfl, rfl⟩ := hq_
        refine T_icmp_eq (pc := 997) 1537 dL_law_997 (by decide) h (fun h => ?_) (fun h => ?_)
        · refine T_iinc (pc := 1537) (m := 6) (L2 := [_, _, _, _]) rfl rfl rfl rfl dL_law_1537 ?_
          refine E_goto (pc := 1540) 18 (by decide) dL_law_1540 ?_
          exact ih h
        · refine E_iconst (pc := 1000) 0 rfl dL_law_1000 ?_
          exact E_ireturn (pc := 1001) rfl (by decide) dL_law_1001 (QI_of h)
      refine T_tbl (pc := 33) (m := 19) 1002 (by omega) (by decide) (by decide) dL_law_33 rfl (by decide) h (fun h => ?_) (fun u33_19 h => ?_)
      · refine E_aload_n (pc := 1002) rfl dL_law_1002 ?_
        obtain ⟨v177, s176, hp, h⟩ := bd2_some h
        refine E_callV (pc := 1003) (As := []) (fc := (6, 155)) s13_102_11 oX11_courses dL_law_1003 (mem_ob (ent_st SW0)) rfl rfl (Nat.le_of_ble_eq_true rfl) rfl rfl (by decide) (e_X11_courses hp) (fun rv_ M_ hq_ => ?_)
        obtain ⟨rfl, rfl⟩ := hq_
        refine E_aload_n (pc := 1006) rfl dL_law_1006 ?_
        obtain ⟨v179, s178, hp, h⟩ := bd2_some h
        refine E_callV (pc := 1007) (As := []) (fc := (3, 89)) s13_106_12 oX12_courses dL_law_1007 (mem_ob (ent_st MO247)) rfl rfl (Nat.le_of_ble_eq_true rfl) rfl rfl (by decide) (e_X12_courses hp) (fun rv_ M_ hq_ => ?_)
        obtain ⟨rfl, rfl⟩ := hq_
        refine E_lcmp (pc := 1010) dL_law_1010 ?_
        refine T_if_eq (pc := 1011) 1537 dL_law_1011 (by decide) h (fun h => ?_) (fun h => ?_)
        · refine T_iinc (pc := 1537) (m := 6) (L2 := [_, _, _, _]) rfl rfl rfl rfl dL_law_1537 ?_
          refine E_goto (pc := 1540) 18 (by decide) dL_law_1540 ?_
          exact ih h
        · refine E_iconst (pc := 1014) 0 rfl dL_law_1014 ?_
          exact E_ireturn (pc := 1015) rfl (by decide) dL_law_1015 (QI_of h)
      refine T_tbl (pc := 33) (m := 20) 1016 (by omega) (by decide) (by decide) dL_law_33 rfl (by decide) h (fun h => ?_) (fun u33_20 h => ?_)
      · refine E_aload_n (pc := 1016) rfl dL_law_1016 ?_
        refine E_aloadS (pc := 1017) rfl dL_law_1017 ?_
        refine E_iload_n (pc := 1018) rfl dL_law_1018 ?_
        refine E_iconst (pc := 1019) 1 rfl dL_law_1019 ?_
        refine E_iadd (pc := 1020) dL_law_1020 ?_
        refine T_sload (pc := 1021) rfl hN dL_law_1021 h (fun v180 h => ?_)
        refine E_aloadS (pc := 1022) rfl dL_law_1022 ?_
        refine E_iload_n (pc := 1023) rfl dL_law_1023 ?_
        refine E_iconst (pc := 1024) 2 rfl dL_law_1024 ?_
        refine E_iadd (pc := 1025) dL_law_1025 ?_
        refine T_sload (pc := 1026) rfl hN dL_law_1026 h (fun v181 h => ?_)
        obtain ⟨v183, s182, hp, h⟩ := bd2_some h
        refine E_callV (pc := 1027) (As := [_, _]) (fc := (6, 155)) s13_107_11 oX11_is dL_law_1027 (mem_ob (ent_st SW0)) rfl rfl (Nat.le_of_ble_eq_true rfl) rfl rfl (by decide) (e_X11_is hp) (fun rv_ M_ hq_ => ?_)
        obtain ⟨rfl, rfl⟩ := hq_
        refine E_aload_n (pc := 1030) rfl dL_law_1030 ?_
        refine E_aloadS (pc := 1031) rfl dL_law_1031 ?_
        refine E_iload_n (pc := 1032) rfl dL_law_1032 ?_
        refine E_iconst (pc := 1033) 1 rfl dL_law_1033 ?_
        refine E_iadd (pc := 1034) dL_law_1034 ?_
        refine T_sload (pc := 1035) rfl hN dL_law_1035 h (fun v184 h => ?_)
        refine E_aloadS (pc := 1036) rfl dL_law_1036 ?_
        refine E_iload_n (pc := 1037) rfl dL_law_1037 ?_
        refine E_iconst (pc := 1038) 2 rfl dL_law_1038 ?_
        refine E_iadd (pc := 1039) dL_law_1039 ?_
        refine T_sload (pc := 1040) rfl hN dL_law_1040 h (fun v185 h => ?_)
        obtain ⟨v187, s186, hp, h⟩ := bd2_some h
        refine E_callV (pc := 1041) (As := [_, _]) (fc := (3, 89)) s13_110_12 oX12_is dL_law_1041 (mem_ob (ent_st MO247)) rfl rfl (Nat.le_of_ble_eq_true rfl) rfl rfl (by decide) (e_X12_is hp) (fun rv_ M_ hq_ => ?_)
        obtain ⟨rfl, rfl⟩ := hq_
        refine T_icmp_eq (pc := 1044) 1537 dL_law_1044 (by decide) h (fun h => ?_) (fun h => ?_)
        · refine T_iinc (pc := 1537) (m := 6) (L2 := [_, _, _, _]) rfl rfl rfl rfl dL_law_1537 ?_
          refine E_goto (pc := 1540) 18 (by decide) dL_law_1540 ?_
          exact ih h
        · refine E_iconst (pc := 1047) 0 rfl dL_law_1047 ?_
          exact E_ireturn (pc := 1048) rfl (by decide) dL_law_1048 (QI_of h)
      refine T_tbl (pc := 33) (m := 21) 1049 (by omega) (by decide) (by decide) dL_law_33 rfl (by decide) h (fun h => ?_) (fun u33_21 h => ?_)
      · refine E_aload_n (pc := 1049) rfl dL_law_1049 ?_
        refine E_aloadS (pc := 1050) rfl dL_law_1050 ?_
        refine E_iload_n (pc := 1051) rfl dL_law_1051 ?_
        refine E_iconst (pc := 1052) 1 rfl dL_law_1052 ?_
        refine E_iadd (pc := 1053) dL_law_1053 ?_
        refine T_sload (pc := 1054) rfl hN dL_law_1054 h (fun v188 h => ?_)
        refine E_aloadS (pc := 1055) rfl dL_law_1055 ?_
        refine E_iload_n (pc := 1056) rfl dL_law_1056 ?_
        refine E_iconst (pc := 1057) 2 rfl dL_law_1057 ?_
        refine E_iadd (pc := 1058) dL_law_1058 ?_
        refine T_sload (pc := 1059) rfl hN dL_law_1059 h (fun v189 h => ?_)
        obtain ⟨v191, s190, hp, h⟩ := bd2_some h
        refine E_callV (pc := 1060) (As := [_, _]) (fc := (6, 155)) s13_111_11 oX11_value dL_law_1060 (mem_ob (ent_st SW0)) rfl rfl (Nat.le_of_ble_eq_true rfl) rfl rfl (by decide) (e_X11_value hp) (fun rv_ M_ hq_ => ?_)
        obtain ⟨rfl, rfl⟩ := hq_
        refine E_aload_n (pc := 1063) rfl dL_law_1063 ?_
        refine E_aloadS (pc := 1064) rfl dL_law_1064 ?_
        refine E_iload_n (pc := 1065) rfl dL_law_1065 ?_
        refine E_iconst (pc := 1066) 1 rfl dL_law_1066 ?_
        refine E_iadd (pc := 1067) dL_law_1067 ?_
        refine T_sload (pc := 1068) rfl hN dL_law_1068 h (fun v192 h => ?_)
        refine E_aloadS (pc := 1069) rfl dL_law_1069 ?_
        refine E_iload_n (pc := 1070) rfl dL_law_1070 ?_
        refine E_iconst (pc := 1071) 2 rfl dL_law_1071 ?_
        refine E_iadd (pc := 1072) dL_law_1072 ?_
        refine T_sload (pc := 1073) rfl hN dL_law_1073 h (fun v193 h => ?_)
        obtain ⟨v195, s194, hp, h⟩ := bd2_some h
        refine E_callV (pc := 1074) (As := [_, _]) (fc := (3, 89)) s13_114_12 oX12_value dL_law_1074 (mem_ob (ent_st MO247)) rfl rfl (Nat.le_of_ble_eq_true rfl) rfl rfl (by decide) (e_X12_value hp) (fun rv_ M_ hq_ => ?_)
        obtain ⟨rfl, rfl⟩ := hq_
        refine T_icmp_eq (pc := 1077) 1537 dL_law_1077 (by decide) h (fun h => ?_) (fun h => ?_)
        · refine T_iinc (pc := 1537) (m := 6) (L2 := [_, _, _, _]) rfl rfl rfl rfl dL_law_1537 ?_
          refine E_goto (pc := 1540) 18 (by decide) dL_law_1540 ?_
          exact ih h
        · refine E_iconst (pc := 1080) 0 rfl dL_law_1080 ?_
          exact E_ireturn (pc := 1081) rfl (by decide) dL_law_1081 (QI_of h)
      refine T_tbl (pc := 33) (m := 22) 1082 (by omega) (by decide) (by decide) dL_law_33 rfl (by decide) h (fun h => ?_) (fun u33_22 h => ?_)
      · refine E_aload_n (pc := 1082) rfl dL_law_1082 ?_
        refine E_aloadS (pc := 1083) rfl dL_law_1083 ?_
        refine E_iload_n (pc := 1084) rfl dL_law_1084 ?_
        refine E_iconst (pc := 1085) 1 rfl dL_law_1085 ?_
        refine E_iadd (pc := 1086) dL_law_1086 ?_
        refine T_sload (pc := 1087) rfl hN dL_law_1087 h (fun v196 h => ?_)
        refine E_aloadS (pc := 1088) rfl dL_law_1088 ?_
        refine E_iload_n (pc := 1089) rfl dL_law_1089 ?_
        refine E_iconst (pc := 1090) 2 rfl dL_law_1090 ?_
        refine E_iadd (pc := 1091) dL_law_1091 ?_
        refine T_sload (pc := 1092) rfl hN dL_law_1092 h (fun v197 h => ?_)
        obtain ⟨v199, s198, hp, h⟩ := bd2_some h
        refine E_callV (pc := 1093) (As := [_, _]) (fc := (6, 158)) s13_115_11 oX11_why dL_law_1093 (mem_ob (ent_st SW0)) rfl rfl (Nat.le_of_ble_eq_true rfl) rfl rfl (by decide) (e_X11_why hp) (fun rv_ M_ hq_ => ?_)
        obtain ⟨rfl, rfl⟩ := hq_
        refine E_aload_n (pc := 1096) rfl dL_law_1096 ?_
        refine E_aloadS (pc := 1097) rfl dL_law_1097 ?_
        refine E_iload_n (pc := 1098) rfl dL_law_1098 ?_
        refine E_iconst (pc := 1099) 1 rfl dL_law_1099 ?_
        refine E_iadd (pc := 1100) dL_law_1100 ?_
        refine T_sload (pc := 1101) rfl hN dL_law_1101 h (fun v200 h => ?_)
        refine E_aloadS (pc := 1102) rfl dL_law_1102 ?_
        refine E_iload_n (pc := 1103) rfl dL_law_1103 ?_
        refine E_iconst (pc := 1104) 2 rfl dL_law_1104 ?_
        refine E_iadd (pc := 1105) dL_law_1105 ?_
        refine T_sload (pc := 1106) rfl hN dL_law_1106 h (fun v201 h => ?_)
        obtain ⟨v203, s202, hp, h⟩ := bd2_some h
        refine E_callV (pc := 1107) (As := [_, _]) (fc := (4, 111)) s13_118_12 oX12_why dL_law_1107 (mem_ob (ent_st MO247)) rfl rfl (Nat.le_of_ble_eq_true rfl) rfl rfl (by decide) (e_X12_why hp) (fun rv_ M_ hq_ => ?_)
        obtain ⟨rfl, rfl⟩ := hq_
        refine T_icmp_eq (pc := 1110) 1537 dL_law_1110 (by decide) h (fun h => ?_) (fun h => ?_)
        · refine T_iinc (pc := 1537) (m := 6) (L2 := [_, _, _, _]) rfl rfl rfl rfl dL_law_1537 ?_
          refine E_goto (pc := 1540) 18 (by decide) dL_law_1540 ?_
          exact ih h
        · refine E_iconst (pc := 1113) 0 rfl dL_law_1113 ?_
          exact E_ireturn (pc := 1114) rfl (by decide) dL_law_1114 (QI_of h)
      refine T_tbl (pc := 33) (m := 23) 1115 (by omega) (by decide) (by decide) dL_law_33 rfl (by decide) h (fun h => ?_) (fun u33_23 h => ?_)
      · refine E_aload_n (pc := 1115) rfl dL_law_1115 ?_
        obtain ⟨v205, s204, hp, h⟩ := bd2_some h
        refine E_callV (pc := 1116) (As := []) (fc := (6, 155)) s13_119_11 oX11_quarrel dL_law_1116 (mem_ob (ent_st SW0)) rfl rfl (Nat.le_of_ble_eq_true rfl) rfl rfl (by decide) (e_X11_quarrel hp) (fun rv_ M_ hq_ => ?_)
        obtain ⟨rfl, rfl⟩ := hq_
        refine E_aload_n (pc := 1119) rfl dL_law_1119 ?_
        obtain ⟨v207, s206, hp, h⟩ := bd2_some h
        refine E_callV (pc := 1120) (As := []) (fc := (3, 89)) s13_122_12 oX12_quarrel dL_law_1120 (mem_ob (ent_st MO247)) rfl rfl (Nat.le_of_ble_eq_true rfl) rfl rfl (by decide) (e_X12_quarrel hp) (fun rv_ M_ hq_ => ?_)
        obtain ⟨rfl, rfl⟩ := hq_
        refine T_icmp_eq (pc := 1123) 1537 dL_law_1123 (by decide) h (fun h => ?_) (fun h => ?_)
        · refine T_iinc (pc := 1537) (m := 6) (L2 := [_, _, _, _]) rfl rfl rfl rfl dL_law_1537 ?_
          refine E_goto (pc := 1540) 18 (by decide) dL_law_1540 ?_
          exact ih h
        · refine E_iconst (pc := 1126) 0 rfl dL_law_1126 ?_
          exact E_ireturn (pc := 1127) rfl (by decide) dL_law_1127 (QI_of h)
      refine T_tbl (pc := 33) (m := 24) 1128 (by omega) (by decide) (by decide) dL_law_33 rfl (by decide) h (fun h => ?_) (fun u33_24 h => ?_)
      · refine E_aload_n (pc := 1128) rfl dL_law_1128 ?_
        obtain ⟨v209, s208, hp, h⟩ := bd2_some h
        refine E_callV (pc := 1129) (As := []) (fc := (6, 155)) s13_123_11 oX11_out dL_law_1129 (mem_ob (ent_st SW0)) rfl rfl (Nat.le_of_ble_eq_true rfl) rfl rfl (by decide) (e_X11_out hp) (fun rv_ M_ hq_ => ?_)
        obtain ⟨rfl, rfl⟩ := hq_
        refine E_aload_n (pc := 1132) rfl dL_law_1132 ?_
        obtain ⟨v211, s210, hp, h⟩ := bd2_some h
        refine E_callV (pc := 1133) (As := []) (fc := (3, 89)) s13_126_12 oX12_out dL_law_1133 (mem_ob (ent_st MO247)) rfl rfl (Nat.le_of_ble_eq_true rfl) rfl rfl (by decide) (e_X12_out hp) (fun rv_ M_ hq_ => ?_)
        obtain ⟨rfl, rfl⟩ := hq_
        refine T_icmp_eq (pc := 1136) 1537 dL_law_1136 (by decide) h (fun h => ?_) (fun h => ?_)
        · refine T_iinc (pc := 1537) (m := 6) (L2 := [_, _, _, _]) rfl rfl rfl rfl dL_law_1537 ?_
          refine E_goto (pc := 1540) 18 (by decide) dL_law_1540 ?_
          exact ih h
        · refine E_iconst (pc := 1139) 0 rfl dL_law_1139 ?_
          exact E_ireturn (pc := 1140) rfl (by decide) dL_law_1140 (QI_of h)
      refine T_tbl (pc := 33) (m := 25) 1141 (by omega) (by decide) (by decide) dL_law_33 rfl (by decide) h (fun h => ?_) (fun u33_25 h => ?_)
      · refine E_aload_n (pc := 1141) rfl dL_law_1141 ?_
        refine E_aloadS (pc := 1142) rfl dL_law_1142 ?_
        refine E_iload_n (pc := 1143) rfl dL_law_1143 ?_
        refine E_iconst (pc := 1144) 1 rfl dL_law_1144 ?_
        refine E_iadd (pc := 1145) dL_law_1145 ?_
        refine T_sload (pc := 1146) rfl hN dL_law_1146 h (fun v212 h => ?_)
        refine E_aloadS (pc := 1147) rfl dL_law_1147 ?_
        refine E_iload_n (pc := 1148) rfl dL_law_1148 ?_
        refine E_iconst (pc := 1149) 2 rfl dL_law_1149 ?_
        refine E_iadd (pc := 1150) dL_law_1150 ?_
        refine T_sload (pc := 1151) rfl hN dL_law_1151 h (fun v213 h => ?_)
        refine E_aloadS (pc := 1152) rfl dL_law_1152 ?_
        refine E_iload_n (pc := 1153) rfl dL_law_1153 ?_
        refine E_iconst (pc := 1154) 3 rfl dL_law_1154 ?_
        refine E_iadd (pc := 1155) dL_law_1155 ?_
        refine T_sload (pc := 1156) rfl hN dL_law_1156 h (fun v214 h => ?_)
        obtain ⟨v216, s215, hp, h⟩ := bd2_some h
        refine E_callV (pc := 1157) (As := [_, _, _]) (fc := (6, 155)) s13_127_11 oX11_must dL_law_1157 (mem_ob (ent_st SW0)) rfl rfl (Nat.le_of_ble_eq_true rfl) rfl rfl (by decide) (e_X11_must hp) (fun rv_ M_ hq_ => ?_)
        obtain ⟨rfl, rfl⟩ := hq_
        refine E_aload_n (pc := 1160) rfl dL_law_1160 ?_
        refine E_aloadS (pc := 1161) rfl dL_law_1161 ?_
        refine E_iload_n (pc := 1162) rfl dL_law_1162 ?_
        refine E_iconst (pc := 1163) 1 rfl dL_law_1163 ?_
        refine E_iadd (pc := 1164) dL_law_1164 ?_
        refine T_sload (pc := 1165) rfl hN dL_law_1165 h (fun v217 h => ?_)
        refine E_aloadS (pc := 1166) rfl dL_law_1166 ?_
        refine E_iload_n (pc := 1167) rfl dL_law_1167 ?_
        refine E_iconst (pc := 1168) 2 rfl dL_law_1168 ?_
        refine E_iadd (pc := 1169) dL_law_1169 ?_
        refine T_sload (pc := 1170) rfl hN dL_law_1170 h (fun v218 h => ?_)
        refine E_aloadS (pc := 1171) rfl dL_law_1171 ?_
        refine E_iload_n (pc := 1172) rfl dL_law_1172 ?_
        refine E_iconst (pc := 1173) 3 rfl dL_law_1173 ?_
        refine E_iadd (pc := 1174) dL_law_1174 ?_
        refine T_sload (pc := 1175) rfl hN dL_law_1175 h (fun v219 h => ?_)
        obtain ⟨v221, s220, hp, h⟩ := bd2_some h
        refine E_callV (pc := 1176) (As := [_, _, _]) (fc := (3, 89)) s13_130_12 oX12_must dL_law_1176 (mem_ob (ent_st MO247)) rfl rfl (Nat.le_of_ble_eq_true rfl) rfl rfl (by decide) (e_X12_must hp) (fun rv_ M_ hq_ => ?_)
        obtain ⟨rfl, rfl⟩ := hq_
        refine T_icmp_eq (pc := 1179) 1537 dL_law_1179 (by decide) h (fun h => ?_) (fun h => ?_)
        · refine T_iinc (pc := 1537) (m := 6) (L2 := [_, _, _, _]) rfl rfl rfl rfl dL_law_1537 ?_
          refine E_goto (pc := 1540) 18 (by decide) dL_law_1540 ?_
          exact ih h
        · refine E_iconst (pc := 1182) 0 rfl dL_law_1182 ?_
          exact E_ireturn (pc := 1183) rfl (by decide) dL_law_1183 (QI_of h)
      refine T_tbl (pc := 33) (m := 26) 1184 (by omega) (by decide) (by decide) dL_law_33 rfl (by decide) h (fun h => ?_) (fun u33_26 h => ?_)
      · refine E_aload_n (pc := 1184) rfl dL_law_1184 ?_
        refine E_aloadS (pc := 1185) rfl dL_law_1185 ?_
        refine E_iload_n (pc := 1186) rfl dL_law_1186 ?_
        refine E_iconst (pc := 1187) 1 rfl dL_law_1187 ?_
        refine E_iadd (pc := 1188) dL_law_1188 ?_
        refine T_sload (pc := 1189) rfl hN dL_law_1189 h (fun v222 h => ?_)
        obtain ⟨v224, s223, hp, h⟩ := bd2_some h
        refine E_callV (pc := 1190) (As := [_]) (fc := (6, 155)) s13_131_11 oX11_could dL_law_1190 (mem_ob (ent_st SW0)) rfl rfl (Nat.le_of_ble_eq_true rfl) rfl rfl (by decide) (e_X11_could hp) (fun rv_ M_ hq_ => ?_)
        obtain ⟨rfl, rfl⟩ := hq_
        refine E_aload_n (pc := 1193) rfl dL_law_1193 ?_
        refine E_aloadS (pc := 1194) rfl dL_law_1194 ?_
        refine E_iload_n (pc := 1195) rfl dL_law_1195 ?_
        refine E_iconst (pc := 1196) 1 rfl dL_law_1196 ?_
        refine E_iadd (pc := 1197) dL_law_1197 ?_
        refine T_sload (pc := 1198) rfl hN dL_law_1198 h (fun v225 h => ?_)
        obtain ⟨v227, s226, hp, h⟩ := bd2_some h
        refine E_callV (pc := 1199) (As := [_]) (fc := (3, 89)) s13_134_12 oX12_could dL_law_1199 (mem_ob (ent_st MO247)) rfl rfl (Nat.le_of_ble_eq_true rfl) rfl rfl (by decide) (e_X12_could hp) (fun rv_ M_ hq_ => ?_)
        obtain ⟨rfl, rfl⟩ := hq_
        refine T_icmp_eq (pc := 1202) 1537 dL_law_1202 (by decide) h (fun h => ?_) (fun h => ?_)
        · refine T_iinc (pc := 1537) (m := 6) (L2 := [_, _, _, _]) rfl rfl rfl rfl dL_law_1537 ?_
          refine E_goto (pc := 1540) 18 (by decide) dL_law_1540 ?_
          exact ih h
        · refine E_iconst (pc := 1205) 0 rfl dL_law_1205 ?_
          exact E_ireturn (pc := 1206) rfl (by decide) dL_law_1206 (QI_of h)
      refine T_tbl (pc := 33) (m := 27) 1207 (by omega) (by decide) (by decide) dL_law_33 rfl (by decide) h (fun h => ?_) (fun u33_27 h => ?_)
      · refine E_aload_n (pc := 1207) rfl dL_law_1207 ?_
        refine E_aloadS (pc := 1208) rfl dL_law_1208 ?_
        refine E_iload_n (pc := 1209) rfl dL_law_1209 ?_
        refine E_iconst (pc := 1210) 1 rfl dL_law_1210 ?_
        refine E_iadd (pc := 1211) dL_law_1211 ?_
        refine T_sload (pc := 1212) rfl hN dL_law_1212 h (fun v228 h => ?_)
        refine E_aloadS (pc := 1213) rfl dL_law_1213 ?_
        refine E_iload_n (pc := 1214) rfl dL_law_1214 ?_
        refine E_iconst (pc := 1215) 2 rfl dL_law_1215 ?_
        refine E_iadd (pc := 1216) dL_law_1216 ?_
        refine T_sload (pc := 1217) rfl hN dL_law_1217 h (fun v229 h => ?_)
        refine E_aloadS (pc := 1218) rfl dL_law_1218 ?_
        refine E_iload_n (pc := 1219) rfl dL_law_1219 ?_
        refine E_iconst (pc := 1220) 3 rfl dL_law_1220 ?_
        refine E_iadd (pc := 1221) dL_law_1221 ?_
        refine T_sload (pc := 1222) rfl hN dL_law_1222 h (fun v230 h => ?_)
        obtain ⟨v232, s231, hp, h⟩ := bd2_some h
        refine E_callV (pc := 1223) (As := [_, _, _]) (fc := (6, 155)) s13_135_11 oX11_ever dL_law_1223 (mem_ob (ent_st SW0)) rfl rfl (Nat.le_of_ble_eq_true rfl) rfl rfl (by decide) (e_X11_ever hp) (fun rv_ M_ hq_ => ?_)
        obtain ⟨rfl, rfl⟩ := hq_
        refine E_aload_n (pc := 1226) rfl dL_law_1226 ?_
        refine E_aloadS (pc := 1227) rfl dL_law_1227 ?_
        refine E_iload_n (pc := 1228) rfl dL_law_1228 ?_
        refine E_iconst (pc := 1229) 1 rfl dL_law_1229 ?_
        refine E_iadd (pc := 1230) dL_law_1230 ?_
        refine T_sload (pc := 1231) rfl hN dL_law_1231 h (fun v233 h => ?_)
        refine E_aloadS (pc := 1232) rfl dL_law_1232 ?_
        refine E_iload_n (pc := 1233) rfl dL_law_1233 ?_
        refine E_iconst (pc := 1234) 2 rfl dL_law_1234 ?_
        refine E_iadd (pc := 1235) dL_law_1235 ?_
        refine T_sload (pc := 1236) rfl hN dL_law_1236 h (fun v234 h => ?_)
        refine E_aloadS (pc := 1237) rfl dL_law_1237 ?_
        refine E_iload_n (pc := 1238) rfl dL_law_1238 ?_
        refine E_iconst (pc := 1239) 3 rfl dL_law_1239 ?_
        refine E_iadd (pc := 1240) dL_law_1240 ?_
        refine T_sload (pc := 1241) rfl hN dL_law_1241 h (fun v235 h => ?_)
        obtain ⟨v237, s236, hp, h⟩ := bd2_some h
        refine E_callV (pc := 1242) (As := [_, _, _]) (fc := (3, 89)) s13_138_12 oX12_ever dL_law_1242 (mem_ob (ent_st MO247)) rfl rfl (Nat.le_of_ble_eq_true rfl) rfl rfl (by decide) (e_X12_ever hp) (fun rv_ M_ hq_ => ?_)
        obtain ⟨rfl, rfl⟩ := hq_
        refine T_icmp_eq (pc := 1245) 1537 dL_law_1245 (by decide) h (fun h => ?_) (fun h => ?_)
        · refine T_iinc (pc := 1537) (m := 6) (L2 := [_, _, _, _]) rfl rfl rfl rfl dL_law_1537 ?_
          refine E_goto (pc := 1540) 18 (by decide) dL_law_1540 ?_
          exact ih h
        · refine E_iconst (pc := 1248) 0 rfl dL_law_1248 ?_
          exact E_ireturn (pc := 1249) rfl (by decide) dL_law_1249 (QI_of h)
      refine T_tbl (pc := 33) (m := 28) 1250 (by omega) (by decide) (by decide) dL_law_33 rfl (by decide) h (fun h => ?_) (fun u33_28 h => ?_)
      · refine E_aload_n (pc := 1250) rfl dL_law_1250 ?_
        refine E_aloadS (pc := 1251) rfl dL_law_1251 ?_
        refine E_iload_n (pc := 1252) rfl dL_law_1252 ?_
        refine E_iconst (pc := 1253) 1 rfl dL_law_1253 ?_
        refine E_iadd (pc := 1254) dL_law_1254 ?_
        refine T_sload (pc := 1255) rfl hN dL_law_1255 h (fun v238 h => ?_)
        refine E_aloadS (pc := 1256) rfl dL_law_1256 ?_
        refine E_iload_n (pc := 1257) rfl dL_law_1257 ?_
        refine E_iconst (pc := 1258) 2 rfl dL_law_1258 ?_
        refine E_iadd (pc := 1259) dL_law_1259 ?_
        refine T_sload (pc := 1260) rfl hN dL_law_1260 h (fun v239 h => ?_)
        refine E_aloadS (pc := 1261) rfl dL_law_1261 ?_
        refine E_iload_n (pc := 1262) rfl dL_law_1262 ?_
        refine E_iconst (pc := 1263) 3 rfl dL_law_1263 ?_
        refine E_iadd (pc := 1264) dL_law_1264 ?_
        refine T_sload (pc := 1265) rfl hN dL_law_1265 h (fun v240 h => ?_)
        obtain ⟨v242, s241, hp, h⟩ := bd2_some h
        refine E_callV (pc := 1266) (As := [_, _, _]) (fc := (6, 155)) s13_139_11 oX11_howLong dL_law_1266 (mem_ob (ent_st SW0)) rfl rfl (Nat.le_of_ble_eq_true rfl) rfl rfl (by decide) (e_X11_howLong hp) (fun rv_ M_ hq_ => ?_)
        obtain ⟨rfl, rfl⟩ := hq_
        refine E_aload_n (pc := 1269) rfl dL_law_1269 ?_
        refine E_aloadS (pc := 1270) rfl dL_law_1270 ?_
        refine E_iload_n (pc := 1271) rfl dL_law_1271 ?_
        refine E_iconst (pc := 1272) 1 rfl dL_law_1272 ?_
        refine E_iadd (pc := 1273) dL_law_1273 ?_
        refine T_sload (pc := 1274) rfl hN dL_law_1274 h (fun v243 h => ?_)
        refine E_aloadS (pc := 1275) rfl dL_law_1275 ?_
        refine E_iload_n (pc := 1276) rfl dL_law_1276 ?_
        refine E_iconst (pc := 1277) 2 rfl dL_law_1277 ?_
        refine E_iadd (pc := 1278) dL_law_1278 ?_
        refine T_sload (pc := 1279) rfl hN dL_law_1279 h (fun v244 h => ?_)
        refine E_aloadS (pc := 1280) rfl dL_law_1280 ?_
        refine E_iload_n (pc := 1281) rfl dL_law_1281 ?_
        refine E_iconst (pc := 1282) 3 rfl dL_law_1282 ?_
        refine E_iadd (pc := 1283) dL_law_1283 ?_
        refine T_sload (pc := 1284) rfl hN dL_law_1284 h (fun v245 h => ?_)
        obtain ⟨v247, s246, hp, h⟩ := bd2_some h
        refine E_callV (pc := 1285) (As := [_, _, _]) (fc := (3, 89)) s13_142_12 oX12_howLong dL_law_1285 (mem_ob (ent_st MO247)) rfl rfl (Nat.le_of_ble_eq_true rfl) rfl rfl (by decide) (e_X12_howLong hp) (fun rv_ M_ hq_ => ?_)
        obtain ⟨rfl, rfl⟩ := hq_
        refine T_icmp_eq (pc := 1288) 1537 dL_law_1288 (by decide) h (fun h => ?_) (fun h => ?_)
        · refine T_iinc (pc := 1537) (m := 6) (L2 := [_, _, _, _]) rfl rfl rfl rfl dL_law_1537 ?_
          refine E_goto (pc := 1540) 18 (by decide) dL_law_1540 ?_
          exact ih h
        · refine E_iconst (pc := 1291) 0 rfl dL_law_1291 ?_
          exact E_ireturn (pc := 1292) rfl (by decide) dL_law_1292 (QI_of h)
      refine T_tbl (pc := 33) (m := 29) 1293 (by omega) (by decide) (by decide) dL_law_33 rfl (by decide) h (fun h => ?_) (fun u33_29 h => ?_)
      · refine E_aload_n (pc := 1293) rfl dL_law_1293 ?_
        refine E_aloadS (pc := 1294) rfl dL_law_1294 ?_
        refine E_iload_n (pc := 1295) rfl dL_law_1295 ?_
        refine E_iconst (pc := 1296) 1 rfl dL_law_1296 ?_
        refine E_iadd (pc := 1297) dL_law_1297 ?_
        refine T_sload (pc := 1298) rfl hN dL_law_1298 h (fun v248 h => ?_)
        refine E_aloadS (pc := 1299) rfl dL_law_1299 ?_
        refine E_iload_n (pc := 1300) rfl dL_law_1300 ?_
        refine E_iconst (pc := 1301) 2 rfl dL_law_1301 ?_
        refine E_iadd (pc := 1302) dL_law_1302 ?_
        refine T_sload (pc := 1303) rfl hN dL_law_1303 h (fun v249 h => ?_)
        obtain ⟨v251, s250, hp, h⟩ := bd2_some h
        refine E_callV (pc := 1304) (As := [_, _]) (fc := (6, 155)) s13_143_11 oX11_since dL_law_1304 (mem_ob (ent_st SW0)) rfl rfl (Nat.le_of_ble_eq_true rfl) rfl rfl (by decide) (e_X11_since hp) (fun rv_ M_ hq_ => ?_)
        obtain ⟨rfl, rfl⟩ := hq_
        refine E_aload_n (pc := 1307) rfl dL_law_1307 ?_
        refine E_aloadS (pc := 1308) rfl dL_law_1308 ?_
        refine E_iload_n (pc := 1309) rfl dL_law_1309 ?_
        refine E_iconst (pc := 1310) 1 rfl dL_law_1310 ?_
        refine E_iadd (pc := 1311) dL_law_1311 ?_
        refine T_sload (pc := 1312) rfl hN dL_law_1312 h (fun v252 h => ?_)
        refine E_aloadS (pc := 1313) rfl dL_law_1313 ?_
        refine E_iload_n (pc := 1314) rfl dL_law_1314 ?_
        refine E_iconst (pc := 1315) 2 rfl dL_law_1315 ?_
        refine E_iadd (pc := 1316) dL_law_1316 ?_
        refine T_sload (pc := 1317) rfl hN dL_law_1317 h (fun v253 h => ?_)
        obtain ⟨v255, s254, hp, h⟩ := bd2_some h
        refine E_callV (pc := 1318) (As := [_, _]) (fc := (4, 111)) s13_146_12 oX12_since dL_law_1318 (mem_ob (ent_st MO247)) rfl rfl (Nat.le_of_ble_eq_true rfl) rfl rfl (by decide) (e_X12_since hp) (fun rv_ M_ hq_ => ?_)
        obtain ⟨rfl, rfl⟩ := hq_
        refine T_icmp_eq (pc := 1321) 1537 dL_law_1321 (by decide) h (fun h => ?_) (fun h => ?_)
        · refine T_iinc (pc := 1537) (m := 6) (L2 := [_, _, _, _]) rfl rfl rfl rfl dL_law_1537 ?_
          refine E_goto (pc := 1540) 18 (by decide) dL_law_1540 ?_
          exact ih h
        · refine E_iconst (pc := 1324) 0 rfl dL_law_1324 ?_
          exact E_ireturn (pc := 1325) rfl (by decide) dL_law_1325 (QI_of h)
      refine T_tbl (pc := 33) (m := 30) 1326 (by omega) (by decide) (by decide) dL_law_33 rfl (by decide) h (fun h => ?_) (fun u33_30 h => ?_)
      · refine E_aload_n (pc := 1326) rfl dL_law_1326 ?_
        refine E_aloadS (pc := 1327) rfl dL_law_1327 ?_
        refine E_iload_n (pc := 1328) rfl dL_law_1328 ?_
        refine E_iconst (pc := 1329) 1 rfl dL_law_1329 ?_
        refine E_iadd (pc := 1330) dL_law_1330 ?_
        refine T_sload (pc := 1331) rfl hN dL_law_1331 h (fun v256 h => ?_)
        refine E_aloadS (pc := 1332) rfl dL_law_1332 ?_
        refine E_iload_n (pc := 1333) rfl dL_law_1333 ?_
        refine E_iconst (pc := 1334) 2 rfl dL_law_1334 ?_
        refine E_iadd (pc := 1335) dL_law_1335 ?_
        refine T_sload (pc := 1336) rfl hN dL_law_1336 h (fun v257 h => ?_)
        refine E_aloadS (pc := 1337) rfl dL_law_1337 ?_
        refine E_iload_n (pc := 1338) rfl dL_law_1338 ?_
        refine E_iconst (pc := 1339) 3 rfl dL_law_1339 ?_
        refine E_iadd (pc := 1340) dL_law_1340 ?_
        refine T_sload (pc := 1341) rfl hN dL_law_1341 h (fun v258 h => ?_)
        obtain ⟨v260, s259, hp, h⟩ := bd2_some h
        refine E_callV (pc := 1342) (As := [_, _, _]) (fc := (6, 159)) s13_147_11 oX11_plan dL_law_1342 (mem_ob (ent_st SW0)) rfl rfl (Nat.le_of_ble_eq_true rfl) rfl rfl (by decide) (e_X11_plan hp) (fun rv_ M_ hq_ => ?_)
        obtain ⟨rfl, rfl⟩ := hq_
        refine E_aload_n (pc := 1345) rfl dL_law_1345 ?_
        refine E_aloadS (pc := 1346) rfl dL_law_1346 ?_
        refine E_iload_n (pc := 1347) rfl dL_law_1347 ?_
        refine E_iconst (pc := 1348) 1 rfl dL_law_1348 ?_
        refine E_iadd (pc := 1349) dL_law_1349 ?_
        refine T_sload (pc := 1350) rfl hN dL_law_1350 h (fun v261 h => ?_)
        refine E_aloadS (pc := 1351) rfl dL_law_1351 ?_
        refine E_iload_n (pc := 1352) rfl dL_law_1352 ?_
        refine E_iconst (pc := 1353) 2 rfl dL_law_1353 ?_
        refine E_iadd (pc := 1354) dL_law_1354 ?_
        refine T_sload (pc := 1355) rfl hN dL_law_1355 h (fun v262 h => ?_)
        refine E_aloadS (pc := 1356) rfl dL_law_1356 ?_
        refine E_iload_n (pc := 1357) rfl dL_law_1357 ?_
        refine E_iconst (pc := 1358) 3 rfl dL_law_1358 ?_
        refine E_iadd (pc := 1359) dL_law_1359 ?_
        refine T_sload (pc := 1360) rfl hN dL_law_1360 h (fun v263 h => ?_)
        obtain ⟨v265, s264, hp, h⟩ := bd2_some h
        refine E_callV (pc := 1361) (As := [_, _, _]) (fc := (3, 89)) s13_150_12 oX12_plan dL_law_1361 (mem_ob (ent_st MO247)) rfl rfl (Nat.le_of_ble_eq_true rfl) rfl rfl (by decide) (e_X12_plan hp) (fun rv_ M_ hq_ => ?_)
        obtain ⟨rfl, rfl⟩ := hq_
        refine T_icmp_eq (pc := 1364) 1537 dL_law_1364 (by decide) h (fun h => ?_) (fun h => ?_)
        · refine T_iinc (pc := 1537) (m := 6) (L2 := [_, _, _, _]) rfl rfl rfl rfl dL_law_1537 ?_
          refine E_goto (pc := 1540) 18 (by decide) dL_law_1540 ?_
          exact ih h
        · refine E_iconst (pc := 1367) 0 rfl dL_law_1367 ?_
          exact E_ireturn (pc := 1368) rfl (by decide) dL_law_1368 (QI_of h)
      refine T_tbl (pc := 33) (m := 31) 1369 (by omega) (by decide) (by decide) dL_law_33 rfl (by decide) h (fun h => ?_) (fun u33_31 h => ?_)
      · refine E_aload_n (pc := 1369) rfl dL_law_1369 ?_
        refine E_aloadS (pc := 1370) rfl dL_law_1370 ?_
        refine E_iload_n (pc := 1371) rfl dL_law_1371 ?_
        refine E_iconst (pc := 1372) 1 rfl dL_law_1372 ?_
        refine E_iadd (pc := 1373) dL_law_1373 ?_
        refine T_sload (pc := 1374) rfl hN dL_law_1374 h (fun v266 h => ?_)
        refine E_aloadS (pc := 1375) rfl dL_law_1375 ?_
        refine E_iload_n (pc := 1376) rfl dL_law_1376 ?_
        refine E_iconst (pc := 1377) 2 rfl dL_law_1377 ?_
        refine E_iadd (pc := 1378) dL_law_1378 ?_
        refine T_sload (pc := 1379) rfl hN dL_law_1379 h (fun v267 h => ?_)
        refine E_aloadS (pc := 1380) rfl dL_law_1380 ?_
        refine E_iload_n (pc := 1381) rfl dL_law_1381 ?_
        refine E_iconst (pc := 1382) 3 rfl dL_law_1382 ?_
        refine E_iadd (pc := 1383) dL_law_1383 ?_
        refine T_sload (pc := 1384) rfl hN dL_law_1384 h (fun v268 h => ?_)
        refine E_aloadS (pc := 1385) rfl dL_law_1385 ?_
        refine E_iload_n (pc := 1386) rfl dL_law_1386 ?_
        refine E_iconst (pc := 1387) 4 rfl dL_law_1387 ?_
        refine E_iadd (pc := 1388) dL_law_1388 ?_
        refine T_sload (pc := 1389) rfl hN dL_law_1389 h (fun v269 h => ?_)
        obtain ⟨v271, s270, hp, h⟩ := bd2_some h
        refine E_callV (pc := 1390) (As := [_, _, _, _]) (fc := (6, 158)) s13_151_11 oX11_seemed dL_law_1390 (mem_ob (ent_st SW0)) rfl rfl (Nat.le_of_ble_eq_true rfl) rfl rfl (by decide) (e_X11_seemed hp) (fun rv_ M_ hq_ => ?_)
        obtain ⟨rfl, rfl⟩ := hq_
        refine E_aload_n (pc := 1393) rfl dL_law_1393 ?_
        refine E_aloadS (pc := 1394) rfl dL_law_1394 ?_
        refine E_iload_n (pc := 1395) rfl dL_law_1395 ?_
        refine E_iconst (pc := 1396) 1 rfl dL_law_1396 ?_
        refine E_iadd (pc := 1397) dL_law_1397 ?_
        refine T_sload (pc := 1398) rfl hN dL_law_1398 h (fun v272 h => ?_)
        refine E_aloadS (pc := 1399) rfl dL_law_1399 ?_
        refine E_iload_n (pc := 1400) rfl dL_law_1400 ?_
        refine E_iconst (pc := 1401) 2 rfl dL_law_1401 ?_
        refine E_iadd (pc := 1402) dL_law_1402 ?_
        refine T_sload (pc := 1403) rfl hN dL_law_1403 h (fun v273 h => ?_)
        refine E_aloadS (pc := 1404) rfl dL_law_1404 ?_
        refine E_iload_n (pc := 1405) rfl dL_law_1405 ?_
        refine E_iconst (pc := 1406) 3 rfl dL_law_1406 ?_
        refine E_iadd (pc := 1407) dL_law_1407 ?_
        refine T_sload (pc := 1408) rfl hN dL_law_1408 h (fun v274 h => ?_)
        refine E_aloadS (pc := 1409) rfl dL_law_1409 ?_
        refine E_iload_n (pc := 1410) rfl dL_law_1410 ?_
        refine E_iconst (pc := 1411) 4 rfl dL_law_1411 ?_
        refine E_iadd (pc := 1412) dL_law_1412 ?_
        refine T_sload (pc := 1413) rfl hN dL_law_1413 h (fun v275 h => ?_)
        obtain ⟨v277, s276, hp, h⟩ := bd2_some h
        refine E_callV (pc := 1414) (As := [_, _, _, _]) (fc := (3, 89)) s13_154_12 oX12_seemed dL_law_1414 (mem_ob (ent_st MO247)) rfl rfl (Nat.le_of_ble_eq_true rfl) rfl rfl (by decide) (e_X12_seemed hp) (fun rv_ M_ hq_ => ?_)
        obtain ⟨rfl, rfl⟩ := hq_
        refine T_icmp_eq (pc := 1417) 1537 dL_law_1417 (by decide) h (fun h => ?_) (fun h => ?_)
        · refine T_iinc (pc := 1537) (m := 6) (L2 := [_, _, _, _]) rfl rfl rfl rfl dL_law_1537 ?_
          refine E_goto (pc := 1540) 18 (by decide) dL_law_1540 ?_
          exact ih h
        · refine E_iconst (pc := 1420) 0 rfl dL_law_1420 ?_
          exact E_ireturn (pc := 1421) rfl (by decide) dL_law_1421 (QI_of h)
      refine T_tbl (pc := 33) (m := 32) 1422 (by omega) (by decide) (by decide) dL_law_33 rfl (by decide) h (fun h => ?_) (fun u33_32 h => ?_)
      · refine E_aload_n (pc := 1422) rfl dL_law_1422 ?_
        refine E_aloadS (pc := 1423) rfl dL_law_1423 ?_
        refine E_iload_n (pc := 1424) rfl dL_law_1424 ?_
        refine E_iconst (pc := 1425) 1 rfl dL_law_1425 ?_
        refine E_iadd (pc := 1426) dL_law_1426 ?_
        refine T_sload (pc := 1427) rfl hN dL_law_1427 h (fun v278 h => ?_)
        refine E_aloadS (pc := 1428) rfl dL_law_1428 ?_
        refine E_iload_n (pc := 1429) rfl dL_law_1429 ?_
        refine E_iconst (pc := 1430) 2 rfl dL_law_1430 ?_
        refine E_iadd (pc := 1431) dL_law_1431 ?_
        refine T_sload (pc := 1432) rfl hN dL_law_1432 h (fun v279 h => ?_)
        refine E_aloadS (pc := 1433) rfl dL_law_1433 ?_
        refine E_iload_n (pc := 1434) rfl dL_law_1434 ?_
        refine E_iconst (pc := 1435) 3 rfl dL_law_1435 ?_
        refine E_iadd (pc := 1436) dL_law_1436 ?_
        refine T_sload (pc := 1437) rfl hN dL_law_1437 h (fun v280 h => ?_)
        obtain ⟨v282, s281, hp, h⟩ := bd2_some h
        refine E_callV (pc := 1438) (As := [_, _, _]) (fc := (8, 177)) s13_155_11 oX11_act dL_law_1438 (mem_ob (ent_st SW0)) rfl rfl (Nat.le_of_ble_eq_true rfl) rfl rfl (by decide) (e_X11_act hp) (fun rv_ M_ hq_ => ?_)
        obtain ⟨rfl, rfl⟩ := hq_
        refine E_aload_n (pc := 1441) rfl dL_law_1441 ?_
        refine E_aloadS (pc := 1442) rfl dL_law_1442 ?_
        refine E_iload_n (pc := 1443) rfl dL_law_1443 ?_
        refine E_iconst (pc := 1444) 1 rfl dL_law_1444 ?_
        refine E_iadd (pc := 1445) dL_law_1445 ?_
        refine T_sload (pc := 1446) rfl hN dL_law_1446 h (fun v283 h => ?_)
        refine E_aloadS (pc := 1447) rfl dL_law_1447 ?_
        refine E_iload_n (pc := 1448) rfl dL_law_1448 ?_
        refine E_iconst (pc := 1449) 2 rfl dL_law_1449 ?_
        refine E_iadd (pc := 1450) dL_law_1450 ?_
        refine T_sload (pc := 1451) rfl hN dL_law_1451 h (fun v284 h => ?_)
        refine E_aloadS (pc := 1452) rfl dL_law_1452 ?_
        refine E_iload_n (pc := 1453) rfl dL_law_1453 ?_
        refine E_iconst (pc := 1454) 3 rfl dL_law_1454 ?_
        refine E_iadd (pc := 1455) dL_law_1455 ?_
        refine T_sload (pc := 1456) rfl hN dL_law_1456 h (fun v285 h => ?_)
        obtain ⟨v287, s286, hp, h⟩ := bd2_some h
        refine E_callV (pc := 1457) (As := [_, _, _]) (fc := (4, 90)) s13_158_12 oX12_act dL_law_1457 (mem_ob (ent_st MO247)) rfl rfl (Nat.le_of_ble_eq_true rfl) rfl rfl (by decide) (e_X12_act hp) (fun rv_ M_ hq_ => ?_)
        obtain ⟨rfl, rfl⟩ := hq_
        refine T_icmp_eq (pc := 1460) 1537 dL_law_1460 (by decide) h (fun h => ?_) (fun h => ?_)
        · refine T_iinc (pc := 1537) (m := 6) (L2 := [_, _, _, _]) rfl rfl rfl rfl dL_law_1537 ?_
          refine E_goto (pc := 1540) 18 (by decide) dL_law_1540 ?_
          exact ih h
        · refine E_iconst (pc := 1463) 0 rfl dL_law_1463 ?_
          exact E_ireturn (pc := 1464) rfl (by decide) dL_law_1464 (QI_of h)
      refine T_tbl (pc := 33) (m := 33) 1465 (by omega) (by decide) (by decide) dL_law_33 rfl (by decide) h (fun h => ?_) (fun u33_33 h => ?_)
      · refine E_aload_n (pc := 1465) rfl dL_law_1465 ?_
        refine E_aloadS (pc := 1466) rfl dL_law_1466 ?_
        refine E_iload_n (pc := 1467) rfl dL_law_1467 ?_
        refine E_iconst (pc := 1468) 1 rfl dL_law_1468 ?_
        refine E_iadd (pc := 1469) dL_law_1469 ?_
        refine T_sload (pc := 1470) rfl hN dL_law_1470 h (fun v288 h => ?_)
        obtain ⟨v290, s289, hp, h⟩ := bd2_some h
        refine E_callV (pc := 1471) (As := [_]) (fc := (0, 0)) s13_159_11 oX11_trace dL_law_1471 (mem_ob (ent_st SW0)) rfl rfl (Nat.le_of_ble_eq_true rfl) rfl rfl (by decide) (e_X11_trace hp) (fun rv_ M_ hq_ => ?_)
        obtain ⟨rfl, rfl⟩ := hq_
        refine E_aload_n (pc := 1474) rfl dL_law_1474 ?_
        refine E_aloadS (pc := 1475) rfl dL_law_1475 ?_
        refine E_iload_n (pc := 1476) rfl dL_law_1476 ?_
        refine E_iconst (pc := 1477) 1 rfl dL_law_1477 ?_
        refine E_iadd (pc := 1478) dL_law_1478 ?_
        refine T_sload (pc := 1479) rfl hN dL_law_1479 h (fun v291 h => ?_)
        obtain ⟨v293, s292, hp, h⟩ := bd2_some h
        refine E_callV (pc := 1480) (As := [_]) (fc := (0, 0)) s13_162_12 oX12_trace dL_law_1480 (mem_ob (ent_st MO247)) rfl rfl (Nat.le_of_ble_eq_true rfl) rfl rfl (by decide) (e_X12_trace hp) (fun rv_ M_ hq_ => ?_)
        obtain ⟨rfl, rfl⟩ := hq_
        refine T_icmp_eq (pc := 1483) 1537 dL_law_1483 (by decide) h (fun h => ?_) (fun h => ?_)
        · refine T_iinc (pc := 1537) (m := 6) (L2 := [_, _, _, _]) rfl rfl rfl rfl dL_law_1537 ?_
          refine E_goto (pc := 1540) 18 (by decide) dL_law_1540 ?_
          exact ih h
        · refine E_iconst (pc := 1486) 0 rfl dL_law_1486 ?_
          exact E_ireturn (pc := 1487) rfl (by decide) dL_law_1487 (QI_of h)
      refine T_tbl (pc := 33) (m := 34) 1488 (by omega) (by decide) (by decide) dL_law_33 rfl (by decide) h (fun h => ?_) (fun u33_34 h => ?_)
      · refine E_aload_n (pc := 1488) rfl dL_law_1488 ?_
        obtain ⟨v295, s294, hp, h⟩ := bd2_some h
        refine E_callV (pc := 1489) (As := []) (fc := (4, 124)) s13_163_11 oX11_image dL_law_1489 (mem_ob (ent_st SW0)) rfl rfl (Nat.le_of_ble_eq_true rfl) rfl rfl (by decide) (e_X11_image hp) (fun rv_ M_ hq_ => ?_)
        obtain ⟨rfl, rfl⟩ := hq_
        refine E_aload_n (pc := 1492) rfl dL_law_1492 ?_
        obtain ⟨v297, s296, hp, h⟩ := bd2_some h
        refine E_callV (pc := 1493) (As := []) (fc := (1, 26)) s13_166_12 oX12_image dL_law_1493 (mem_ob (ent_st MO247)) rfl rfl (Nat.le_of_ble_eq_true rfl) rfl rfl (by decide) (e_X12_image hp) (fun rv_ M_ hq_ => ?_)
        obtain ⟨rfl, rfl⟩ := hq_
        refine T_icmp_eq (pc := 1496) 1537 dL_law_1496 (by decide) h (fun h => ?_) (fun h => ?_)
        · refine T_iinc (pc := 1537) (m := 6) (L2 := [_, _, _, _]) rfl rfl rfl rfl dL_law_1537 ?_
          refine E_goto (pc := 1540) 18 (by decide) dL_law_1540 ?_
          exact ih h
        · refine E_iconst (pc := 1499) 0 rfl dL_law_1499 ?_
          exact E_ireturn (pc := 1500) rfl (by decide) dL_law_1500 (QI_of h)
      refine T_tbl (pc := 33) (m := 35) 1501 (by omega) (by decide) (by decide) dL_law_33 rfl (by decide) h (fun h => ?_) (fun u33_35 h => ?_)
      · refine E_aload_n (pc := 1501) rfl dL_law_1501 ?_
        obtain ⟨v299, s298, hp, h⟩ := bd2_some h
        refine E_callV (pc := 1502) (As := []) (fc := (4, 124)) s13_167_11 oX11_restore dL_law_1502 (mem_ob (ent_st SW0)) rfl rfl (Nat.le_of_ble_eq_true rfl) rfl rfl (by decide) (e_X11_restore hp) (fun rv_ M_ hq_ => ?_)
        obtain ⟨rfl, rfl⟩ := hq_
        refine E_aload_n (pc := 1505) rfl dL_law_1505 ?_
        obtain ⟨v301, s300, hp, h⟩ := bd2_some h
        refine E_callV (pc := 1506) (As := []) (fc := (1, 26)) s13_170_12 oX12_restore dL_law_1506 (mem_ob (ent_st MO247)) rfl rfl (Nat.le_of_ble_eq_true rfl) rfl rfl (by decide) (e_X12_restore hp) (fun rv_ M_ hq_ => ?_)
        obtain ⟨rfl, rfl⟩ := hq_
        refine T_icmp_eq (pc := 1509) 1537 dL_law_1509 (by decide) h (fun h => ?_) (fun h => ?_)
        · refine T_iinc (pc := 1537) (m := 6) (L2 := [_, _, _, _]) rfl rfl rfl rfl dL_law_1537 ?_
          refine E_goto (pc := 1540) 18 (by decide) dL_law_1540 ?_
          exact ih h
        · refine E_iconst (pc := 1512) 0 rfl dL_law_1512 ?_
          exact E_ireturn (pc := 1513) rfl (by decide) dL_law_1513 (QI_of h)
      refine T_tbl (pc := 33) (m := 36) 1514 (by omega) (by decide) (by decide) dL_law_33 rfl (by decide) h (fun h => ?_) (fun u33_36 h => ?_)
      · refine E_aload_n (pc := 1514) rfl dL_law_1514 ?_
        refine E_aloadS (pc := 1515) rfl dL_law_1515 ?_
        refine E_iload_n (pc := 1516) rfl dL_law_1516 ?_
        refine E_iconst (pc := 1517) 1 rfl dL_law_1517 ?_
        refine E_iadd (pc := 1518) dL_law_1518 ?_
        refine T_sload (pc := 1519) rfl hN dL_law_1519 h (fun v302 h => ?_)
        obtain ⟨v304, s303, hp, h⟩ := bd2_some h
        refine E_callV (pc := 1520) (As := [_]) (fc := (1, 20)) s13_171_11 oX11_status dL_law_1520 (mem_ob (ent_st SW0)) rfl rfl (Nat.le_of_ble_eq_true rfl) rfl rfl (by decide) (e_X11_status hp) (fun rv_ M_ hq_ => ?_)
        obtain ⟨rfl, rfl⟩ := hq_
        refine E_aload_n (pc := 1523) rfl dL_law_1523 ?_
        refine E_aloadS (pc := 1524) rfl dL_law_1524 ?_
        refine E_iload_n (pc := 1525) rfl dL_law_1525 ?_
        refine E_iconst (pc := 1526) 1 rfl dL_law_1526 ?_
        refine E_iadd (pc := 1527) dL_law_1527 ?_
        refine T_sload (pc := 1528) rfl hN dL_law_1528 h (fun v305 h => ?_)
        obtain ⟨v307, s306, hp, h⟩ := bd2_some h
        refine E_callV (pc := 1529) (As := [_]) (fc := (0, 0)) s13_174_12 oX12_status dL_law_1529 (mem_ob (ent_st MO247)) rfl rfl (Nat.le_of_ble_eq_true rfl) rfl rfl (by decide) (e_X12_status hp) (fun rv_ M_ hq_ => ?_)
        obtain ⟨rfl, rfl⟩ := hq_
        refine T_icmp_eq (pc := 1532) 1537 dL_law_1532 (by decide) h (fun h => ?_) (fun h => ?_)
        · refine T_iinc (pc := 1537) (m := 6) (L2 := [_, _, _, _]) rfl rfl rfl rfl dL_law_1537 ?_
          refine E_goto (pc := 1540) 18 (by decide) dL_law_1540 ?_
          exact ih h
        · refine E_iconst (pc := 1535) 0 rfl dL_law_1535 ?_
          exact E_ireturn (pc := 1536) rfl (by decide) dL_law_1536 (QI_of h)
      refine E_tblOut (pc := 33) 1537 (by omega) (by decide) dL_law_33 ?_
      refine T_iinc (pc := 1537) (m := 6) (L2 := [_, _, _, _]) rfl rfl rfl rfl dL_law_1537 ?_
      refine E_goto (pc := 1540) 18 (by decide) dL_law_1540 ?_
      exact ih h
