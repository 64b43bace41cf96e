/-! ===== branches whose way is known ===== -/
section KB
variable {G : GP} {md : MD} {f : Nat × Nat} {pc : Nat} {L st : List Value} {M : SMem} {P : Option Value → SMem → Prop} {x y : Int32} {off : Int}
theorem K_icmp_ne_t (tgt : Nat) (hd : decode md.2.2.1 pc = .ok (.if_icmp .ne off, 3)) (h : ¬ x = y) (ht : (pc : Int) + off = (tgt : Int)) (k : E G md f tgt L st M P) : E G md f pc L (.int y :: .int x :: st) M P := E_icmp_ne tgt hd ht (fun _ => k) (fun z => absurd z h)
theorem K_icmp_eq_t (tgt : Nat) (hd : decode md.2.2.1 pc = .ok (.if_icmp .eq off, 3)) (h : x = y) (ht : (pc : Int) + off = (tgt : Int)) (k : E G md f tgt L st M P) : E G md f pc L (.int y :: .int x :: st) M P := E_icmp_eq tgt hd ht (fun _ => k) (fun z => absurd h z)
theorem K_icmp_ne_f (tgt : Nat) (hd : decode md.2.2.1 pc = .ok (.if_icmp .ne off, 3)) (h : x = y) (ht : (pc : Int) + off = (tgt : Int)) (k : E G md f (pc + 3) L st M P) : E G md f pc L (.int y :: .int x :: st) M P := E_icmp_ne tgt hd ht (fun z => absurd h z) (fun _ => k)
theorem K_icmp_eq_f (tgt : Nat) (hd : decode md.2.2.1 pc = .ok (.if_icmp .eq off, 3)) (h : ¬ x = y) (ht : (pc : Int) + off = (tgt : Int)) (k : E G md f (pc + 3) L st M P) : E G md f pc L (.int y :: .int x :: st) M P := E_icmp_eq tgt hd ht (fun z => absurd z h) (fun _ => k)
theorem K_if_ne_t (tgt : Nat) (hd : decode md.2.2.1 pc = .ok (.ifCond .ne off, 3)) (h : ¬ x = 0) (ht : (pc : Int) + off = (tgt : Int)) (k : E G md f tgt L st M P) : E G md f pc L (.int x :: st) M P := E_if_ne tgt hd ht (fun _ => k) (fun z => absurd z h)
theorem K_if_eq_t (tgt : Nat) (hd : decode md.2.2.1 pc = .ok (.ifCond .eq off, 3)) (h : x = 0) (ht : (pc : Int) + off = (tgt : Int)) (k : E G md f tgt L st M P) : E G md f pc L (.int x :: st) M P := E_if_eq tgt hd ht (fun _ => k) (fun z => absurd h z)
theorem K_if_ne_f (tgt : Nat) (hd : decode md.2.2.1 pc = .ok (.ifCond .ne off, 3)) (h : x = 0) (ht : (pc : Int) + off = (tgt : Int)) (k : E G md f (pc + 3) L st M P) : E G md f pc L (.int x :: st) M P := E_if_ne tgt hd ht (fun z => absurd h z) (fun _ => k)
theorem K_if_eq_f (tgt : Nat) (hd : decode md.2.2.1 pc = .ok (.ifCond .eq off, 3)) (h : ¬ x = 0) (ht : (pc : Int) + off = (tgt : Int)) (k : E G md f (pc + 3) L st M P) : E G md f pc L (.int x :: st) M P := E_if_eq tgt hd ht (fun z => absurd z h) (fun _ => k)
theorem eqM {σ τ : ST} (h : σ = τ) (k : E G md f pc L st (mem τ) P) : E G md f pc L st (mem σ) P := h ▸ k
end KB
theorem nI_m1 {n : Nat} (h : n < 2 ^ 31) : ¬ nI n = -1 := by
  intro e
  have h1 := congrArg Int32.toInt e
  rw [nI_toInt h] at h1
  have h2 : (-1 : Int32).toInt = -1 := by decide
  omega
theorem minN {a b : Nat} (ha : a < 2 ^ 31) (hb : b < 2 ^ 31) : (if nI a < nI b then nI a else nI b) = nI (min b a) := by
  by_cases h : a < b
  · rw [if_pos ((nI_ltI ha hb).mpr h), Nat.min_eq_right (by omega)]
  · rw [if_neg (fun q => h ((nI_ltI ha hb).mp q)), Nat.min_eq_left (by omega)]
/-! ===== meet: one look and one choice, over the SPAN bits ===== -/
def cn (σ : ST) (c j : Nat) : Nat := (σ.1 (c + 1) j).toNatClampNeg
def CostOK (σ : ST) (c : Nat) : Prop := ∀ j, j < 13312 → σ.1 (c + 1) j = nI (cn σ c j) ∧ cn σ c j ≤ 1048576
/-- all but what a walk writes is as it was -/
def Off (c : Nat) (τ σ : ST) : Prop := (∀ x y, x ≠ c + 1 ∧ x ≠ c + 4 ∧ x ≠ c + 5 ∧ x ≠ c + 6 ∧ x ≠ c + 7 → τ.1 x y = σ.1 x y) ∧ (∀ x y, x ≠ c + 2 → τ.2.1 x y = σ.2.1 x y) ∧ τ.2.2 = σ.2.2
theorem Off.rf (c : Nat) (σ : ST) : Off c σ σ := ⟨fun _ _ _ => rfl, fun _ _ _ => rfl, rfl⟩
theorem Off.tr {c : Nat} {a b d : ST} (h : Off c a b) (h2 : Off c b d) : Off c a d := ⟨fun x y q => (h.1 x y q).trans (h2.1 x y q), fun x y q => (h.2.1 x y q).trans (h2.2.1 x y q), h.2.2.trans h2.2.2⟩
def stepF (σ : ST) (c h look next ch price low br du K ps b fl : Nat) : ST :=
  if cn σ c (h * 1024 + (fl * 256 + low)) + price < 1048576 then
    if (fl ||| br) &&& du = du then
      if ps = 0 then setI σ (c + 1) ((h + 1) * 1024 + ((fl ||| br) * 256 + next)) (nI (min (cn σ c ((h + 1) * 1024 + ((fl ||| br) * 256 + next))) (cn σ c (h * 1024 + (fl * 256 + low)) + price)))
      else if cn σ c ((h + 1) * 1024 + ((fl ||| br) * 256 + next)) = cn σ c (h * 1024 + (fl * 256 + low)) + price then
        if ps = 1 then keepF σ c h (fl * 256 + low) ((fl ||| br) * 256 + next) (σ.1 195 look) ch K
        else addF σ c h (fl * 256 + low) ((fl ||| br) * 256 + next) (if b < 10 then bit (σ.1 195 look).toNatClampNeg b else decide (b = 10 + ch))
      else σ
    else σ
  else σ
def meetF (σ : ST) (c h look next ch price low br du K ps b : Nat) : Nat → ST
  | 0 => σ
  | n + 1 => stepF (meetF σ c h look next ch price low br du K ps b n) c h look next ch price low br du K ps b n
theorem keepF_off (σ : ST) (c h fr to : Nat) (sd : Int32) (ch K : Nat) : Off c (keepF σ c h fr to sd ch K) σ := by
  refine ⟨fun x y q => ?_, fun x y q => ?_, rfl⟩
  · unfold keepF
    rw [I_setI_ne _ _ (by omega), I_setI_ne _ _ (by omega), I_setI_ne _ _ (by omega), I_setI_ne _ _ (by omega)]
    rfl
  · show (setJ σ _ _ _).2.1 x y = _
    rw [J_setJ, if_neg (fun z => q z.1)]
theorem addF_off (σ : ST) (c h fr to : Nat) (cnt : Bool) : Off c (addF σ c h fr to cnt) σ := by
  refine ⟨fun x y q => rfl, fun x y q => ?_, rfl⟩
  unfold addF
  rw [J_setJ, if_neg (fun z => q z.1)]
theorem stepF_off (σ : ST) (c h look next ch price low br du K ps b fl : Nat) : Off c (stepF σ c h look next ch price low br du K ps b fl) σ := by
  unfold stepF
  (repeat' split) <;> first | exact Off.rf c σ | exact keepF_off .. | exact addF_off .. | exact ⟨fun x y q => I_setI_ne _ _ (by omega), fun _ _ _ => rfl, rfl⟩
theorem CostOK.same {σ τ : ST} {c : Nat} (h : CostOK σ c) (e : ∀ j, τ.1 (c + 1) j = σ.1 (c + 1) j) : CostOK τ c := by
  intro j hj
  have := h j hj
  unfold cn at this ⊢
  rw [e j]
  exact this
theorem CostOK.set {σ : ST} {c k n : Nat} (h : CostOK σ c) (hn : n ≤ 1048576) : CostOK (setI σ (c + 1) k (nI n)) c := by
  intro j hj
  have := h j hj
  unfold cn at this ⊢
  rw [I_setI]
  by_cases e : j = k
  · rw [if_pos ⟨rfl, e⟩, nI_clamp (by omega)]
    exact ⟨rfl, hn⟩
  · rw [if_neg (fun z => e z.2)]
    exact this
theorem keepF_cost (σ : ST) (c h fr to : Nat) (sd : Int32) (ch K j : Nat) : (keepF σ c h fr to sd ch K).1 (c + 1) j = σ.1 (c + 1) j := by
  unfold keepF
  rw [I_setI_ne _ _ (by omega), I_setI_ne _ _ (by omega), I_setI_ne _ _ (by omega), I_setI_ne _ _ (by omega)]
  rfl
theorem stepF_cost {σ : ST} {c h look next ch price low br du K ps b fl : Nat} (hk : CostOK σ c) (hh : h < 12) (hx : (fl ||| br) < 4) (hn : next < 256) : CostOK (stepF σ c h look next ch price low br du K ps b fl) c := by
  unfold stepF
  (repeat' split) <;> first | exact hk | exact hk.same (fun j => keepF_cost ..) | exact hk.same (fun j => rfl) | exact hk.set (Nat.le_trans (Nat.min_le_left _ _) (hk _ (by omega)).2)
section ST6
variable {σ : ST} {c h look next ch price low br du K ps b fl sd : Nat}
theorem stepF_1 (g51 : cn σ c (h * 1024 + (fl * 256 + low)) + price < 1048576) (hcd : (fl ||| br) &&& du = du) (g104 : ps = 0) : stepF σ c h look next ch price low br du K ps b fl = setI σ (c + 1) ((h + 1) * 1024 + ((fl ||| br) * 256 + next)) (nI (min (cn σ c ((h + 1) * 1024 + ((fl ||| br) * 256 + next))) (cn σ c (h * 1024 + (fl * 256 + low)) + price))) := by
  unfold stepF
  rw [if_pos g51, if_pos hcd, if_pos g104]
theorem stepF_2 (g51 : cn σ c (h * 1024 + (fl * 256 + low)) + price < 1048576) (hcd : (fl ||| br) &&& du = du) (g104 : ¬ ps = 0) (g138 : cn σ c ((h + 1) * 1024 + ((fl ||| br) * 256 + next)) = cn σ c (h * 1024 + (fl * 256 + low)) + price) (g143 : ps = 1) (hs : σ.1 195 look = nI sd) : stepF σ c h look next ch price low br du K ps b fl = keepF σ c h (fl * 256 + low) ((fl ||| br) * 256 + next) (nI sd) ch K := by
  unfold stepF
  rw [if_pos g51, if_pos hcd, if_neg g104, if_pos g138, if_pos g143, hs]
theorem stepF_3 (g51 : cn σ c (h * 1024 + (fl * 256 + low)) + price < 1048576) (hcd : (fl ||| br) &&& du = du) (g104 : ¬ ps = 0) (g138 : cn σ c ((h + 1) * 1024 + ((fl ||| br) * 256 + next)) = cn σ c (h * 1024 + (fl * 256 + low)) + price) (g143 : ¬ ps = 1) (hs : σ.1 195 look = nI sd) (hsd : sd < 2 ^ 31) : stepF σ c h look next ch price low br du K ps b fl = addF σ c h (fl * 256 + low) ((fl ||| br) * 256 + next) (if b < 10 then bit sd b else decide (b = 10 + ch)) := by
  unfold stepF
  rw [if_pos g51, if_pos hcd, if_neg g104, if_pos g138, if_neg g143, hs, nI_clamp hsd]
theorem stepF_4 (g51 : cn σ c (h * 1024 + (fl * 256 + low)) + price < 1048576) (hcd : (fl ||| br) &&& du = du) (g104 : ¬ ps = 0) (g138 : ¬ cn σ c ((h + 1) * 1024 + ((fl ||| br) * 256 + next)) = cn σ c (h * 1024 + (fl * 256 + low)) + price) : stepF σ c h look next ch price low br du K ps b fl = σ := by
  unfold stepF
  rw [if_pos g51, if_pos hcd, if_neg g104, if_neg g138]
theorem stepF_5 (g51 : cn σ c (h * 1024 + (fl * 256 + low)) + price < 1048576) (hcd : ¬ (fl ||| br) &&& du = du) : stepF σ c h look next ch price low br du K ps b fl = σ := by
  unfold stepF
  rw [if_pos g51, if_neg hcd]
theorem stepF_6 (g51 : 1048576 ≤ cn σ c (h * 1024 + (fl * 256 + low)) + price) : stepF σ c h look next ch price low br du K ps b fl = σ := by
  unfold stepF
  rw [if_neg (Nat.not_lt.mpr g51)]
end ST6
theorem c_X0_flagsAfter_y {G : GP} {σ : ST} {a h fl ch br du : Nat} (ha : AS a) (hh : h < 12) (hch : ch < 7) (hbr : σ.1 (a + 6) (h * 7 + ch) = nI br) (hdu : σ.1 (a + 7) h = nI du) (hfl : fl < 4) (hbr4 : br < 4) (hdu4 : du < 4) (hx : (fl ||| br) &&& du = du) : E G mX0_flagsAfter (0, 0) 0 [.ref a, .int (nI fl), .int (nI h), .int (nI ch), D0] [] (mem σ) (fun rv M' => rv = some (.int (nI (fl ||| br))) ∧ M' = mem σ) := by
  have := c_X0_flagsAfter (G := G) ha hh hch hbr hdu hfl hbr4 hdu4
  rw [if_pos hx] at this
  exact this
theorem c_X0_flagsAfter_n {G : GP} {σ : ST} {a h fl ch br du : Nat} (ha : AS a) (hh : h < 12) (hch : ch < 7) (hbr : σ.1 (a + 6) (h * 7 + ch) = nI br) (hdu : σ.1 (a + 7) h = nI du) (hfl : fl < 4) (hbr4 : br < 4) (hdu4 : du < 4) (hx : ¬ (fl ||| br) &&& du = du) : E G mX0_flagsAfter (0, 0) 0 [.ref a, .int (nI fl), .int (nI h), .int (nI ch), D0] [] (mem σ) (fun rv M' => rv = some (.int (-1)) ∧ M' = mem σ) := by
  have := c_X0_flagsAfter (G := G) ha hh hch hbr hdu hfl hbr4 hdu4
  rw [if_neg hx] at this
  exact this
theorem c_X2_meet {G : GP} {σ : ST} {c h look next ch price low br du K ps b F sd : Nat} (hc : CU c) (hh : h < 12) (hlk : look < 1024) (hlo : look % 256 = low) (hnx : next < 256) (hch : ch < 7) (hpr : price < 100) (hps : ps < 3) (hF : σ.1 c 9 = nI F) (hF4 : F ≤ 4) (hK : σ.1 c 7 = nI K) (hK5 : K ≤ 5) (hb : σ.1 c 11 = nI b) (hb16 : b < 16) (htr : σ.1 195 look = nI sd) (hsd : sd < 2 ^ 31) (hbr : σ.1 (c + 8 + 6) (h * 7 + ch) = nI br) (hdu : σ.1 (c + 8 + 7) h = nI du) (hbr4 : br < 4) (hdu4 : du < 4) (hsh : ∀ fr, (fr % 256) >>> K < 32) (hc195 : c ≠ 195 ∧ c + 1 ≠ 195 ∧ c + 4 ≠ 195 ∧ c + 5 ≠ 195 ∧ c + 6 ≠ 195 ∧ c + 7 ≠ 195) (hk0 : CostOK σ c) : E G mX2_meet (2, 50) 0 [.ref c, .int (nI ps), .int (nI h), .int (nI look), .int (nI next), .int (nI ch), .int (nI price), D0, D0, D0, D0, D0, D0, D0] [] (mem σ) (fun rv M' => rv = none ∧ M' = mem (meetF σ c h look next ch price low br du K ps b F)) := by
  have hlow : low < 256 := by omega
  have key : ∀ (n i : Nat) (τ : ST), n + i = F + 1 → i ≤ F → τ = meetF σ c h look next ch price low br du K ps b i → Off c τ σ → CostOK τ c → ∀ v9 v10 v11 v12 v13 : Value, E G mX2_meet (2, 50) 10 [.ref c, .int (nI ps), .int (nI h), .int (nI look), .int (nI next), .int (nI ch), .int (nI price), .int (nI low), .int (nI i), v9, v10, v11, v12, v13] [] (mem τ) (fun rv M' => rv = none ∧ M' = mem (meetF σ c h look next ch price low br du K ps b F)) := by
    intro n
    induction n with
    | zero => intro i τ hi hle; omega
    | succ n ih =>
      intro i τ hi hle hτ hO hk v9 v10 v11 v12 v13
      refine E_iload (pc := 10) rfl dX2_meet_10 ?_
      refine E_aload_n (pc := 12) rfl dX2_meet_12 ?_
      refine V_getI (pc := 13) f2_29 dX2_meet_13 (ent_st hc.1) (by decide) rfl ((hO.1 c 9 (by omega)).trans hF) ?_
      refine N_icmp_ge (pc := 16) 189 dX2_meet_16 (by decide) (by omega) (by omega) (fun h1_ => ?_) (fun h1_ => ?_)
      · refine E_return (pc := 189) rfl dX2_meet_189 ?_
        obtain rfl : i = F := by omega
        exact ⟨rfl, by rw [hτ]⟩
      · refine E_iload (pc := 19) rfl dX2_meet_19 ?_
        refine E_bipush (pc := 21) (nI 8) (by decide) dX2_meet_21 ?_
        refine E_ishl (pc := 23) dX2_meet_23 ?_
        rw [nI_shl (by omega)]
        refine E_iload (pc := 24) rfl dX2_meet_24 ?_
        refine E_ior (pc := 26) dX2_meet_26 ?_
        rw [sh8 hlow]
        refine E_istore (pc := 27) (L2 := [_, _, _, _, _, _, _, _, _, _, _, _, _, _]) rfl rfl dX2_meet_27 ?_
        have hor : i ||| br < 4 := Nat.or_lt_two_pow (n := 2) (by omega) hbr4
        have hk1 := (hk (h * 1024 + (i * 256 + low)) (by omega)).2
        refine E_aload_n (pc := 29) rfl dX2_meet_29 ?_
        refine R_getR (pc := 30) (b := c + 1) f2_9 dX2_meet_30 (ent_st hc.1) (by decide) rfl rfl ?_
        refine E_iload_n (pc := 33) rfl dX2_meet_33 ?_
        refine E_sipush (pc := 34) (nI 1024) (by decide) dX2_meet_34 ?_
        refine E_imul (pc := 37) dX2_meet_37 ?_
        rw [nI_mul]
        refine E_iload (pc := 38) rfl dX2_meet_38 ?_
        refine E_iadd (pc := 40) dX2_meet_40 ?_
        rw [nI_add]
        refine V_iald (pc := 41) (j := ((h * 1024) + (i * 256 + low))) dX2_meet_41 (ent_st hc.2.1) rfl (by omega) (by decide) ((hk (((h * 1024) + (i * 256 + low))) (by omega)).1) ?_
        refine E_iload (pc := 42) rfl dX2_meet_42 ?_
        refine E_iadd (pc := 44) dX2_meet_44 ?_
        rw [nI_add]
        refine E_istore (pc := 45) (L2 := [_, _, _, _, _, _, _, _, _, _, _, _, _, _]) rfl rfl dX2_meet_45 ?_
        refine E_iload (pc := 47) rfl dX2_meet_47 ?_
        refine E_ldc (pc := 49) (v := nI 1048576) q2_93 dX2_meet_49 ?_
        refine N_icmp_ge (pc := 51) 69 dX2_meet_51 (by decide) (by omega) (by omega) (fun g51 => ?_) (fun g51 => ?_)
        · refine E_im1 (pc := 69) dX2_meet_69 ?_
          refine E_istore (pc := 70) (L2 := [_, _, _, _, _, _, _, _, _, _, _, _, _, _]) rfl rfl dX2_meet_70 ?_
          refine E_iload (pc := 72) rfl dX2_meet_72 ?_
          refine E_im1 (pc := 74) dX2_meet_74 ?_
          refine K_icmp_ne_f (pc := 75) 81 dX2_meet_75 rfl (by decide) ?_
          refine E_goto (pc := 78) 183 (by decide) dX2_meet_78 ?_
          refine E_iinc (pc := 183) (v := nI (i + 1)) (L2 := [_, _, _, _, _, _, _, _, _, _, _, _, _, _]) rfl (nI_inc (i) 1) rfl rfl dX2_meet_183 ?_
          refine E_goto (pc := 186) 10 (by decide) dX2_meet_186 ?_
          first | (refine eqM (τ := stepF τ c h look next ch price low br du K ps b i) (stepF_1 g51 hcd g104).symm (ih (i + 1) _ (by omega) (by omega) (by rw [hτ]; rfl) ((stepF_off ..).tr hO) (stepF_cost hk hh hor hnx) _ _ _ _ _)) | (refine eqM (τ := stepF τ c h look next ch price low br du K ps b i) (stepF_2 g51 hcd g104 g138 g143 ((hO.1 195 look (by omega)).trans htr)).symm (ih (i + 1) _ (by omega) (by omega) (by rw [hτ]; rfl) ((stepF_off ..).tr hO) (stepF_cost hk hh hor hnx) _ _ _ _ _)) | (refine eqM (τ := stepF τ c h look next ch price low br du K ps b i) (stepF_3 g51 hcd g104 g138 g143 ((hO.1 195 look (by omega)).trans htr) hsd).symm (ih (i + 1) _ (by omega) (by omega) (by rw [hτ]; rfl) ((stepF_off ..).tr hO) (stepF_cost hk hh hor hnx) _ _ _ _ _)) | (refine eqM (τ := stepF τ c h look next ch price low br du K ps b i) (stepF_4 g51 hcd g104 g138).symm (ih (i + 1) _ (by omega) (by omega) (by rw [hτ]; rfl) ((stepF_off ..).tr hO) (stepF_cost hk hh hor hnx) _ _ _ _ _)) | (refine eqM (τ := stepF τ c h look next ch price low br du K ps b i) (stepF_5 g51 hcd).symm (ih (i + 1) _ (by omega) (by omega) (by rw [hτ]; rfl) ((stepF_off ..).tr hO) (stepF_cost hk hh hor hnx) _ _ _ _ _)) | (refine eqM (τ := stepF τ c h look next ch price low br du K ps b i) (stepF_6 g51).symm (ih (i + 1) _ (by omega) (by omega) (by rw [hτ]; rfl) ((stepF_off ..).tr hO) (stepF_cost hk hh hor hnx) _ _ _ _ _))
        · by_cases hcd : (i ||| br) &&& du = du
          · refine E_aload_n (pc := 54) rfl dX2_meet_54 ?_
            refine R_getR (pc := 55) (b := c + 8) f2_72 dX2_meet_55 (ent_st hc.1) (by decide) rfl rfl ?_
            refine E_iload (pc := 58) rfl dX2_meet_58 ?_
            refine E_iload_n (pc := 60) rfl dX2_meet_60 ?_
            refine E_iload (pc := 61) rfl dX2_meet_61 ?_
            refine E_callV (pc := 63) (As := [_, _, _]) (fc := (0, 0)) s2_157_0 oX0_flagsAfter dX2_meet_63 (mem_ob (ent_st hc.2.2.2.2.2.2.2.2.1)) rfl rfl (Nat.le_of_ble_eq_true rfl) rfl rfl (by decide) (c_X0_flagsAfter_y (fl := i) (ha := hc.2.2.2.2.2.2.2.2) hh hch ((hO.1 _ _ (by omega)).trans hbr) ((hO.1 _ _ (by omega)).trans hdu) (by omega) hbr4 hdu4 hcd) (fun rv_ M_ hq_ => ?_)
            obtain ⟨rfl, rfl⟩ := hq_
            refine E_goto (pc := 66) 70 (by decide) dX2_meet_66 ?_
            refine E_istore (pc := 70) (L2 := [_, _, _, _, _, _, _, _, _, _, _, _, _, _]) rfl rfl dX2_meet_70 ?_
            refine E_iload (pc := 72) rfl dX2_meet_72 ?_
            refine E_im1 (pc := 74) dX2_meet_74 ?_
            refine K_icmp_ne_t (pc := 75) 81 dX2_meet_75 (nI_m1 (by omega)) (by decide) ?_
            refine E_iload (pc := 81) rfl dX2_meet_81 ?_
            refine E_bipush (pc := 83) (nI 8) (by decide) dX2_meet_83 ?_
            refine E_ishl (pc := 85) dX2_meet_85 ?_
            rw [nI_shl (by omega)]
            refine E_iload (pc := 86) rfl dX2_meet_86 ?_
            refine E_ior (pc := 88) dX2_meet_88 ?_
            rw [sh8 hnx]
            refine E_istore (pc := 89) (L2 := [_, _, _, _, _, _, _, _, _, _, _, _, _, _]) rfl rfl dX2_meet_89 ?_
            refine E_iload_n (pc := 91) rfl dX2_meet_91 ?_
            refine E_iconst (pc := 92) 1 rfl dX2_meet_92 ?_
            refine E_iadd (pc := 93) dX2_meet_93 ?_
            rw [nI_add]
            refine E_sipush (pc := 94) (nI 1024) (by decide) dX2_meet_94 ?_
            refine E_imul (pc := 97) dX2_meet_97 ?_
            rw [nI_mul]
            refine E_iload (pc := 98) rfl dX2_meet_98 ?_
            refine E_iadd (pc := 100) dX2_meet_100 ?_
            rw [nI_add]
            refine E_istore (pc := 101) (L2 := [_, _, _, _, _, _, _, _, _, _, _, _, _, _]) rfl rfl dX2_meet_101 ?_
            have hk2 := (hk ((h + 1) * 1024 + ((i ||| br) * 256 + next)) (by omega)).2
            refine E_iload_n (pc := 103) rfl dX2_meet_103 ?_
            refine N_if_ne (pc := 104) 129 dX2_meet_104 (by decide) (by omega) (fun g104 => ?_) (fun g104 => ?_)
            · refine E_aload_n (pc := 129) rfl dX2_meet_129 ?_
              refine R_getR (pc := 130) (b := c + 1) f2_9 dX2_meet_130 (ent_st hc.1) (by decide) rfl rfl ?_
              refine E_iload (pc := 133) rfl dX2_meet_133 ?_
              refine V_iald (pc := 135) (j := (((h + 1) * 1024) + ((i ||| br) * 256 + next))) dX2_meet_135 (ent_st hc.2.1) rfl (by omega) (by decide) ((hk ((((h + 1) * 1024) + ((i ||| br) * 256 + next))) (by omega)).1) ?_
              refine E_iload (pc := 136) rfl dX2_meet_136 ?_
              refine N_icmp_ne (pc := 138) 183 dX2_meet_138 (by decide) (by omega) (by omega) (fun g138 => ?_) (fun g138 => ?_)
              · refine E_iinc (pc := 183) (v := nI (i + 1)) (L2 := [_, _, _, _, _, _, _, _, _, _, _, _, _, _]) rfl (nI_inc (i) 1) rfl rfl dX2_meet_183 ?_
                refine E_goto (pc := 186) 10 (by decide) dX2_meet_186 ?_
                first | (refine eqM (τ := stepF τ c h look next ch price low br du K ps b i) (stepF_1 g51 hcd g104).symm (ih (i + 1) _ (by omega) (by omega) (by rw [hτ]; rfl) ((stepF_off ..).tr hO) (stepF_cost hk hh hor hnx) _ _ _ _ _)) | (refine eqM (τ := stepF τ c h look next ch price low br du K ps b i) (stepF_2 g51 hcd g104 g138 g143 ((hO.1 195 look (by omega)).trans htr)).symm (ih (i + 1) _ (by omega) (by omega) (by rw [hτ]; rfl) ((stepF_off ..).tr hO) (stepF_cost hk hh hor hnx) _ _ _ _ _)) | (refine eqM (τ := stepF τ c h look next ch price low br du K ps b i) (stepF_3 g51 hcd g104 g138 g143 ((hO.1 195 look (by omega)).trans htr) hsd).symm (ih (i + 1) _ (by omega) (by omega) (by rw [hτ]; rfl) ((stepF_off ..).tr hO) (stepF_cost hk hh hor hnx) _ _ _ _ _)) | (refine eqM (τ := stepF τ c h look next ch price low br du K ps b i) (stepF_4 g51 hcd g104 g138).symm (ih (i + 1) _ (by omega) (by omega) (by rw [hτ]; rfl) ((stepF_off ..).tr hO) (stepF_cost hk hh hor hnx) _ _ _ _ _)) | (refine eqM (τ := stepF τ c h look next ch price low br du K ps b i) (stepF_5 g51 hcd).symm (ih (i + 1) _ (by omega) (by omega) (by rw [hτ]; rfl) ((stepF_off ..).tr hO) (stepF_cost hk hh hor hnx) _ _ _ _ _)) | (refine eqM (τ := stepF τ c h look next ch price low br du K ps b i) (stepF_6 g51).symm (ih (i + 1) _ (by omega) (by omega) (by rw [hτ]; rfl) ((stepF_off ..).tr hO) (stepF_cost hk hh hor hnx) _ _ _ _ _))
              · refine E_iload_n (pc := 141) rfl dX2_meet_141 ?_
                refine E_iconst (pc := 142) 1 rfl dX2_meet_142 ?_
                refine N_icmp_ne (pc := 143) 166 dX2_meet_143 (by decide) (by omega) (by omega) (fun g143 => ?_) (fun g143 => ?_)
                · refine E_aload_n (pc := 166) rfl dX2_meet_166 ?_
                  refine E_iload_n (pc := 167) rfl dX2_meet_167 ?_
                  refine E_iload (pc := 168) rfl dX2_meet_168 ?_
                  refine E_iload (pc := 170) rfl dX2_meet_170 ?_
                  refine E_aload_n (pc := 172) rfl dX2_meet_172 ?_
                  refine R_getR (pc := 173) (b := 195) f2_61 dX2_meet_173 (ent_st hc.1) (by decide) rfl rfl ?_
                  refine E_iload_n (pc := 176) rfl dX2_meet_176 ?_
                  refine V_iald (pc := 177) (j := look) dX2_meet_177 (ent_st TR195) rfl (by omega) (by decide) ((hO.1 195 look (by omega)).trans htr) ?_
                  refine E_iload (pc := 178) rfl dX2_meet_178 ?_
                  refine E_callV (pc := 180) (As := [_, _, _, _, _]) (fc := (1, 20)) s2_165_2 oX2_addTally dX2_meet_180 (mem_ob (ent_st hc.1)) rfl rfl (Nat.le_of_ble_eq_true rfl) rfl rfl (by decide) (c_X2_addTally (c := c) hc hh (by omega) (by omega) hch ((hO.1 c 11 (by omega)).trans hb) hb16 hsd) (fun rv_ M_ hq_ => ?_)
                  obtain ⟨rfl, rfl⟩ := hq_
                  refine E_iinc (pc := 183) (v := nI (i + 1)) (L2 := [_, _, _, _, _, _, _, _, _, _, _, _, _, _]) rfl (nI_inc (i) 1) rfl rfl dX2_meet_183 ?_
                  refine E_goto (pc := 186) 10 (by decide) dX2_meet_186 ?_
                  first | (refine eqM (τ := stepF τ c h look next ch price low br du K ps b i) (stepF_1 g51 hcd g104).symm (ih (i + 1) _ (by omega) (by omega) (by rw [hτ]; rfl) ((stepF_off ..).tr hO) (stepF_cost hk hh hor hnx) _ _ _ _ _)) | (refine eqM (τ := stepF τ c h look next ch price low br du K ps b i) (stepF_2 g51 hcd g104 g138 g143 ((hO.1 195 look (by omega)).trans htr)).symm (ih (i + 1) _ (by omega) (by omega) (by rw [hτ]; rfl) ((stepF_off ..).tr hO) (stepF_cost hk hh hor hnx) _ _ _ _ _)) | (refine eqM (τ := stepF τ c h look next ch price low br du K ps b i) (stepF_3 g51 hcd g104 g138 g143 ((hO.1 195 look (by omega)).trans htr) hsd).symm (ih (i + 1) _ (by omega) (by omega) (by rw [hτ]; rfl) ((stepF_off ..).tr hO) (stepF_cost hk hh hor hnx) _ _ _ _ _)) | (refine eqM (τ := stepF τ c h look next ch price low br du K ps b i) (stepF_4 g51 hcd g104 g138).symm (ih (i + 1) _ (by omega) (by omega) (by rw [hτ]; rfl) ((stepF_off ..).tr hO) (stepF_cost hk hh hor hnx) _ _ _ _ _)) | (refine eqM (τ := stepF τ c h look next ch price low br du K ps b i) (stepF_5 g51 hcd).symm (ih (i + 1) _ (by omega) (by omega) (by rw [hτ]; rfl) ((stepF_off ..).tr hO) (stepF_cost hk hh hor hnx) _ _ _ _ _)) | (refine eqM (τ := stepF τ c h look next ch price low br du K ps b i) (stepF_6 g51).symm (ih (i + 1) _ (by omega) (by omega) (by rw [hτ]; rfl) ((stepF_off ..).tr hO) (stepF_cost hk hh hor hnx) _ _ _ _ _))
                · refine E_aload_n (pc := 146) rfl dX2_meet_146 ?_
                  refine E_iload_n (pc := 147) rfl dX2_meet_147 ?_
                  refine E_iload (pc := 148) rfl dX2_meet_148 ?_
                  refine E_iload (pc := 150) rfl dX2_meet_150 ?_
                  refine E_aload_n (pc := 152) rfl dX2_meet_152 ?_
                  refine R_getR (pc := 153) (b := 195) f2_61 dX2_meet_153 (ent_st hc.1) (by decide) rfl rfl ?_
                  refine E_iload_n (pc := 156) rfl dX2_meet_156 ?_
                  refine V_iald (pc := 157) (j := look) dX2_meet_157 (ent_st TR195) rfl (by omega) (by decide) ((hO.1 195 look (by omega)).trans htr) ?_
                  refine E_iload (pc := 158) rfl dX2_meet_158 ?_
                  refine E_callV (pc := 160) (As := [_, _, _, _, _]) (fc := (1, 24)) s2_161_2 oX2_keep dX2_meet_160 (mem_ob (ent_st hc.1)) rfl rfl (Nat.le_of_ble_eq_true rfl) rfl rfl (by decide) (c_X2_keep (c := c) hc hh (by omega) (by omega) hch ((hO.1 c 7 (by omega)).trans hK) hK5 (hsh _)) (fun rv_ M_ hq_ => ?_)
                  obtain ⟨rfl, rfl⟩ := hq_
                  refine E_goto (pc := 163) 183 (by decide) dX2_meet_163 ?_
                  refine E_iinc (pc := 183) (v := nI (i + 1)) (L2 := [_, _, _, _, _, _, _, _, _, _, _, _, _, _]) rfl (nI_inc (i) 1) rfl rfl dX2_meet_183 ?_
                  refine E_goto (pc := 186) 10 (by decide) dX2_meet_186 ?_
                  first | (refine eqM (τ := stepF τ c h look next ch price low br du K ps b i) (stepF_1 g51 hcd g104).symm (ih (i + 1) _ (by omega) (by omega) (by rw [hτ]; rfl) ((stepF_off ..).tr hO) (stepF_cost hk hh hor hnx) _ _ _ _ _)) | (refine eqM (τ := stepF τ c h look next ch price low br du K ps b i) (stepF_2 g51 hcd g104 g138 g143 ((hO.1 195 look (by omega)).trans htr)).symm (ih (i + 1) _ (by omega) (by omega) (by rw [hτ]; rfl) ((stepF_off ..).tr hO) (stepF_cost hk hh hor hnx) _ _ _ _ _)) | (refine eqM (τ := stepF τ c h look next ch price low br du K ps b i) (stepF_3 g51 hcd g104 g138 g143 ((hO.1 195 look (by omega)).trans htr) hsd).symm (ih (i + 1) _ (by omega) (by omega) (by rw [hτ]; rfl) ((stepF_off ..).tr hO) (stepF_cost hk hh hor hnx) _ _ _ _ _)) | (refine eqM (τ := stepF τ c h look next ch price low br du K ps b i) (stepF_4 g51 hcd g104 g138).symm (ih (i + 1) _ (by omega) (by omega) (by rw [hτ]; rfl) ((stepF_off ..).tr hO) (stepF_cost hk hh hor hnx) _ _ _ _ _)) | (refine eqM (τ := stepF τ c h look next ch price low br du K ps b i) (stepF_5 g51 hcd).symm (ih (i + 1) _ (by omega) (by omega) (by rw [hτ]; rfl) ((stepF_off ..).tr hO) (stepF_cost hk hh hor hnx) _ _ _ _ _)) | (refine eqM (τ := stepF τ c h look next ch price low br du K ps b i) (stepF_6 g51).symm (ih (i + 1) _ (by omega) (by omega) (by rw [hτ]; rfl) ((stepF_off ..).tr hO) (stepF_cost hk hh hor hnx) _ _ _ _ _))
            · refine E_aload_n (pc := 107) rfl dX2_meet_107 ?_
              refine R_getR (pc := 108) (b := c + 1) f2_9 dX2_meet_108 (ent_st hc.1) (by decide) rfl rfl ?_
              refine E_iload (pc := 111) rfl dX2_meet_111 ?_
              refine E_aload_n (pc := 113) rfl dX2_meet_113 ?_
              refine R_getR (pc := 114) (b := c + 1) f2_9 dX2_meet_114 (ent_st hc.1) (by decide) rfl rfl ?_
              refine E_iload (pc := 117) rfl dX2_meet_117 ?_
              refine V_iald (pc := 119) (j := (((h + 1) * 1024) + ((i ||| br) * 256 + next))) dX2_meet_119 (ent_st hc.2.1) rfl (by omega) (by decide) ((hk ((((h + 1) * 1024) + ((i ||| br) * 256 + next))) (by omega)).1) ?_
              refine E_iload (pc := 120) rfl dX2_meet_120 ?_
              refine E_mmin (pc := 122) (by decide +kernel) (by decide) (Nat.le_of_ble_eq_true rfl) dX2_meet_122 ?_
              rw [minN (by omega) (by omega)]
              refine R_iast (pc := 125) (j := (((h + 1) * 1024) + ((i ||| br) * 256 + next))) dX2_meet_125 (ent_st hc.2.1) rfl (by omega) (by decide) ?_
              refine E_goto (pc := 126) 183 (by decide) dX2_meet_126 ?_
              refine E_iinc (pc := 183) (v := nI (i + 1)) (L2 := [_, _, _, _, _, _, _, _, _, _, _, _, _, _]) rfl (nI_inc (i) 1) rfl rfl dX2_meet_183 ?_
              refine E_goto (pc := 186) 10 (by decide) dX2_meet_186 ?_
              first | (refine eqM (τ := stepF τ c h look next ch price low br du K ps b i) (stepF_1 g51 hcd g104).symm (ih (i + 1) _ (by omega) (by omega) (by rw [hτ]; rfl) ((stepF_off ..).tr hO) (stepF_cost hk hh hor hnx) _ _ _ _ _)) | (refine eqM (τ := stepF τ c h look next ch price low br du K ps b i) (stepF_2 g51 hcd g104 g138 g143 ((hO.1 195 look (by omega)).trans htr)).symm (ih (i + 1) _ (by omega) (by omega) (by rw [hτ]; rfl) ((stepF_off ..).tr hO) (stepF_cost hk hh hor hnx) _ _ _ _ _)) | (refine eqM (τ := stepF τ c h look next ch price low br du K ps b i) (stepF_3 g51 hcd g104 g138 g143 ((hO.1 195 look (by omega)).trans htr) hsd).symm (ih (i + 1) _ (by omega) (by omega) (by rw [hτ]; rfl) ((stepF_off ..).tr hO) (stepF_cost hk hh hor hnx) _ _ _ _ _)) | (refine eqM (τ := stepF τ c h look next ch price low br du K ps b i) (stepF_4 g51 hcd g104 g138).symm (ih (i + 1) _ (by omega) (by omega) (by rw [hτ]; rfl) ((stepF_off ..).tr hO) (stepF_cost hk hh hor hnx) _ _ _ _ _)) | (refine eqM (τ := stepF τ c h look next ch price low br du K ps b i) (stepF_5 g51 hcd).symm (ih (i + 1) _ (by omega) (by omega) (by rw [hτ]; rfl) ((stepF_off ..).tr hO) (stepF_cost hk hh hor hnx) _ _ _ _ _)) | (refine eqM (τ := stepF τ c h look next ch price low br du K ps b i) (stepF_6 g51).symm (ih (i + 1) _ (by omega) (by omega) (by rw [hτ]; rfl) ((stepF_off ..).tr hO) (stepF_cost hk hh hor hnx) _ _ _ _ _))
          · refine E_aload_n (pc := 54) rfl dX2_meet_54 ?_
            refine R_getR (pc := 55) (b := c + 8) f2_72 dX2_meet_55 (ent_st hc.1) (by decide) rfl rfl ?_
            refine E_iload (pc := 58) rfl dX2_meet_58 ?_
            refine E_iload_n (pc := 60) rfl dX2_meet_60 ?_
            refine E_iload (pc := 61) rfl dX2_meet_61 ?_
            refine E_callV (pc := 63) (As := [_, _, _]) (fc := (0, 0)) s2_157_0 oX0_flagsAfter dX2_meet_63 (mem_ob (ent_st hc.2.2.2.2.2.2.2.2.1)) rfl rfl (Nat.le_of_ble_eq_true rfl) rfl rfl (by decide) (c_X0_flagsAfter_n (fl := i) (ha := hc.2.2.2.2.2.2.2.2) hh hch ((hO.1 _ _ (by omega)).trans hbr) ((hO.1 _ _ (by omega)).trans hdu) (by omega) hbr4 hdu4 hcd) (fun rv_ M_ hq_ => ?_)
            obtain ⟨rfl, rfl⟩ := hq_
            refine E_goto (pc := 66) 70 (by decide) dX2_meet_66 ?_
            refine E_istore (pc := 70) (L2 := [_, _, _, _, _, _, _, _, _, _, _, _, _, _]) rfl rfl dX2_meet_70 ?_
            refine E_iload (pc := 72) rfl dX2_meet_72 ?_
            refine E_im1 (pc := 74) dX2_meet_74 ?_
            refine K_icmp_ne_f (pc := 75) 81 dX2_meet_75 rfl (by decide) ?_
            refine E_goto (pc := 78) 183 (by decide) dX2_meet_78 ?_
            refine E_iinc (pc := 183) (v := nI (i + 1)) (L2 := [_, _, _, _, _, _, _, _, _, _, _, _, _, _]) rfl (nI_inc (i) 1) rfl rfl dX2_meet_183 ?_
            refine E_goto (pc := 186) 10 (by decide) dX2_meet_186 ?_
            first | (refine eqM (τ := stepF τ c h look next ch price low br du K ps b i) (stepF_1 g51 hcd g104).symm (ih (i + 1) _ (by omega) (by omega) (by rw [hτ]; rfl) ((stepF_off ..).tr hO) (stepF_cost hk hh hor hnx) _ _ _ _ _)) | (refine eqM (τ := stepF τ c h look next ch price low br du K ps b i) (stepF_2 g51 hcd g104 g138 g143 ((hO.1 195 look (by omega)).trans htr)).symm (ih (i + 1) _ (by omega) (by omega) (by rw [hτ]; rfl) ((stepF_off ..).tr hO) (stepF_cost hk hh hor hnx) _ _ _ _ _)) | (refine eqM (τ := stepF τ c h look next ch price low br du K ps b i) (stepF_3 g51 hcd g104 g138 g143 ((hO.1 195 look (by omega)).trans htr) hsd).symm (ih (i + 1) _ (by omega) (by omega) (by rw [hτ]; rfl) ((stepF_off ..).tr hO) (stepF_cost hk hh hor hnx) _ _ _ _ _)) | (refine eqM (τ := stepF τ c h look next ch price low br du K ps b i) (stepF_4 g51 hcd g104 g138).symm (ih (i + 1) _ (by omega) (by omega) (by rw [hτ]; rfl) ((stepF_off ..).tr hO) (stepF_cost hk hh hor hnx) _ _ _ _ _)) | (refine eqM (τ := stepF τ c h look next ch price low br du K ps b i) (stepF_5 g51 hcd).symm (ih (i + 1) _ (by omega) (by omega) (by rw [hτ]; rfl) ((stepF_off ..).tr hO) (stepF_cost hk hh hor hnx) _ _ _ _ _)) | (refine eqM (τ := stepF τ c h look next ch price low br du K ps b i) (stepF_6 g51).symm (ih (i + 1) _ (by omega) (by omega) (by rw [hτ]; rfl) ((stepF_off ..).tr hO) (stepF_cost hk hh hor hnx) _ _ _ _ _))
  refine E_iload_n (pc := 0) rfl dX2_meet_0 ?_
  refine E_sipush (pc := 1) (nI 255) (by decide) dX2_meet_1 ?_
  refine E_iand (pc := 4) dX2_meet_4 ?_
  rw [and255, hlo]
  refine E_istore (pc := 5) (L2 := [_, _, _, _, _, _, _, _, _, _, _, _, _, _]) rfl rfl dX2_meet_5 ?_
  refine E_iconst (pc := 7) 0 rfl dX2_meet_7 ?_
  refine E_istore (pc := 8) (L2 := [_, _, _, _, _, _, _, _, _, _, _, _, _, _]) rfl rfl dX2_meet_8 ?_
  exact key (F + 1) 0 σ (by omega) (by omega) rfl (Off.rf c σ) hk0 D0 D0 D0 D0 D0
