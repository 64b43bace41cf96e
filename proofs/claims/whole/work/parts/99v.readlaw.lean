section
/-! ===== both read a law ===== -/
variable {A : AW} {H : SHV} {σ : ST} {s p c k : Nat}
/-- what a read law is -/
def GLw (A : AW) (H : SHV) (s : Nat) (u : ST) : Prop := ∃ k, GC A H s k u ∧ (lt H s 0 = nI 58 → k = 0) ∧ GE A H s u ∧ 0 < hn H s
/-- among the effects -/
def EFS (A : AW) (H : SHV) (s p st : Nat) (u : ST) : Prop := ∃ c k, ((st = 6 ∧ c = 0) ∨ (st = 10 ∧ 1 ≤ c)) ∧ c ≤ p ∧ GC A H s k u ∧ (lt H s 0 = nI 58 → k = 0) ∧ EFI A H s p u ∧ EMx A H s c p
def EFG (A : AW) (H : SHV) (s p st : Nat) (u : ST) : Prop := ∃ c k q L, p = q + 1 ∧ c ≤ p ∧ ((st = 7 ∧ L = 98) ∨ (st = 8 ∧ L = 101) ∨ (st = 9 ∧ L = 122)) ∧ lt H s q = nI L ∧ GC A H s k u ∧ (lt H s 0 = nI 58 → k = 0) ∧ EFI A H s q u ∧ EGx A H s (if L = 122 then 3 else 1) c p
def IL (A : AW) (H : SHV) (s : Nat) (σ0 : ST) (p : Nat) (x : Nat × ST) : Prop := BSx true σ0 x.2 ∧ ((x.1 = 0 ∧ p = 0 ∧ x.2 = r0 true σ0) ∨ (x.1 ≤ 5 ∧ 1 ≤ p ∧ JC A H (f_X12_lawFault (nI s)) (KLw s) s p x.1 x.2 ∧ (x.2.1 189 1 = nI 0 ∧ x.2.1 189 2 = nI 0 ∧ x.2.1 189 3 = nI 0) ∧ ∀ j, j < p → lt H s j ≠ nI 58) ∨ EFS A H s p x.1 x.2 ∨ EFG A H s p x.1 x.2)
theorem after_6 {st : Nat} (h : st = 6 ∨ st = 10) (x : Int32) : f_X5_after (nI st) x σ = bd2 (f_X5_afterEffectBegan x σ) fun v18 s17 => some (v18, s17) := by
  unfold f_X5_after
  rcases h with rfl | rfl <;> rfl
theorem after_7 (x : Int32) : f_X5_after (nI 7) x σ = bd2 (f_X5_afterKept x (nI 1) σ) fun v s => some (v, s) := rfl
theorem after_8 (x : Int32) : f_X5_after (nI 8) x σ = bd2 (f_X5_afterKept x (nI 0) σ) fun v s => some (v, s) := rfl
theorem after_9 (x : Int32) : f_X5_after (nI 9) x σ = bd2 (f_X5_afterStilled x σ) fun v s => some (v, s) := rfl
/-- what one step of the class must give -/
def SL (A : AW) (H : SHV) (s : Nat) (σ0 : ST) (p : Nat) (r : Option (Int32 × ST)) : Prop := ∃ v u, r = some (nI v, u) ∧ v ≤ 11 ∧ ((v = 11 ∧ BSx true σ0 u ∧ (u.1 189 3 = 0 ∨ u.1 189 3 = 1) ∧ MDv A H (f_X12_lawFault (nI s)) (nI p)) ∨ (v ≠ 11 ∧ IL A H s σ0 (p + 1) (v, u)))
theorem SL_id {σ0 : ST} {r : Option (Int32 × ST)} (h : SL A H s σ0 p r) : SL A H s σ0 p (bd2 r fun v u => some (v, u)) := by
  obtain ⟨v, u, e, g⟩ := h
  exact ⟨v, u, by rw [e, bd2_s], g⟩
theorem EFI_01 (h : EFI A H s p σ) : σ.1 189 3 = 0 ∨ σ.1 189 3 = 1 := by
  obtain ⟨lb, le, lz, -, -, e3, -, -, l3, -⟩ := h
  rcases (show lz = 0 ∨ lz = 1 by omega) with rfl | rfl
  · exact Or.inl e3
  · exact Or.inr e3
/-- an effect begins -/
theorem sl_began (r : RD A H s) (hp : p < hn H s) {σ0 : ST} (b : BSx true σ0 σ) {st : Nat} (h : EFS A H s p st σ) : SL A H s σ0 p (f_X5_after (nI st) (lt H s p) σ) := by
  obtain ⟨c, k, hst, hc, g, g0, ef', em⟩ := h
  rw [after_6 (hst.elim (fun z => Or.inl z.1) (fun z => Or.inr z.1))]
  refine SL_id ?_
  have go : ∀ st' L, ((st' = 7 ∧ L = 98) ∨ (st' = 8 ∧ L = 101) ∨ (st' = 9 ∧ L = 122)) → lt H s p = nI L → SL A H s σ0 p (some (nI st', σ)) := fun st' L h1 h2 => by
    refine ⟨st', σ, rfl, by omega, Or.inr ⟨by omega, b, Or.inr (Or.inr (Or.inr ⟨c, k, p, L, rfl, by omega, h1, h2, g, g0, ef', em_step r hp h2 (by omega) em⟩))⟩⟩
  unfold f_X5_afterEffectBegan
  by_cases z1 : lt H s p = nI 98
  · rw [if_pos z1]; exact go 7 98 (by omega) z1
  · rw [if_neg z1]
    by_cases z2 : lt H s p = nI 101
    · rw [if_pos z2]; exact go 8 101 (by omega) z2
    · rw [if_neg z2]
      by_cases z3 : lt H s p = nI 122
      · rw [if_pos z3]; exact go 9 122 (by omega) z3
      · rw [if_neg z3]
        exact ⟨11, σ, rfl, by omega, Or.inl ⟨rfl, b, EFI_01 ef', em_no r hp z1 z2 z3 em⟩⟩
theorem dk_no {y : Int32} {z : Nat} (h : inR (y - nI 48) (nT A) = false) : dk A y z = false := by
  unfold dk
  rw [h]; rfl
theorem dk_d (hT : nT A ≤ 10) {d z : Nat} (hd : d < nT A) : dk A (nI (48 + d)) z = decide (kd A d = z) := by
  unfold dk
  rw [nI_d48, guardT hd (by omega), nI_cl (by omega)]
  rfl
theorem sl_name (a : AOK A) (cr : CR 2 A σ) (r : RD A H s) (hp : p < hn H s) {σ0 : ST} (b : BSx true σ0 σ) {st : Nat} (h : EFG A H s p st σ) : SL A H s σ0 p (f_X5_after (nI st) (lt H s p) σ) := by
  have hT := a.1.1
  obtain ⟨c, k, q, L, rfl, hc, hst, eL, g, g0, ef', eg⟩ := h
  have le := Nat.le_of_lt hp
  have u01 := EFI_01 ef'
  have no : dk A (lt H s (q + 1)) (if L = 122 then 3 else 1) = false → SL A H s σ0 (q + 1) (some (nI 11, σ)) := fun z => ⟨11, σ, rfl, by omega, Or.inl ⟨rfl, b, u01, eg_no a r le (by split <;> decide) (by rw [LL_t hp]; exact z) eg⟩⟩
  have yes : ∀ u, dk A (lt H s (q + 1)) (if L = 122 then 3 else 1) = true → Fr (fun y => y = 189) σ u → (∀ k, 4 ≤ k → u.1 189 k = σ.1 189 k) → EFI A H s (q + 2) u → SL A H s σ0 (q + 1) (some (nI 10, u)) := fun u z F k4 e => by
    refine ⟨10, u, rfl, by omega, Or.inr ⟨by omega, ⟨b.1.tr (F.mono (fun y hy => by omega)), fun k hk => (k4 k hk).trans (b.2.1 k hk), (F.I (by omega) _).trans b.2.2⟩, Or.inr (Or.inr (Or.inl ⟨c + 1, k, Or.inr ⟨rfl, by omega⟩, by omega, GC_eq g (fun y h1 h2 => (F.1 y (by omega)).1), g0, e, eg_yes a r (by split <;> decide) (by rw [LL_t hp]; exact z) eg⟩))⟩⟩
  cases gd : inR (lt H s (q + 1) - nI 48) (nT A) with
  | false =>
    have n := no (dk_no gd)
    have kn := c_kindOf a cr (lt H s (q + 1) - nI 48)
    rw [gd, if_neg (by decide)] at kn
    rcases hst with ⟨rfl, rfl⟩ | ⟨rfl, rfl⟩ | ⟨rfl, rfl⟩
    · rw [after_7]
      unfold f_X5_afterKept
      rw [kn, bd2_s, if_neg (by decide)]
      exact SL_id n
    · rw [after_8]
      unfold f_X5_afterKept
      rw [kn, bd2_s, if_neg (by decide)]
      exact SL_id n
    · rw [after_9]
      unfold f_X5_afterStilled
      rw [kn, bd2_s, if_neg (by decide)]
      exact SL_id n
  | true =>
    obtain ⟨d, hd, eD, eX⟩ := dig_of hT gd
    have hk := a.2.1 d hd
    have kn := c_kindOf a cr (lt H s (q + 1) - nI 48)
    rw [gd, if_pos rfl, eX, nI_cl (by omega)] at kn
    have dkE : ∀ z, dk A (lt H s (q + 1)) z = decide (kd A d = z) := fun z => by rw [eD]; exact dk_d hT hd
    have r4 : rdI σ 4 10 (nI d) = some (nI (pl A d)) := by rw [rdI_ok (show d < 10 by omega) (by decide), (cr.2.1 d hd).2]
    rcases hst with ⟨rfl, rfl⟩ | ⟨rfl, rfl⟩ | ⟨rfl, rfl⟩
    · rw [after_7]
      refine SL_id ?_
      unfold f_X5_afterKept
      rw [eX, kn, bd2_s]
      by_cases z : kd A d = 1
      · rw [if_pos (congrArg nI z), r4, bind_s]
        obtain ⟨u, e1, F, k12, ef2⟩ := EFI_b a r ef' hp hd z eD eL
        rw [e1, bind_s]
        exact yes u (by rw [dkE]; exact decide_eq_true z) F (fun k hk => k12 k (by omega) (by omega)) ef2
      · rw [if_neg (fun y => z ((nI_eq (by omega) (by omega)).mp y))]
        exact no (by rw [dkE]; exact decide_eq_false z)
    · rw [after_8]
      refine SL_id ?_
      unfold f_X5_afterKept
      rw [eX, kn, bd2_s]
      by_cases z : kd A d = 1
      · rw [if_pos (congrArg nI z), r4, bind_s]
        obtain ⟨u, e1, F, k12, ef2⟩ := EFI_e a r ef' hp hd z eD eL
        rw [e1, bind_s]
        exact yes u (by rw [dkE]; exact decide_eq_true z) F (fun k hk => k12 k (by omega) (by omega)) ef2
      · rw [if_neg (fun y => z ((nI_eq (by omega) (by omega)).mp y))]
        exact no (by rw [dkE]; exact decide_eq_false z)
    · rw [after_9]
      refine SL_id ?_
      unfold f_X5_afterStilled
      rw [eX, kn, bd2_s]
      by_cases z : kd A d = 3
      · rw [if_pos (congrArg nI z), pfZ_1, bind_s]
        exact yes _ (by rw [dkE]; exact decide_eq_true z) (Fr_setI rfl) (fun k hk => I_ne (Or.inr (by omega))) (EFI_z a r ef' hp hd eD eL)
      · rw [if_neg (fun y => z ((nI_eq (by omega) (by omega)).mp y))]
        exact no (by rw [dkE]; exact decide_eq_false z)
theorem BS_r0 : BSx true σ (r0 true σ) := by
  obtain ⟨F0, z2, -, z1, z2', z3, z0, zk⟩ := r0_F (σ := σ) true
  exact ⟨F0, zk, z2⟩
/-- a letter of the condition, or its end -/
theorem sl_cond (a : AOK A) (cr : CR 2 A σ) (r : RD A H s) (hp : p < hn H s) {σ0 : ST} (b : BSx true σ0 σ) {st : Nat} (j : JC A H (f_X12_lawFault (nI s)) (KLw s) s p st σ) (e : σ.1 189 1 = nI 0 ∧ σ.1 189 2 = nI 0 ∧ σ.1 189 3 = nI 0) (nc : ∀ j, j < p → lt H s j ≠ nI 58) (h0 : p = 0 → lt H s 0 ≠ nI 58) : SL A H s σ0 p (f_X5_after (nI st) (lt H s p) σ) := by
  have le := Nat.le_of_lt hp
  obtain ⟨v, w, ev, fp, z⟩ := t_step (lw := true) a cr r b.2.2 hp (K := KLw s) KL0 (fun mk h => KL1 r le (by rw [LL_t hp]; exact h rfl) mk) j
  have bw := BS_fp b fp
  have e1 : w.1 189 1 = nI 0 ∧ w.1 189 2 = nI 0 ∧ w.1 189 3 = nI 0 := by
    rw [(fp.1.1 189 (by omega)).1]; exact e
  rcases z with ⟨rfl, md⟩ | ⟨v1, v5, j', n58⟩ | ⟨rfl, -, e58, ⟨k, g⟩, mk⟩
  · exact ⟨11, w, ev, by omega, Or.inl ⟨rfl, bw, Or.inl e1.2.2, md⟩⟩
  · refine ⟨v, w, ev, by omega, Or.inr ⟨by omega, bw, Or.inr (Or.inl ⟨v5, by omega, j', e1, fun i hi => ?_⟩)⟩⟩
    by_cases q : i = p
    · rw [q]; exact n58
    · exact nc i (by omega)
  · refine ⟨6, w, ev, by omega, Or.inr ⟨by omega, bw, Or.inr (Or.inr (Or.inl ⟨0, k + 1, Or.inl ⟨rfl, rfl⟩, Nat.zero_le _, g, fun z => ?_, EFI_0 r hp e58 nc e1.1 e1.2.1 e1.2.2, KLe r hp e58 mk⟩))⟩⟩
    by_cases q : p = 0
    · exact absurd z (h0 q)
    · exact absurd z (nc 0 (by omega))
theorem t_readL (a : AOK A) (c : CR 2 A σ) (r : RD A H s) (sc : SHC H σ) : JR A H (f_X12_lawFault (nI s)) (GLw A H s) σ (f_X5_read (231 + 2 * s) (nI 1) σ) := by
  have l := RD_60 r
  obtain ⟨F0, z2, -, z1, z2', z3, z0, zk⟩ := r0_F (σ := σ) true
  have start := t_r0 (σ := σ) (231 + 2 * s) true
  rw [if_pos rfl] at start
  show JR A H (f_X12_lawFault (nI s)) (GLw A H s) σ (f_X5_read (231 + 2 * s) (b2 true) σ)
  rw [start]
  refine loopX (fun n i (x : Nat × ST) => f_X5_read_33 (231 + 2 * s) (KRd (231 + 2 * s)) n (nI x.1) (nI i) x.2) (hn H s) (IL A H s σ) (JR A H (f_X12_lawFault (nI s)) (GLw A H s) σ) ?_ ?_ FU 0 (0, r0 true σ) (by rw [FU_eq]; omega) (Nat.zero_le _) ⟨BS_r0, Or.inl ⟨rfl, rfl, rfl⟩⟩
  · rintro n p ⟨st, u⟩ hp ⟨b, j⟩
    have cu : CR 2 A u := CR_fr a c b.1 (fun x hx => by omega)
    have su : SHC H u := SHC_eq sc (fun x h1 h2 => ⟨(b.1.1 x (by omega)).1, (b.1.1 x (by omega)).2.1⟩)
    have E := rd_step r su hp n st
    have st' : SL A H s σ p (f_X5_after (nI st) (lt H s p) u) := by
      rcases j with ⟨q1, q2, q3⟩ | ⟨h5, h1, j, e, nc⟩ | h | h
      · have q1' : st = 0 := q1
        have q3' : u = r0 true σ := q3
        subst q1' q2 q3'
        by_cases z : lt H s 0 = nI 58
        · rw [after_k 0 (by decide), if_pos rfl, if_pos z]
          exact ⟨6, _, rfl, by omega, Or.inr ⟨by omega, b, Or.inr (Or.inr (Or.inl ⟨0, 0, Or.inl ⟨rfl, rfl⟩, Nat.zero_le _, GC_0 r hp z true, fun _ => rfl, EFI_0 r hp z (fun i hi => absurd hi (Nat.not_lt_zero _)) z1 z2' z3, law_0 r hp z⟩))⟩⟩
        · have e01 : f_X5_after (nI 0) (lt H s 0) (r0 true σ) = f_X5_after (nI 1) (lt H s 0) (r0 true σ) := by
            rw [after_k 0 (by decide), if_pos rfl, if_neg z, after_k 1 (by decide), if_neg (by decide), if_pos rfl]
          rw [e01]
          exact sl_cond a cu r hp b (Or.inl ⟨rfl, BD_0 true, law_1 r (by rw [LL_t hp]; exact z)⟩) ⟨z1, z2', z3⟩ (fun i hi => absurd hi (Nat.not_lt_zero _)) (fun _ => z)
      · exact sl_cond a cu r hp b j e nc (fun q => by omega)
      · exact sl_began r hp b h
      · exact sl_name a cu r hp b h
    obtain ⟨v, w, ev, v11, z⟩ := st'
    rw [ev, bd2_s] at E
    rcases z with ⟨rfl, bw, w3, md⟩ | ⟨vn, il⟩
    · rw [if_pos rfl] at E
      exact Or.inr ⟨nI p, w, E, bw.1, bw.2.1, w3, md, Or.inr ⟨fun q => nI_m1F (by omega) q, nI_pos (by omega)⟩⟩
    · rw [if_neg (fun q => vn ((nI_eq (by omega) (by omega)).mp q))] at E
      exact Or.inl ⟨(v, w), E, il⟩
  · rintro n ⟨st, u⟩ ⟨b, j⟩
    have su : SHC H u := SHC_eq sc (fun x h1 h2 => ⟨(b.1.1 x (by omega)).1, (b.1.1 x (by omega)).2.1⟩)
    have E := rd_end r su n st
    have b2x : u.1 188 2 = b2 true := b.2.2
    show JR A H (f_X12_lawFault (nI s)) (GLw A H s) σ (f_X5_read_33 (231 + 2 * s) (KRd (231 + 2 * s)) (n + 1) (nI st) (nI (hn H s)) u)
    rw [E]
    unfold KRd
    rw [b2x, if_neg b2t0]
    have fault : st ≤ 9 → (u.1 189 3 = 0 ∨ u.1 189 3 = 1) → MDv A H (f_X12_lawFault (nI s)) (nI (hn H s)) → JR A H (f_X12_lawFault (nI s)) (GLw A H s) σ (if nI st = nI 10 then some (-1, u) else some (u.1 (231 + 2 * s) 1, u)) := fun h w3 md => by
      rw [if_neg (fun q => by have := (nI_eq (by omega) (by omega)).mp q; omega), (su s r.2.1).2.1]
      exact ⟨_, u, rfl, b.1, b.2.1, w3, md, Or.inr ⟨fun q => nI_m1F (by omega) q, nI_pos (by omega)⟩⟩
    have jend : ∀ st', JC A H (f_X12_lawFault (nI s)) (KLw s) s (hn H s) st' u → MDv A H (f_X12_lawFault (nI s)) (nI (hn H s)) := fun st' j => by
      rcases jc_end a r (K := KLw s) KL0 j with ⟨q, md⟩ | ⟨q, mk, -⟩
      · exact md
      · exact KL1 r (Nat.le_refl _) (by rw [LL_end]; decide) mk
    rcases j with ⟨q1, q2, q3⟩ | ⟨h5, h1, j, e, nc⟩ | h | h
    · have q1' : st = 0 := q1
      have q3' : u = r0 true σ := q3
      subst q1' q3'
      refine fault (by omega) (Or.inl z3) (jend 1 (Or.inl ⟨rfl, ?_, ?_⟩))
      · rw [q2]; exact BD_0 true
      · rw [q2]; exact law_1 r (by rw [← q2, LL_end]; decide)
    · exact fault (by have : st ≤ 5 := h5; omega) (Or.inl e.2.2) (jend st j)
    · obtain ⟨c', k, hst, hc, g, g0, ef', em⟩ := h
      have me := em_end r (by omega) em
      rcases hst with ⟨q, rfl⟩ | ⟨q, q2⟩
      · have q' : st = 6 := q
        rw [if_pos rfl] at me
        exact fault (by omega) (EFI_01 ef') me
      · have q' : st = 10 := q
        rw [if_neg (by omega)] at me
        rw [q', if_pos rfl]
        exact ⟨-1, u, rfl, b.1, b.2.1, EFI_01 ef', me, Or.inl ⟨rfl, ⟨k, g, g0, GE_of a r ef', by omega⟩⟩⟩
    · obtain ⟨c', k, q, L, hq', hc, hst, eL, g, g0, ef', eg⟩ := h
      have nd : dk A (LL H s (hn H s)) (if L = 122 then 3 else 1) = false := dk_no (by rw [LL_end]; exact inR_0m)
      refine fault ?_ (EFI_01 ef') (eg_no a r (Nat.le_refl _) (by split <;> decide) nd eg)
      rcases hst with ⟨h, -⟩ | ⟨h, -⟩ | ⟨h, -⟩ <;> (rw [show st = _ from h]; decide)
end
