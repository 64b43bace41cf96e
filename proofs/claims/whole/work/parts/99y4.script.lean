section
/-! ===== the law's loop ===== -/
variable {X : XS} {σ : ST} {xs : Nat → Int32} {N i n : Nat}
theorem rx {j : Nat} (hN : N ≤ 3072) (h : j < N) : rdX xs N (nI j) = some (xs j) := by
  unfold rdX
  rw [guardT h (by omega), if_pos rfl, nI_cl (by omega)]
def LWk (k : ST → Option (Int32 × ST)) (σ : ST) (r : Option (Int32 × ST)) : Prop := ∃ u, r = k u ∧ (∃ X', XR X' u) ∧ u.2.2.2.length ≤ σ.2.2.2.length + 16
theorem lgc (v : Int64) : lg_cmp v v = 0 := by
  unfold lg_cmp
  rw [if_neg (show ¬ v > v from Int64.lt_irrefl), if_pos rfl]
theorem lw_call {c m : ST → Option (Int32 × ST)} {k : ST → Option (Int32 × ST)} (o : OUT c m σ) : LWk k σ (bd2 (c σ) fun v s => bd2 (m s) fun w u => if v = w then k u else some (nI 0, u)) := by
  obtain ⟨X', v, s, u, e1, e2, xr, l⟩ := o
  exact ⟨u, by rw [e1, bd2_s, e2, bd2_s, if_pos rfl], ⟨X', xr⟩, l⟩
theorem lw_callL {c m : ST → Option (Int64 × ST)} {k : ST → Option (Int32 × ST)} (o : OUT c m σ) : LWk k σ (bd2 (c σ) fun v s => bd2 (m s) fun w u => if lg_cmp v w = 0 then k u else some (nI 0, u)) := by
  obtain ⟨X', v, s, u, e1, e2, xr, l⟩ := o
  exact ⟨u, by rw [e1, bd2_s, e2, bd2_s, if_pos (lgc v)], ⟨X', xr⟩, l⟩
theorem lw_step (h : XR X σ) (hN : N ≤ 3072) (hi : i + 6 ≤ N) : LWk (fun u => f_L_law_18 xs N n (nI (i + 6)) u) σ (f_L_law_18 xs N (n + 1) (nI i) σ) := by
  have go : ¬ (nI N - nI 6 < nI i) := by
    rw [nI_sub (by omega)]
    intro q
    have := (nI_ltI (by omega) (by omega)).mp q
    omega
  have r0 : rdX xs N (nI i) = some (xs i) := rx hN (by omega)
  have r1 : rdX xs N (nI (i + 1)) = some (xs (i + 1)) := rx hN (by omega)
  have r2 : rdX xs N (nI (i + 2)) = some (xs (i + 2)) := rx hN (by omega)
  have r3 : rdX xs N (nI (i + 3)) = some (xs (i + 3)) := rx hN (by omega)
  have r4 : rdX xs N (nI (i + 4)) = some (xs (i + 4)) := rx hN (by omega)
  have r5 : rdX xs N (nI (i + 5)) = some (xs (i + 5)) := rx hN (by omega)
  rw [f_L_law_18, if_neg go, r0, bind_s]
  by_cases z : xs i &&& nI 63 = nI 0
  · rw [if_pos z]
    simp only [nI_add, r1, r2, r3, r4, r5, bind_s]
    exact lw_call (q_row h _ _ _)
  rw [if_neg z]
  by_cases z : xs i &&& nI 63 = nI 1
  · rw [if_pos z]
    simp only [nI_add, r1, r2, r3, r4, r5, bind_s]
    exact lw_call (q_set h _ _ _)
  rw [if_neg z]
  by_cases z : xs i &&& nI 63 = nI 2
  · rw [if_pos z]
    simp only [nI_add, r1, r2, r3, r4, r5, bind_s]
    exact lw_call (q_copy h _ _ _ _ _)
  rw [if_neg z]
  by_cases z : xs i &&& nI 63 = nI 3
  · rw [if_pos z]
    simp only [nI_add, r1, r2, r3, r4, r5, bind_s]
    exact lw_callL (q_element h _ _)
  rw [if_neg z]
  by_cases z : xs i &&& nI 63 = nI 4
  · rw [if_pos z]
    simp only [nI_add, r1, r2, r3, r4, r5, bind_s]
    exact lw_call (q_show h _ _)
  rw [if_neg z]
  by_cases z : xs i &&& nI 63 = nI 5
  · rw [if_pos z]
    simp only [nI_add, r1, r2, r3, r4, r5, bind_s]
    exact lw_call (q_holds h _)
  rw [if_neg z]
  by_cases z : xs i &&& nI 63 = nI 6
  · rw [if_pos z]
    simp only [nI_add, r1, r2, r3, r4, r5, bind_s]
    exact lw_call (q_says h _ _)
  rw [if_neg z]
  by_cases z : xs i &&& nI 63 = nI 7
  · rw [if_pos z]
    simp only [nI_add, r1, r2, r3, r4, r5, bind_s]
    exact lw_call (q_thing h _ _)
  rw [if_neg z]
  by_cases z : xs i &&& nI 63 = nI 8
  · rw [if_pos z]
    simp only [nI_add, r1, r2, r3, r4, r5, bind_s]
    by_cases w : xs (i + 3) = 0
    · rw [if_pos w]
      unfold f_L_law_555 f_L_law_582
      simp only [nI_add, r1, r2, r3, r4, r5, bind_s, if_pos w]
      exact lw_call (q_happening h _ _ (b := 0) (by decide))
    · rw [if_neg w]
      unfold f_L_law_555 f_L_law_582
      simp only [nI_add, r1, r2, r3, r4, r5, bind_s, if_neg w]
      exact lw_call (q_happening h _ _ (b := 1) (by decide))
  rw [if_neg z]
  by_cases z : xs i &&& nI 63 = nI 9
  · rw [if_pos z]
    simp only [nI_add, r1, r2, r3, r4, r5, bind_s]
    exact lw_call (q_fault h)
  rw [if_neg z]
  by_cases z : xs i &&& nI 63 = nI 10
  · rw [if_pos z]
    simp only [nI_add, r1, r2, r3, r4, r5, bind_s]
    exact lw_call (q_price h _ _)
  rw [if_neg z]
  by_cases z : xs i &&& nI 63 = nI 11
  · rw [if_pos z]
    simp only [nI_add, r1, r2, r3, r4, r5, bind_s]
    exact lw_call (q_weigh h _ _)
  rw [if_neg z]
  by_cases z : xs i &&& nI 63 = nI 12
  · rw [if_pos z]
    simp only [nI_add, r1, r2, r3, r4, r5, bind_s]
    exact lw_call (q_seen h _ _ _)
  rw [if_neg z]
  by_cases z : xs i &&& nI 63 = nI 13
  · rw [if_pos z]
    simp only [nI_add, r1, r2, r3, r4, r5, bind_s]
    by_cases w : xs (i + 4) = 0
    · rw [if_pos w]
      unfold f_L_law_741 f_L_law_778
      simp only [nI_add, r1, r2, r3, r4, r5, bind_s, if_pos w]
      exact lw_call (q_span h _ _ _ (b := 0) (by decide) _)
    · rw [if_neg w]
      unfold f_L_law_741 f_L_law_778
      simp only [nI_add, r1, r2, r3, r4, r5, bind_s, if_neg w]
      exact lw_call (q_span h _ _ _ (b := 1) (by decide) _)
  rw [if_neg z]
  by_cases z : xs i &&& nI 63 = nI 14
  · rw [if_pos z]
    simp only [nI_add, r1, r2, r3, r4, r5, bind_s]
    exact lw_call (q_was h _ _ _ _ _)
  rw [if_neg z]
  by_cases z : xs i &&& nI 63 = nI 15
  · rw [if_pos z]
    simp only [nI_add, r1, r2, r3, r4, r5, bind_s]
    exact lw_call (q_sheet h _ _ _ _)
  rw [if_neg z]
  by_cases z : xs i &&& nI 63 = nI 16
  · rw [if_pos z]
    simp only [nI_add, r1, r2, r3, r4, r5, bind_s]
    by_cases w : xs (i + 2) = 0
    · rw [if_pos w]
      unfold f_L_law_926 f_L_law_948
      simp only [nI_add, r1, r2, r3, r4, r5, bind_s, if_pos w]
      exact lw_call (q_by h _ (z := 0) (by decide))
    · rw [if_neg w]
      unfold f_L_law_926 f_L_law_948
      simp only [nI_add, r1, r2, r3, r4, r5, bind_s, if_neg w]
      exact lw_call (q_by h _ (z := 1) (by decide))
  rw [if_neg z]
  by_cases z : xs i &&& nI 63 = nI 17
  · rw [if_pos z]
    simp only [nI_add, r1, r2, r3, r4, r5, bind_s]
    exact lw_call (q_pieceOf h _ _)
  rw [if_neg z]
  by_cases z : xs i &&& nI 63 = nI 18
  · rw [if_pos z]
    simp only [nI_add, r1, r2, r3, r4, r5, bind_s]
    exact lw_call (q_least h)
  rw [if_neg z]
  by_cases z : xs i &&& nI 63 = nI 19
  · rw [if_pos z]
    simp only [nI_add, r1, r2, r3, r4, r5, bind_s]
    exact lw_callL (q_courses h)
  rw [if_neg z]
  by_cases z : xs i &&& nI 63 = nI 20
  · rw [if_pos z]
    simp only [nI_add, r1, r2, r3, r4, r5, bind_s]
    exact lw_call (q_is h _ _)
  rw [if_neg z]
  by_cases z : xs i &&& nI 63 = nI 21
  · rw [if_pos z]
    simp only [nI_add, r1, r2, r3, r4, r5, bind_s]
    exact lw_call (q_value h _ _)
  rw [if_neg z]
  by_cases z : xs i &&& nI 63 = nI 22
  · rw [if_pos z]
    simp only [nI_add, r1, r2, r3, r4, r5, bind_s]
    exact lw_call (q_why h _ _)
  rw [if_neg z]
  by_cases z : xs i &&& nI 63 = nI 23
  · rw [if_pos z]
    simp only [nI_add, r1, r2, r3, r4, r5, bind_s]
    exact lw_call (q_quarrel h)
  rw [if_neg z]
  by_cases z : xs i &&& nI 63 = nI 24
  · rw [if_pos z]
    simp only [nI_add, r1, r2, r3, r4, r5, bind_s]
    exact lw_call (q_out h)
  rw [if_neg z]
  by_cases z : xs i &&& nI 63 = nI 25
  · rw [if_pos z]
    simp only [nI_add, r1, r2, r3, r4, r5, bind_s]
    exact lw_call (q_must h _ _ _)
  rw [if_neg z]
  by_cases z : xs i &&& nI 63 = nI 26
  · rw [if_pos z]
    simp only [nI_add, r1, r2, r3, r4, r5, bind_s]
    exact lw_call (q_could h _)
  rw [if_neg z]
  by_cases z : xs i &&& nI 63 = nI 27
  · rw [if_pos z]
    simp only [nI_add, r1, r2, r3, r4, r5, bind_s]
    exact lw_call (q_ever h _ _ _)
  rw [if_neg z]
  by_cases z : xs i &&& nI 63 = nI 28
  · rw [if_pos z]
    simp only [nI_add, r1, r2, r3, r4, r5, bind_s]
    exact lw_call (q_howLong h _ _ _)
  rw [if_neg z]
  by_cases z : xs i &&& nI 63 = nI 29
  · rw [if_pos z]
    simp only [nI_add, r1, r2, r3, r4, r5, bind_s]
    exact lw_call (q_since h _ _)
  rw [if_neg z]
  by_cases z : xs i &&& nI 63 = nI 30
  · rw [if_pos z]
    simp only [nI_add, r1, r2, r3, r4, r5, bind_s]
    exact lw_call (q_plan h _ _ _)
  rw [if_neg z]
  by_cases z : xs i &&& nI 63 = nI 31
  · rw [if_pos z]
    simp only [nI_add, r1, r2, r3, r4, r5, bind_s]
    exact lw_call (q_seemed h _ _ _ _)
  rw [if_neg z]
  by_cases z : xs i &&& nI 63 = nI 32
  · rw [if_pos z]
    simp only [nI_add, r1, r2, r3, r4, r5, bind_s]
    exact lw_call (q_act h _ _ _)
  rw [if_neg z]
  by_cases z : xs i &&& nI 63 = nI 33
  · rw [if_pos z]
    simp only [nI_add, r1, r2, r3, r4, r5, bind_s]
    exact lw_call (q_trace h _)
  rw [if_neg z]
  by_cases z : xs i &&& nI 63 = nI 34
  · rw [if_pos z]
    simp only [nI_add, r1, r2, r3, r4, r5, bind_s]
    exact lw_call (q_image h)
  rw [if_neg z]
  by_cases z : xs i &&& nI 63 = nI 35
  · rw [if_pos z]
    simp only [nI_add, r1, r2, r3, r4, r5, bind_s]
    exact lw_call (q_restore h)
  rw [if_neg z]
  by_cases z : xs i &&& nI 63 = nI 36
  · rw [if_pos z]
    simp only [nI_add, r1, r2, r3, r4, r5, bind_s]
    exact lw_call (q_status h _)
  rw [if_neg z]
  rw [nI_add]
  exact ⟨σ, rfl, ⟨X, h⟩, by omega⟩
/-- the whole script -/
theorem lw_all (h : XR X σ) (hN : N ≤ 3072) : ∃ u, f_L_law_18 xs N FU (nI 0) σ = some (nI 1, u) ∧ u.2.2.2.length ≤ σ.2.2.2.length + 16 * 512 := by
  refine loopX (fun n j (w : ST) => f_L_law_18 xs N n (nI (6 * j)) w) (N / 6) (fun j w => (∃ X, XR X w) ∧ w.2.2.2.length ≤ σ.2.2.2.length + 16 * j) (fun r => ∃ u, r = some (nI 1, u) ∧ u.2.2.2.length ≤ σ.2.2.2.length + 16 * 512) ?_ ?_ FU 0 σ (by rw [FU_eq]; omega) (Nat.zero_le _) ⟨⟨X, h⟩, by omega⟩
  · rintro n j w hj ⟨⟨X', h'⟩, hl⟩
    obtain ⟨u, e, xr, l⟩ := lw_step (xs := xs) (N := N) (i := 6 * j) (n := n) h' hN (by omega)
    exact Or.inl ⟨u, e, xr, by omega⟩
  · rintro n w ⟨-, hl⟩
    refine ⟨w, ?_, by omega⟩
    show f_L_law_18 xs N (n + 1) (nI (6 * (N / 6))) w = _
    have q : nI N - nI 6 < nI (6 * (N / 6)) := by
      by_cases z : 6 ≤ N
      · rw [nI_sub z]
        exact (nI_ltI (by omega) (by omega)).mpr (by omega)
      · have : N / 6 = 0 := by omega
        rw [this]
        rcases (show N = 0 ∨ N = 1 ∨ N = 2 ∨ N = 3 ∨ N = 4 ∨ N = 5 by omega) with rfl | rfl | rfl | rfl | rfl | rfl <;> decide
    rw [f_L_law_18, if_pos q]
end
