section
/-! ===== the registers at the start ===== -/
def w6 (k : Nat) : Int32 := if k < 6 then nI 1 else 0
def i0 (a k : Nat) : Int32 :=
  if a = 0 then (if k = 11 then 1 else if k = 12 then 1 else if k = 13 then -1 else 0)
  else if a = 8 then w6 k
  else if a = 101 then w6 k
  else if a = 188 then (if k = 3 then 1 else if k = 6 then -1 else 0)
  else if a = 197 then (if k = 8 then 1 else if k = 9 then 1 else if k = 10 then 1 else if k = 12 then -1 else 0)
  else if a = 213 then (if k = 8 then 1 else if k = 9 then 1 else if k = 10 then 1 else if k = 12 then -1 else 0)
  else if a = 231 then (if k = 0 then -1 else 0)
  else if a = 233 then (if k = 0 then -1 else 0)
  else if a = 235 then (if k = 0 then -1 else 0)
  else if a = 237 then (if k = 0 then -1 else 0)
  else if a = 239 then (if k = 0 then -1 else 0)
  else if a = 241 then (if k = 0 then -1 else 0)
  else if a = 243 then (if k = 0 then -1 else 0)
  else if a = 245 then (if k = 0 then -1 else 0)
  else if a = 247 then (if k = 21 then -1 else 0)
  else if a = 262 then w6 k
  else if a = 263 then (if k < 8 then -1 else 0)
  else 0
def s0 : ST := (i0, fun _ _ => 0, fun _ _ => none, [])
def A0 : AW := (fun a b => if a = 11 ∧ b < 6 then 1 else 0, fun _ _ _ => false, fun _ _ _ => false)
def XS0 : XS := (A0, (fun _ => 0, fun _ => 0, fun _ _ => 0), fun _ => 0, -1, (0, fun _ => 0), none)
theorem wt0 {m : Nat} (h : m < 6) : wt A0 m = 1 := by
  unfold wt A0
  show (if 11 = 11 ∧ m < 6 then 1 else 0) = 1
  rw [if_pos ⟨rfl, h⟩]
theorem w60 {m : Nat} (h : m < 6) : w6 m = nI 1 := if_pos h
theorem AOK0 : AOK A0 := by
  refine ⟨⟨by decide, by decide, by decide⟩, fun i hi => absurd hi (Nat.not_lt_zero _), ⟨by decide, by decide, by decide, by decide⟩, fun h hh => absurd hh (Nat.not_lt_zero _), fun k hk => absurd hk (Nat.not_lt_zero _), by decide, fun m hm => by rw [wt0 hm]; decide⟩
theorem CR0 : CR 2 A0 s0 := by
  refine ⟨⟨rfl, rfl, rfl, rfl⟩, fun i hi => absurd hi (Nat.not_lt_zero _), fun i hi => absurd hi (Nat.not_lt_zero _), fun h hh => absurd hh (Nat.not_lt_zero _), fun k hk => absurd hk (Nat.not_lt_zero _), fun m hm => ?_⟩
  rw [wt0 hm]
  exact w60 hm
theorem VB0 : VB s0 := by
  refine ⟨fun k p hk hp => hp.elim (fun z => by cases z) (fun z => by cases z), fun h hh => ?_, Or.inl rfl, Or.inl rfl⟩
  rcases (show h = 0 ∨ h = 1 ∨ h = 2 ∨ h = 3 ∨ h = 4 ∨ h = 5 by omega) with rfl | rfl | rfl | rfl | rfl | rfl <;> exact ⟨⟨Or.inl rfl, Or.inl rfl⟩, Or.inl rfl, Or.inl rfl⟩
theorem XR0 : XR XS0 s0 := by
  refine ⟨⟨AOK0, fun s hs => ⟨Nat.zero_le _, Nat.zero_le _, fun _ => ⟨rfl, Nat.zero_le _⟩⟩, Nat.zero_le _, fun B hB => by cases hB⟩, ⟨CR0, ⟨fun q => absurd q (by decide), fun q => absurd q (by decide), fun q => absurd q (by decide)⟩, fun s hs => ?_, fun j h1 h2 => rfl, rfl, ⟨rfl, fun i hi => absurd hi (Nat.not_lt_zero _)⟩, ⟨rfl, VB0⟩⟩, ⟨⟨⟨rfl, rfl, rfl⟩, fun i hi => absurd hi (Nat.not_lt_zero _), fun h hh => absurd hh (Nat.not_lt_zero _), fun k hk => absurd hk (Nat.not_lt_zero _), fun m hm => ?_⟩, fun s hs => ⟨?_, fun q => absurd q (show ¬ 101 ≤ 0 by decide), fun j hj => rfl⟩, fun j h1 h2 => rfl, rfl, ⟨rfl, fun i hi => absurd hi (Nat.not_lt_zero _)⟩, rfl⟩⟩
  · rcases (show s = 0 ∨ s = 1 ∨ s = 2 ∨ s = 3 ∨ s = 4 ∨ s = 5 ∨ s = 6 ∨ s = 7 by omega) with rfl | rfl | rfl | rfl | rfl | rfl | rfl | rfl <;> exact ⟨rfl, rfl, fun j hj => rfl⟩
  · show i0 262 m = nI (wt A0 m)
    rw [wt0 hm]
    exact w60 hm
  · show i0 263 s = hI 0
    show (if s < 8 then (-1 : Int32) else 0) = -1
    exact if_pos hs
end
