theorem nwO_eq {ci N : Nat} {d : List Value} {F : Nat → HP → RS} {x : HP} (h : szc x.1 = N ∧ x.1 < 1000) : nwO ci N d F x = F x.1 (x.1 + 1, upH x.2 x.1 (.inr (ci, d))) := if_pos h
theorem cG_eq {g : HP → RS} {F : HP → RS} {x y : HP} (h : g x = some (none, y)) : cG g (toV F) x = F y := by
  unfold cG
  rw [h]
  rfl
theorem law_go (n : Nat) (xs : Nat → Int32) : f_La_law n xs (0, fun _ => .inr (0, [])) = b_La_law_18 n xs 0 75 0 (M I0 J0) := by
  unfold f_La_law
  rw [nwO_eq (x := (0, fun _ => .inr (0, []))) ⟨by decide, by decide⟩]
  have e1 : ((0, fun _ => .inr (0, [])) : HP).1 = 0 := rfl
  rw [e1]
  show cG (f_Bx_init 0) (toV _) hp1 = _
  rw [cG_eq hp2_eq, nwO_eq (x := hp2) ⟨by rw [hp2_n]; decide, by rw [hp2_n]; decide⟩, hp2_n]
  show cG (f_Mo_init 75) (toV _) hp3 = _
  rw [cG_eq hp4_eq, hp4_M]
