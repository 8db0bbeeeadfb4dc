def zS0 : zS := (0, fun _ => (0, 0), fun _ _ => 0, fun _ _ => none)
theorem pure_law (xs : Nat → Int32) (L : Nat) (hL : L ≤ 3072) : ∃ N n0 : Nat, n0 ≤ 600 ∧ f_L_law N xs L n0 zS0 = some 1 := sorry
