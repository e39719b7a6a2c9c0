/-- the law on the small machine: true, within the room -/
theorem zlaw_ok (L : Nat) (xs : Nat → Int32) (hL : L ≤ 2048) : ∃ h1, zev 159 0 (zent 159 [vR (some 0)]) [] (zh0 L xs) = some (some (vI 1), h1) ∧ zn h1 ≤ 600008 ∧ zs h1 ≤ 7302250 := sorry
