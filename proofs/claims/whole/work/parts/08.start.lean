def zsk (L a : Nat) : Nat × Nat := match a with
  | 0 => (100, L)
  | 1 => (100, 5)
  | 2 => (100, 5)
  | 3 => (100, 4)
  | 4 => (100, 4)
  | 5 => (100, 4)
  | 6 => (100, 4)
  | _ => (103, 0)
def zsv (xs : Nat → Int32) (a j : Nat) : Int32 := match a with
  | 0 => xs j
  | 1 => ([0, 0, 1, 1, 1] : List Int32).getD j 0
  | 2 => ([19, 15, 9, 9, 9] : List Int32).getD j 0
  | 3 => ([0, 0, 0, 1] : List Int32).getD j 0
  | 4 => ([19, 15, 1, 20] : List Int32).getD j 0
  | 5 => ([0, 0, 1, 1] : List Int32).getD j 0
  | 6 => ([19, 15, 9, 9] : List Int32).getD j 0
  | _ => 0
/-- the heap at the law's entry: the script and the tables -/
def zh0 (L : Nat) (xs : Nat → Int32) : zH := (8, 0, zsk L, zsv xs, fun _ _ => none)
