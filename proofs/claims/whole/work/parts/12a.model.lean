/-! the reference's questions -/
theorem zlt64 (a b : Int64) : (lg_cmp a b < 0) ↔ a.toInt < b.toInt := by
  unfold lg_cmp
  simp only [gt_iff_lt, Int64.lt_iff_toInt_lt, ← Int64.toInt_inj]
  split
  · simp; omega
  · split
    · simp; omega
    · simp; omega
theorem zgt64 (a b : Int64) : (0 < lg_cmp a b) ↔ b.toInt < a.toInt := by
  unfold lg_cmp
  simp only [gt_iff_lt, Int64.lt_iff_toInt_lt, ← Int64.toInt_inj]
  split
  · simp; omega
  · split
    · simp; omega
    · simp; omega
theorem q113 (a b c : Int64) (h : zH) : zcall 113 [vL a, vL b, vL c] h = some (some (vI (if b.toInt ≤ a.toInt ∧ a.toInt ≤ c.toInt then 1 else 0)), h) := by
  rw [e113]
  simp only [zlt64, zgt64, bo_0, bo_1]
  by_cases h1 : a.toInt < b.toInt
  · rw [if_pos h1, if_neg (by omega)]
  · rw [if_neg h1]
    by_cases h2 : c.toInt < a.toInt
    · rw [if_pos h2, if_neg (by omega)]
    · rw [if_neg h2, if_pos (by omega)]
theorem z64 (x : Int32) : x.toInt64.toInt = x.toInt := Int32.toInt_toInt64 x
/-- a number among the first n -/
theorem zrange (x : Int32) {n : Nat} (hn : n < 2 ^ 30) : (0 ≤ x.toInt ∧ x.toInt ≤ (nI n - 1).toInt) ↔ ∃ l, l < n ∧ x = nI l := by
  have e : (nI n - 1).toInt = (n : Int) - 1 := by
    have := pk_sub_toInt (a := n) (b := 1) (by omega) (by omega)
    simpa [nI] using this
  rw [e]
  constructor
  · rintro ⟨h1, h2⟩
    refine ⟨x.toInt.toNat, by omega, ?_⟩
    apply Int32.toInt_inj.mp
    rw [nI_toInt (by omega)]
    omega
  · rintro ⟨l, h1, rfl⟩
    rw [nI_toInt (by omega)]
    omega
section ZQM
variable {h : zH} {n : Nat} {x y : Int32}
theorem q127 : zcall 127 [vI x, vI y] h = some (some (vI (if 0 ≤ x.toInt ∧ x.toInt ≤ 19 ∧ 0 ≤ y.toInt ∧ y.toInt ≤ 15 then 1 else 0)), h) := by
  rw [e127, cI_k (q113 _ _ _ _)]
  simp only [z64, show (0 : Int64).toInt = 0 by decide, show (19 : Int64).toInt = 19 by decide, show (15 : Int64).toInt = 15 by decide]
  by_cases h1 : 0 ≤ x.toInt ∧ x.toInt ≤ 19
  · rw [if_pos h1, if_neg (by decide), cI_k (q113 _ _ _ _)]
    simp only [z64, show (0 : Int64).toInt = 0 by decide, show (15 : Int64).toInt = 15 by decide]
    by_cases h2 : 0 ≤ y.toInt ∧ y.toInt ≤ 15
    · rw [if_pos h2, if_neg (by decide), bo_1, if_pos ⟨h1.1, h1.2, h2⟩]
    · rw [if_neg h2, if_pos rfl, bo_0, if_neg (by omega)]
  · rw [if_neg h1, if_pos rfl, bo_0, if_neg (by omega)]
theorem q129 (H : MS h) (e : zi h 19 5 = nI n) (hn : n ≤ 40) : zcall 129 [vR (some 19), vI x] h = some (some (vI (if 0 ≤ x.toInt ∧ x.toInt < n then 1 else 0)), h) := by
  rw [e129, Mi_lots H, cI_k (q113 _ _ _ _)]
  simp only [z64, show (0 : Int64).toInt = 0 by decide, e]
  have e1 : (nI n - 1).toInt = (n : Int) - 1 := by
    have := pk_sub_toInt (a := n) (b := 1) (by omega) (by omega)
    simpa [nI] using this
  rw [e1]
  by_cases h1 : 0 ≤ x.toInt ∧ x.toInt < n
  · rw [if_pos (by omega), if_pos h1, bo_1]
  · rw [if_neg (by omega), if_neg h1, bo_0]
theorem q140 (H : MS h) (e : zi h 19 18 = nI n) (hn : n ≤ 20) : zcall 140 [vR (some 19), vI x] h = some (some (vI (if 0 ≤ x.toInt ∧ x.toInt < n then 1 else 0)), h) := by
  rw [e140, Mi_persons H, cI_k (q113 _ _ _ _)]
  simp only [z64, show (0 : Int64).toInt = 0 by decide, e]
  have e1 : (nI n - 1).toInt = (n : Int) - 1 := by
    have := pk_sub_toInt (a := n) (b := 1) (by omega) (by omega)
    simpa [nI] using this
  rw [e1]
  by_cases h1 : 0 ≤ x.toInt ∧ x.toInt < n
  · rw [if_pos (by omega), if_pos h1, bo_1]
  · rw [if_neg (by omega), if_neg h1, bo_0]
theorem q132 : zcall 132 [vI x] h = some (some (vI (if x < 0 then -x else x)), h) := by
  rw [e132]
  split <;> rfl
/-- the one who lives on l: the last one found -/
def mRes (h : zH) (x : Int32) (n : Nat) : Int32 := (List.range' 0 n).foldl (fun r p => if zi h 35 p = x then nI p else r) (-1)
theorem w134 (H : MS h) (e : zi h 19 18 = nI n) (hn : n ≤ 20) : ∀ (k i : Nat) (r : Int32), i + k = n → zev 134 4 [some (vR (some 19)), some (vI x), some (vI r), some (vI (nI i))] [] h = some (some (vI ((List.range' i k).foldl (fun r p => if zi h 35 p = x then nI p else r) r)), h) := by
  intro k
  induction k with
  | zero =>
    intro i r hi
    rw [b134_4, Mi_persons H, e, if_neg (nI_nlt (by omega) (by omega))]
    rfl
  | succ k ih =>
    intro i r hi
    rw [b134_4, Mi_persons H, e, if_pos (nI_lt (by omega) (by omega)), Mr_home H, Ma_home H (by omega), nI_1, List.range'_succ, List.foldl_cons]
    split <;> exact ih (i + 1) _ (by omega)
theorem q134 (H : MS h) (e : zi h 19 18 = nI n) (hn : n ≤ 20) : zcall 134 [vR (some 19), vI x] h = some (some (vI (mRes h x n)), h) := by
  rw [e134, show (0 : Int32) = nI 0 from nI_0.symm]
  exact w134 H e hn n 0 (-1) (by omega)
end ZQM
