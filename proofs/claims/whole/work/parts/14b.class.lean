/-! the class's people, its grass -/
section ZPA
variable {h : zH} {p : Nat} {x y : Int32}
theorem zlt0 (x : Int32) : x < 0 ↔ x.toInt < 0 := by rw [Int32.lt_iff_toInt_lt]; rfl
theorem q68 (H : CS h) (e : zi h 17 1 = nI p) (hp : p ≤ 20) : zcall 68 [vR (some 17), vI x] h = some (some (vI (if 0 ≤ x.toInt ∧ x.toInt < p then 1 else 0)), h) := by
  rw [e68, Ci17_1 H, e, Cr17_0 H, Cl18 H]
  simp only [Int32.lt_iff_toInt_lt, Int32.toInt_zero, nI_toInt (show p < 2 ^ 31 by omega), nI_toInt (show 20 < 2 ^ 31 by decide), bo_0, bo_1]
  by_cases h1 : x.toInt < 0
  · rw [if_pos h1, if_neg (by omega)]
  · rw [if_neg h1]
    by_cases h2 : x.toInt < (p : Int)
    · rw [if_pos h2, if_pos (by omega), if_pos (by omega)]
    · rw [if_neg h2, if_neg (by omega)]
theorem q69 (H : CS h) (e : zi h 17 1 = nI p) (hp : p ≤ 20) : zcall 69 [vR (some 17), vI x] h = some (some (vI (if 0 ≤ x.toInt ∧ x.toInt < p then zi h 18 x.toInt.toNat else 0)), h) := by
  rw [e69, Cv17 H, cI_k (q68 H e hp)]
  by_cases hx : 0 ≤ x.toInt ∧ x.toInt < p
  · obtain ⟨q, hq, eq, eq2⟩ := zof (by omega) hx
    rw [if_pos hx, if_neg (by decide), if_pos hx, Cr17_0 H, eq2, Int.toNat_natCast, eq, Ca18 H (by omega)]
  · rw [if_neg hx, if_pos rfl, if_neg hx]
theorem q70 (H : CS h) (e : zi h 17 1 = nI p) (hp : p ≤ 20) : zcall 70 [vR (some 17), vI x, vI y] h = some (none, if 0 ≤ x.toInt ∧ x.toInt < p then zui h 18 x.toInt.toNat y else h) := by
  rw [e70, Cv17 H, cI_k (q68 H e hp)]
  by_cases hx : 0 ≤ x.toInt ∧ x.toInt < p
  · obtain ⟨q, hq, eq, eq2⟩ := zof (by omega) hx
    rw [if_pos hx, if_neg (by decide), if_pos hx, Cr17_0 H, eq2, Int.toNat_natCast, eq, Ct18 H (by omega)]
  · rw [if_neg hx, if_pos rfl, if_neg hx]
/-- paying: if it is there, it goes -/
theorem q79 (H : CS h) (e : zi h 17 1 = nI p) (hp : p ≤ 20) {q : Nat} (hq : q < p) : zcall 79 [vR (some 17), vI (nI q), vI y] h = if zi h 18 q < y then some (some (vI 0), h) else some (some (vI 1), zui h 18 q (zi h 18 q - y)) := by
  have ex : 0 ≤ (nI q).toInt ∧ (nI q).toInt < p := by rw [nI_toInt (by omega)]; omega
  have e69 := q69 (x := nI q) H e hp
  rw [if_pos ex, nI_toInt (by omega), Int.toNat_natCast] at e69
  rw [e79, Cv17 H, cI_k e69, Cv17 H, cI_k e69, Cv17 H, cV_k (q70 H e hp), if_pos ex, nI_toInt (by omega), Int.toNat_natCast, bo_0, bo_1]
theorem q66 (H : CS h) (e : zi h 17 1 = nI p) (hp : p ≤ 20) : zcall 66 [vR (some 17), vI x] h = if p = 20 then some (some (vI (-1004)), h) else some (some (vI (nI p)), zui (zui h 18 p x) 17 1 (nI (p + 1))) := by
  rw [e66, Ci17_1 H, e, Cr17_0 H, Cl18 H]
  by_cases h20 : p = 20
  · rw [if_neg (nI_nlt (by omega) (by omega)), if_pos h20]
  · rw [if_pos (nI_lt (by omega) (by omega)), if_neg h20, Ci17_1 H, e, Cr17_0 H, Ct18 H (by omega)]
    have H1 : CS (zui h 18 p x) := by rw [CS_ui]; exact H
    rw [Ci17_1 H1, zi_ua (by decide), e, Cp17_1 H1, nI_1]
theorem zlt6 : (1000000 : Int32).toInt = 1000000 := by decide
theorem zlt6n : (-1000000 : Int32).toInt = -1000000 := by decide
theorem q65 (H : CS h) (e : zi h 17 1 = nI p) (hp : p ≤ 20) : zcall 65 [vR (some 8), vI x] h = if 0 ≤ x.toInt ∧ x.toInt ≤ 1000000 then (if p = 20 then some (some (vI (-1004)), h) else some (some (vI (nI p)), zui (zui h 18 p x) 17 1 (nI (p + 1)))) else some (some (vI (-1002)), h) := by
  rw [e65, Cr8_1 H, Cr12_1 H, Cv17 H]
  simp only [Int32.lt_iff_toInt_lt, Int32.toInt_zero, zlt6]
  by_cases h1 : x.toInt < 0
  · rw [if_pos h1, if_neg (by omega)]
  · rw [if_neg h1]
    by_cases h2 : 1000000 < x.toInt
    · rw [if_pos h2, if_neg (by omega)]
    · rw [if_neg h2, if_pos (by omega)]
      have h66 := q66 (x := x) H e hp
      by_cases h20 : p = 20
      · rw [if_pos h20] at h66 ⊢
        rw [cI_k h66]
      · rw [if_neg h20] at h66 ⊢
        rw [cI_k h66]
theorem q67 (H : CS h) (e : zi h 17 1 = nI p) (hp : p ≤ 20) : zcall 67 [vR (some 8), vI x, vI y] h = if 0 ≤ x.toInt ∧ x.toInt < p then (if (-1000000 ≤ y.toInt ∧ y.toInt ≤ 1000000) ∧ 0 ≤ (zi h 18 x.toInt.toNat + y).toInt ∧ (zi h 18 x.toInt.toNat + y).toInt ≤ 1000000 then some (some (vI (zi h 18 x.toInt.toNat + y)), zui h 18 x.toInt.toNat (zi h 18 x.toInt.toNat + y)) else some (some (vI (-1002)), h)) else some (some (vI (-1001)), h) := by
  rw [e67, Cr8_1 H, Cr12_1 H, Cv17 H, cI_k (q68 H e hp)]
  by_cases hx : 0 ≤ x.toInt ∧ x.toInt < p
  · rw [if_pos hx, if_neg (by decide), if_pos hx, Cr8_1 H, Cr12_1 H, Cv17 H, cI_k (q69 H e hp), if_pos hx, Cr8_1 H, Cr12_1 H, Cv17 H, cV_k (q70 H e hp), if_pos hx]
    simp only [Int32.lt_iff_toInt_lt, Int32.toInt_zero, zlt6, zlt6n]
    generalize zi h 18 x.toInt.toNat + y = w
    repeat' split
    all_goals first | rfl | (exfalso; omega)
  · rw [if_neg hx, if_pos rfl, if_neg hx]
theorem q26 : zcall 26 [vI x, vI y] h = some (some (vI (if zgr x y then 1 else 0)), h) := by
  rw [e26]
  simp only [Int32.lt_iff_toInt_lt, Int32.toInt_zero, show (20 : Int32).toInt = 20 by decide, show (16 : Int32).toInt = 16 by decide, bo_0, bo_1]
  repeat' split
  all_goals first | rfl | (exfalso; omega)
theorem zcel2 (X Y : Nat) : nI Y * (20 : Int32) + nI X = nI (20 * Y + X) := by rw [z20, pk_mul, nI_add, Nat.mul_comm]
theorem zgr_of2 (hg : zgr x y) : ∃ c : Nat, y * 20 + x = nI c ∧ c < 320 ∧ 20 * y + x = nI c := by
  obtain ⟨X, Y, hX, hY, eX, eY, e1, e2⟩ := zgr_of hg
  exact ⟨20 * Y + X, by rw [eX, eY, zcel2], e2, e1⟩
theorem q25y (H : CS h) (hg : zgr x y) : zcall 25 [vR (some 13), vI x, vI y] h = some (some (vI (zi h 14 (20 * y + x).toNatClampNeg)), h) := by
  obtain ⟨c, e1, e2, e3⟩ := zgr_of2 hg
  rw [e25, cI_k q26, if_pos hg, if_neg (by decide), Cr13_0 H, e1, Ca14 H e2, e3, nI_clamp (by omega)]
theorem q25n (hg : ¬ zgr x y) : zcall 25 [vR (some 13), vI x, vI y] h = some (some (vI (-1)), h) := by
  rw [e25, cI_k q26, if_neg hg, if_pos rfl]
theorem q48y (H : CS h) (hg : zgr x y) : zcall 48 [vR (some 8), vI x, vI y] h = some (some (vI (zi h 14 (20 * y + x).toNatClampNeg)), h) := by
  rw [e48, cI_k q26, if_pos hg, if_neg (by decide), Cr8_1 H, Cr12_0 H, Cv13 H, cI_k (q25y H hg)]
theorem q48n (hg : ¬ zgr x y) : zcall 48 [vR (some 8), vI x, vI y] h = some (some (vI (-1002)), h) := by
  rw [e48, cI_k q26, if_neg hg, if_pos rfl]
theorem q64y (H : CS h) (hg : zgr x y) : zcall 64 [vR (some 8), vI x, vI y] h = some (some (vI (zi h 13 4)), zui h 13 4 (20 * y + x)) := by
  obtain ⟨c, e1, e2, e3⟩ := zgr_of2 hg
  rw [e64, cI_k q26, if_pos hg, if_neg (by decide), Cr8_1 H, Cr12_0 H, Ci13_4 H, Cr8_1 H, Cr12_0 H, Cp13_4 H, e1, e3]
theorem q64n (hg : ¬ zgr x y) : zcall 64 [vR (some 8), vI x, vI y] h = some (some (vI (-1002)), h) := by
  rw [e64, cI_k q26, if_neg hg, if_pos rfl]
theorem q88 (H : CS h) : zcall 88 [vR (some 8), vI x] h = if 0 ≤ x.toInt ∧ x.toInt ≤ 100 then some (some (vI (zi h 12 3)), zui h 12 3 x) else some (some (vI (-1002)), h) := by
  rw [e88, Cr8_1 H, Ci12_3 H, Cr8_1 H, Cp12_3 H]
  simp only [Int32.lt_iff_toInt_lt, Int32.toInt_zero, show (100 : Int32).toInt = 100 by decide]
  repeat' split
  all_goals first | rfl | (exfalso; omega)
theorem q47 (H : CS h) : zcall 47 [vR (some 8)] h = some (some (vI (zi h 9 3)), h) := by
  rw [e47, Cr8_0 H, Ci9_3 H]
end ZPA
