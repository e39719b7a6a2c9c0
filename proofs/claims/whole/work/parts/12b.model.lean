section ZQN
variable {h : zH} {n p : Nat} {x y : Int32}
theorem zfi {c : Prop} [Decidable c] {a b : Int32} {B : Option (Option zV × zH)} (hB : B = some (some (vI b), h)) : (if c then some (some (vI a), h) else B) = some (some (vI (if c then a else b)), h) := by
  rw [hB]
  split <;> rfl
theorem z00 : (0 : Int32) = nI 0 := nI_0.symm
theorem q135 (H : MS h) {l : Nat} (hl : l < 40) : zcall 135 [vR (some 19), vI (nI l)] h = some (some (vI (if zi h 28 l = 0 then 0 else (zi h 28 l - 1) * zi h 26 l + zi h 27 l)), h) := by
  rw [e135, Mr_partsLeft H, Ma_partsLeft H hl]
  split
  · rfl
  · rw [Mr_partsLeft H, Ma_partsLeft H hl, Mr_part H, Ma_part H hl, Mr_lastPart H, Ma_lastPart H hl]
/-- what is still owed on lot l -/
def mOwed (h : zH) (l : Nat) : Int32 := if zi h 28 l = 0 then 0 else (zi h 28 l - 1) * zi h 26 l + zi h 27 l
def mOwn (h : zH) (x : Int32) (l : Nat) : Bool := decide (zi h 24 l = x)
theorem w155 (H : MS h) (e : zi h 19 5 = nI n) (hn : n ≤ 40) : ∀ (k i c : Nat), i + k = n → zev 155 4 [some (vR (some 19)), some (vI x), some (vI (nI c)), some (vI (nI i))] [] h = some (some (vI (nI (c + (List.range' i k).countP (mOwn h x)))), h) := by
  intro k
  induction k with
  | zero =>
    intro i c hi
    rw [b155_4, Mi_lots H, e, if_neg (nI_nlt (by omega) (by omega))]
    rfl
  | succ k ih =>
    intro i c hi
    rw [b155_4, Mi_lots H, e, if_pos (nI_lt (by omega) (by omega)), Mr_owners H, Ma_owners H (by omega), nI_1, nI_1, List.range'_succ, List.countP_cons, Int32.add_zero]
    split
    · rename_i hx
      rw [ih (i + 1) _ (by omega)]
      simp only [mOwn, hx, decide_true, if_true]
      rw [show c + 1 + List.countP (mOwn h x) (List.range' (i + 1) k) = c + (List.countP (mOwn h x) (List.range' (i + 1) k) + 1) by omega]
    · rename_i hx
      rw [ih (i + 1) _ (by omega)]
      simp [mOwn, hx]
theorem q155 (H : MS h) (e : zi h 19 5 = nI n) (hn : n ≤ 40) : zcall 155 [vR (some 19), vI x] h = some (some (vI (nI ((List.range' 0 n).countP (mOwn h x)))), h) := by
  rw [e155, z00, w155 H e hn n 0 0 (by omega), Nat.zero_add]
def mHas (h : zH) (q : Nat) : Bool := decide (¬ zi h 35 q < 0)
theorem w157 (H : MS h) (e : zi h 19 18 = nI p) (hp : p ≤ 20) : ∀ (k i c : Nat), i + k = p → zev 157 4 [some (vR (some 19)), some (vI (nI c)), some (vI (nI i))] [] h = some (some (vI (nI (c + (List.range' i k).countP (mHas h)))), h) := by
  intro k
  induction k with
  | zero =>
    intro i c hi
    rw [b157_4, Mi_persons H, e, if_neg (nI_nlt (by omega) (by omega))]
    rfl
  | succ k ih =>
    intro i c hi
    rw [b157_4, Mi_persons H, e, if_pos (nI_lt (by omega) (by omega)), Mr_home H, Ma_home H (by omega), nI_1, nI_1, List.range'_succ, List.countP_cons, Int32.add_zero]
    split
    · rename_i hx
      rw [ih (i + 1) _ (by omega)]
      simp [mHas, hx]
    · rename_i hx
      rw [ih (i + 1) _ (by omega)]
      simp only [mHas, hx, not_false_eq_true, decide_true, if_true]
      rw [show c + 1 + List.countP (mHas h) (List.range' (i + 1) k) = c + (List.countP (mHas h) (List.range' (i + 1) k) + 1) by omega]
theorem q157 (H : MS h) (e : zi h 19 18 = nI p) (hp : p ≤ 20) : zcall 157 [vR (some 19)] h = some (some (vI (nI ((List.range' 0 p).countP (mHas h)))), h) := by
  rw [e157, z00, w157 H e hp p 0 0 (by omega), Nat.zero_add]
/-- what a person owes in all -/
def mDebt (h : zH) (x : Int32) (s : Int32) (l : Nat) : Int32 := if zi h 24 l = x then s + mOwed h l else s + 0
def mTold (h : zH) (n q : Nat) (s y : Int32) : Int32 := if y = 0 then zi h 34 q else if y = 1 then nI ((List.range' 0 n).countP (mOwn h (nI q))) else if y = 2 then zi h 35 q else if y = 3 then s else (-1002)
theorem w154 (H : MS h) (e : zi h 19 5 = nI n) (hn : n ≤ 40) {q : Nat} (hq : q < 20) : ∀ (k i : Nat) (s : Int32), i + k = n → zev 154 17 [some (vR (some 19)), some (vI (nI q)), some (vI y), some (vI s), some (vI (nI i))] [] h = some (some (vI (mTold h n q ((List.range' i k).foldl (mDebt h (nI q)) s) y)), h) := by
  intro k
  induction k with
  | zero =>
    intro i s hi
    rw [b154_17, Mi_lots H, e, if_neg (nI_nlt (by omega) (by omega)), Mr_money H, Ma_money H hq, M_v H, cI_k (q155 H e hn), Mr_home H, Ma_home H hq]
    unfold mTold
    simp only [List.range'_zero, List.foldl_nil]
    repeat refine zfi ?_
    rfl
  | succ k ih =>
    intro i s hi
    rw [b154_17, Mi_lots H, e, if_pos (nI_lt (by omega) (by omega)), Mr_owners H, Ma_owners H (by omega), M_v H, cI_k (q135 H (by omega)), nI_1, List.range'_succ, List.foldl_cons]
    split
    · rename_i hx
      rw [ih (i + 1) _ (by omega)]
      simp only [mDebt, hx, if_true]
      rfl
    · rename_i hx
      rw [ih (i + 1) _ (by omega)]
      simp only [mDebt, hx, if_false]
theorem q154 (H : MS h) (e : zi h 19 5 = nI n) (hn : n ≤ 40) (e2 : zi h 19 18 = nI p) (hp : p ≤ 20) : zcall 154 [vR (some 19), vI x, vI y] h = some (some (vI (if 0 ≤ x.toInt ∧ x.toInt < p then mTold h n x.toInt.toNat ((List.range' 0 n).foldl (mDebt h x) 0) y else (-1001))), h) := by
  rw [e154, M_v H, cI_k (q140 H e2 hp)]
  by_cases hx : 0 ≤ x.toInt ∧ x.toInt < p
  · rw [if_pos hx, if_neg (by decide), if_pos hx]
    have ex : x = nI x.toInt.toNat := by
      apply Int32.toInt_inj.mp
      rw [nI_toInt (by omega)]
      omega
    rw [ex, z00, w154 H e hn (by omega) n 0 _ (by omega), nI_toInt (by omega)]
    simp
  · rw [if_neg hx, if_pos rfl, if_neg hx]
/-- the area of all lots -/
def mArea (h : zH) (s : Int32) (l : Nat) : Int32 := s + zi h 23 l
def mCnt (h : zH) (n p : Nat) (s x : Int32) : Int32 :=
  if x = 0 then zi h 19 5 else if x = 1 then zi h 19 16 else if x = 2 then zi h 19 18 else if x = 3 then zi h 19 24 else if x = 4 then nI ((List.range' 0 p).countP (mHas h)) else if x = 5 then nI ((List.range' 0 n).countP (mOwn h (-1))) else if x = 6 then zi h 19 27 else if x = 7 then zi h 19 28 else if x = 8 then zi h 19 29 else if x = 9 then zi h 19 30 else if x = 10 then zi h 19 1 else if x = 11 then zi h 19 31 else if x = 12 then s else if x = 13 then zi h 19 25 else (-1002)
theorem w156 (H : MS h) (e : zi h 19 5 = nI n) (hn : n ≤ 40) (e2 : zi h 19 18 = nI p) (hp : p ≤ 20) : ∀ (k i : Nat) (s : Int32), i + k = n → zev 156 4 [some (vR (some 19)), some (vI x), some (vI s), some (vI (nI i))] [] h = some (some (vI (mCnt h n p ((List.range' i k).foldl (mArea h) s) x)), h) := by
  intro k
  induction k with
  | zero =>
    intro i s hi
    rw [b156_4, Mi_lots H, if_neg (by rw [e]; exact nI_nlt (by omega) (by omega))]
    simp only [M_v, Mr_text, Mi_texted, Mp_texted, Mi_faultPlace, Mp_faultPlace, Mr_cells, Mr_draft, Mi_lots, Mp_lots, Mr_halves, Mr_owners, Mr_isGift, Mr_part, Mr_lastPart, Mr_partsLeft, Mr_dueDay, Mr_yearsOut, Mr_gotDay, Mr_condition, Mi_streets, Mp_streets, Mr_vacated, Mi_persons, Mp_persons, Mr_money, Mr_home, Mr_bidMany, Mr_bidders, Mr_bids, Mi_now, Mp_now, Mi_halt, Mp_halt, Mi_rate, Mp_rate, Mi_forfeits, Mp_forfeits, Mi_taken, Mp_taken, Mi_got, Mp_got, Mi_taxes, Mp_taxes, Mi_changes, Mp_changes, Mr_changeLot, Mr_changeDay, Mr_changeOwner, Mi_at, Mp_at, Mi_newLots, Mp_newLots, Mi_newStreets, Mp_newStreets, Mr_numbers, Mr_newCells, Mr_newGift, MS_ui, H, cI_k (q155 H e hn), cI_k (q157 H e2 hp)]
    unfold mCnt
    simp only [List.range'_zero, List.foldl_nil]
    repeat refine zfi ?_
    rfl
  | succ k ih =>
    intro i s hi
    rw [b156_4, Mi_lots H, if_pos (by rw [e]; exact nI_lt (by omega) (by omega)), Mr_halves H, Ma_halves H (by omega), nI_1, List.range'_succ, List.foldl_cons]
    exact ih (i + 1) _ (by omega)
theorem q156 (H : MS h) (e : zi h 19 5 = nI n) (hn : n ≤ 40) (e2 : zi h 19 18 = nI p) (hp : p ≤ 20) : zcall 156 [vR (some 19), vI x] h = some (some (vI (mCnt h n p ((List.range' 0 n).foldl (mArea h) 0) x)), h) := by
  rw [e156]
  have := w156 (x := x) H e hn e2 hp n 0 0 (by omega)
  rw [nI_0] at this
  exact this
/-- the owner of lot x on day y, by the changes told -/
def mTit (h : zH) (x y : Int32) (r : Int32) (k : Nat) : Int32 := if zi h 39 k = x ∧ ¬ y < zi h 40 k then zi h 41 k else r
theorem w153 (H : MS h) {c : Nat} (e : zi h 19 31 = nI c) (hc : c ≤ 4000) : ∀ (k i : Nat) (r : Int32), i + k = c → zev 153 35 [some (vR (some 19)), some (vI x), some (vI y), some (vI r), some (vI (nI i))] [] h = some (some (vI ((List.range' i k).foldl (mTit h x y) r)), h) := by
  intro k
  induction k with
  | zero =>
    intro i r hi
    rw [b153_35, Mi_changes H, e, if_neg (nI_nlt (by omega) (by omega))]
    rfl
  | succ k ih =>
    intro i r hi
    rw [b153_35, Mi_changes H, e, if_pos (nI_lt (by omega) (by omega)), Mr_changeLot H, Ma_changeLot H (by omega), Mr_changeDay H, Ma_changeDay H (by omega), Mr_changeOwner H, Ma_changeOwner H (by omega), nI_1, List.range'_succ, List.foldl_cons]
    split
    · rename_i hx
      split
      · rename_i hy
        rw [ih (i + 1) _ (by omega)]
        simp only [mTit, hx, hy, not_true_eq_false, and_false, if_false]
      · rename_i hy
        rw [ih (i + 1) _ (by omega)]
        simp only [mTit, hx, hy, not_false_eq_true, and_self, if_true]
    · rename_i hx
      rw [ih (i + 1) _ (by omega)]
      simp only [mTit, hx, false_and, if_false]
theorem q153 (H : MS h) (e : zi h 19 5 = nI n) (hn : n ≤ 40) {c : Nat} (e2 : zi h 19 31 = nI c) (hc : c ≤ 4000) : zcall 153 [vR (some 19), vI x, vI y] h = some (some (vI (if 0 ≤ x.toInt ∧ x.toInt < n then (if 0 ≤ y.toInt ∧ y.toInt ≤ (zi h 19 24).toInt then (List.range' 0 c).foldl (mTit h x y) (-1) else (-1002)) else (-1001))), h) := by
  rw [e153, M_v H, cI_k (q129 H e hn)]
  by_cases hx : 0 ≤ x.toInt ∧ x.toInt < n
  · rw [if_pos hx, if_neg (by decide), if_pos hx, Mi_now H, cI_k (q113 _ _ _ _)]
    simp only [z64, show (0 : Int64).toInt = 0 by decide]
    by_cases hy : 0 ≤ y.toInt ∧ y.toInt ≤ (zi h 19 24).toInt
    · rw [if_pos hy, if_neg (by decide), if_pos hy]
      have := w153 (x := x) (y := y) H e2 hc c 0 (-1) (by omega)
      rw [nI_0] at this
      exact this
    · rw [if_neg hy, if_pos rfl, if_neg hy]
  · rw [if_neg hx, if_pos rfl, if_neg hx]
theorem q125 (H : MS h) : zcall 125 [vR (some 19)] h = some (some (vI (zi h 19 2)), h) := by
  rw [e125, Mi_faultPlace H]
end ZQN
