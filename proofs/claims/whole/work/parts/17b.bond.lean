-- deps: 15a.lots 16a.rel 16b.step 16c.title 16d.cong 16e.title 16f.pass 17a.ask
section ZBD
variable {h h' hc hm hb m m' : zH} {n p s c c' t t' l j k a q : Nat} {x y z v : Int32}
/-- can pay the share -/
def cCan (h : zH) (p : Nat) (v x : Int32) : Bool := decide (¬ (if 0 ≤ x.toInt ∧ x.toInt < p then zi h 18 x.toInt.toNat else 0) / 10 < v)
theorem w110 (W : LW h n) (e : zi h 17 1 = nI p) (hp : p ≤ 20) : ∀ (k i c : Nat) (u : Option zV), i + k = n → zev 110 16 [some (vR (some 12)), some (vI x), some (vI y), some (vI v), some (vI (nI c)), some (vI (nI i)), u] [] h = some (some (vI (nI (c + (List.range' i k).countP (fun l => cLiv h l && cCan h p v (cf h l 7))))), h) := by
  have hn := W.2.1
  intro k
  induction k with
  | zero =>
    intro i c u hi
    rw [b110_16, Cr12_0 W.1, Cr13_2 W.1, Lv16 W, Lsz W, if_neg (nI_nlt (by omega) (by omega))]
    rfl
  | succ k ih =>
    intro i c u hi
    rw [b110_16, Cr12_0 W.1, Cr13_2 W.1, Lv16 W, Lsz W, if_pos (nI_lt (by omega) (by omega)), Cr12_0 W.1, Cr13_2 W.1, Lv16 W, Lget W (by omega), Lca W (by omega), Lgi W (by omega) (by decide), Cr12_1 W.1, Lgi W (by omega) (by decide), Cv17 W.1, cI_k (q69 W.1 e hp), dv_k (by decide), nI_1, nI_1, List.range'_succ, List.countP_cons, ih (i + 1) _ _ (by omega), ih (i + 1) _ _ (by omega)]
    by_cases g : zi h (zla h i) 10 = 0
    · rw [if_pos g]
      have : cLiv h i = false := by unfold cLiv; simp [g]
      simp [this]
    · have g' : cLiv h i = true := by unfold cLiv; simp [g]
      rw [if_neg g, g', Bool.true_and]
      by_cases g2 : (if 0 ≤ (zi h (zla h i) 7).toInt ∧ (zi h (zla h i) 7).toInt < p then zi h 18 (zi h (zla h i) 7).toInt.toNat else 0) / 10 < v
      · rw [if_pos g2]
        have : cCan h p v (cf h i 7) = false := by unfold cCan cf; simp only [g2, not_true_eq_false, decide_false]
        rw [this]
        rfl
      · rw [if_neg g2]
        have : cCan h p v (cf h i 7) = true := by unfold cCan cf; simp only [g2, not_false_eq_true, decide_true]
        rw [this, if_pos rfl, show ∀ a b : Nat, a + 1 + b = a + (b + 1) from fun a b => by omega]
theorem w158 (H : MS h) (e : zi h 19 18 = nI p) (hp : p ≤ 20) (hv : (∃ q, q < p ∧ mHas h q = true) → y ≠ 0) : ∀ (k i c : Nat), i + k = p → zev 158 37 [some (vR (some 19)), some (vI x), some (vI z), some (vI y), some (vI (nI c)), some (vI (nI i))] [] h = (if z = 0 then some (some (vI (nI (c + (List.range' i k).countP (fun q => mHas h q && decide (¬ zi h 34 q / 10 < x / y))))), h) else (if y < (2 * nI (c + (List.range' i k).countP (fun q => mHas h q && decide (¬ zi h 34 q / 10 < x / y)))) then some (some (vI 1), h) else some (some (vI 0), h))) := by
  intro k
  induction k with
  | zero =>
    intro i c hi
    rw [b158_37, Mi_persons H, e, if_neg (nI_nlt (by omega) (by omega))]
    rfl
  | succ k ih =>
    intro i c hi
    rw [b158_37, Mi_persons H, e, if_pos (nI_lt (by omega) (by omega)), Mr_home H, Ma_home H (by omega), Mr_money H, Ma_money H (by omega), dv_k (show (10 : Int32) ≠ 0 by decide), Int32.add_zero, nI_1, nI_1, ih (i + 1) _ (by omega), ih (i + 1) _ (by omega), List.range'_succ, List.countP_cons]
    by_cases g : zi h 35 i < 0
    · rw [if_pos g]
      have : mHas h i = false := by unfold mHas; simp [g]
      rw [this]
      rfl
    · have g' : mHas h i = true := by unfold mHas; simp [g]
      rw [if_neg g, dv_k (hv ⟨i, by omega, g'⟩), g', Bool.true_and]
      by_cases g2 : zi h 34 i / 10 < x / y
      · rw [if_pos g2]
        simp only [g2, not_true_eq_false, decide_false]
        rfl
      · rw [if_neg g2]
        simp only [g2, not_false_eq_true, decide_true, if_true]
        rw [show ∀ a b : Nat, a + 1 + b = a + (b + 1) from fun a b => by omega]
theorem J_bond : JG 109 158 [vI x, vI z] := by
  intro hc hm n p s c t r ht
  obtain ⟨w, rm, rk, rx, rmo, rl, rd, rh, rg, rb, bs, rt, ro⟩ := id r
  obtain ⟨k1, k2, k3, k4, -⟩ := id rk
  have hn := w.2.1
  by_cases hx : 1 ≤ x.toInt ∧ x.toInt ≤ 1000000
  · by_cases hz : 0 ≤ z.toInt ∧ z.toInt ≤ 1
    · have hL := live_eq w rl rh k4
      generalize hM : (List.range' 0 p).countP (mHas hm) = L at hL
      have hLp : L ≤ 20 := by
        rw [← hM]
        refine Nat.le_trans List.countP_le_length ?_
        simp
        exact k4
      -- the votes
      have hc1 : ∀ v, (List.range' 0 n).countP (fun l => cLiv hc l && cCan hc p v (cf hc l 7)) = (List.range' 0 p).countP (fun q => mHas hm q && decide (¬ zi hm 34 q / 10 < v)) := fun v => by
        rw [live_cP w rl rh k4 (fun x => cCan hc p v x)]
        refine cP_cg p (fun q hq => ?_)
        unfold cCan
        rw [nI_toInt (by omega), if_pos (by omega), Int.toNat_natCast, rmo q hq]
      have h110 : zcall 110 [vR (some 12), vI x, vI (nI L)] hc = some (some (vI (nI ((List.range' 0 p).countP (fun q => mHas hm q && decide (¬ zi hm 34 q / 10 < x / nI L))))), hc) := by
        rw [e110]
        by_cases e0 : L = 0
        · subst e0
          rw [if_neg (by decide)]
          have : (List.range' 0 p).countP (fun q => mHas hm q && decide (¬ zi hm 34 q / 10 < x / nI 0)) = 0 := by
            rw [List.countP_eq_zero] at hM ⊢
            intro q hq
            have := hM q hq
            simp [this]
          rw [this]
          rfl
        · rw [z00, if_pos (nI_lt (by omega) (by omega)), dv_k (fun q => nI_ne0 (by omega) (by omega) (q.trans nI_0)), w110 w k2 k4 n 0 0 none (by omega), hc1, Nat.zero_add]
      have e1 : zcall 109 [vR (some 8), vI x, vI z] hc = (if z = 0 then some (some (vI (nI ((List.range' 0 p).countP (fun q => mHas hm q && decide (¬ zi hm 34 q / 10 < x / nI L))))), hc) else (if nI L < (2 * nI ((List.range' 0 p).countP (fun q => mHas hm q && decide (¬ zi hm 34 q / 10 < x / nI L)))) then some (some (vI 1), hc) else some (some (vI 0), hc))) := by
        rw [e109]
        rw [if_neg (by rw [Int32.lt_iff_toInt_lt, show (1 : Int32).toInt = 1 by decide]; omega), if_neg (by rw [Int32.lt_iff_toInt_lt, show (1000000 : Int32).toInt = 1000000 by decide]; omega), if_neg (by rw [Int32.lt_iff_toInt_lt, Int32.toInt_zero]; omega), if_neg (by rw [Int32.lt_iff_toInt_lt, show (1 : Int32).toInt = 1 by decide]; omega), Cr8_1 w.1, Cr12_0 w.1, Cv13 w.1, cI_k (q107 w), hL, Cr8_1 w.1, Cv12 w.1, cI_k h110]
      have e2 : zcall 158 [vR (some 19), vI x, vI z] hm = (if z = 0 then some (some (vI (nI ((List.range' 0 p).countP (fun q => mHas hm q && decide (¬ zi hm 34 q / 10 < x / nI L))))), hm) else (if nI L < (2 * nI ((List.range' 0 p).countP (fun q => mHas hm q && decide (¬ zi hm 34 q / 10 < x / nI L)))) then some (some (vI 1), hm) else some (some (vI 0), hm))) := by
        rw [e158, cI_k (q113 _ _ _ _), cI_k (q113 _ _ _ _), M_v rm, cI_k (q157 rm k3 k4), hM]
        simp only [z64, show (0 : Int64).toInt = 0 by decide, show (1 : Int64).toInt = 1 by decide, show (1000000 : Int64).toInt = 1000000 by decide]
        rw [if_pos hx, if_neg (by decide), if_pos hz, if_neg (by decide)]
        have := w158 (x := x) (y := nI L) (z := z) rm k3 k4 (fun ⟨q, hq, e⟩ => by
          refine nI_ne0 ?_ (by omega)
          rw [← hM]
          exact List.countP_pos_iff.mpr ⟨q, by rw [List.mem_range'_1]; omega, e⟩) p 0 0 (by omega)
        rw [nI_0] at this
        simp only [Nat.zero_add] at this
        exact this
      revert e1 e2
      repeat' split
      all_goals exact fun e1 e2 => J_no r ht e1 e2
    · refine J_no r ht (v := -1002) ?_ ?_
      · rw [e109]
        simp only [Int32.lt_iff_toInt_lt, Int32.toInt_zero, show (1 : Int32).toInt = 1 by decide, show (1000000 : Int32).toInt = 1000000 by decide]
        repeat' split
        all_goals first | rfl | (exfalso; omega)
      · rw [e158, cI_k (q113 _ _ _ _), cI_k (q113 _ _ _ _)]
        simp only [z64, show (0 : Int64).toInt = 0 by decide, show (1 : Int64).toInt = 1 by decide, show (1000000 : Int64).toInt = 1000000 by decide]
        rw [if_pos hx, if_neg (by decide), if_neg hz, if_pos rfl]
  · refine J_no r ht (v := -1002) ?_ ?_
    · rw [e109]
      simp only [Int32.lt_iff_toInt_lt, Int32.toInt_zero, show (1 : Int32).toInt = 1 by decide, show (1000000 : Int32).toInt = 1000000 by decide]
      by_cases g : x.toInt < 1
      · rw [if_pos g]
      · rw [if_neg g, if_pos (by omega)]
    · rw [e158, cI_k (q113 _ _ _ _)]
      simp only [z64, show (1 : Int64).toInt = 1 by decide, show (1000000 : Int64).toInt = 1000000 by decide]
      rw [if_neg hx, if_pos rfl]
end ZBD
