section ZQO
variable {h : zH} {n p : Nat} {x y : Int32}
theorem zof {n : Nat} (hn : n < 2 ^ 31) (hx : 0 ≤ x.toInt ∧ x.toInt < n) : ∃ k, k < n ∧ x = nI k ∧ x.toInt = (k : Int) := by
  refine ⟨x.toInt.toNat, by omega, ?_, by omega⟩
  apply Int32.toInt_inj.mp
  rw [nI_toInt (by omega)]
  omega
theorem z20 : (20 : Int32) = nI 20 := rfl
theorem zcel (X Y : Nat) : (20 : Int32) * nI Y + nI X = nI (20 * Y + X) := by rw [z20, pk_mul, nI_add]
/-- on the grass -/
abbrev zgr (x y : Int32) : Prop := 0 ≤ x.toInt ∧ x.toInt ≤ 19 ∧ 0 ≤ y.toInt ∧ y.toInt ≤ 15
theorem zgr_of (hg : zgr x y) : ∃ X Y : Nat, X < 20 ∧ Y < 16 ∧ x = nI X ∧ y = nI Y ∧ (20 : Int32) * y + x = nI (20 * Y + X) ∧ 20 * Y + X < 320 := by
  obtain ⟨h1, h2, h3, h4⟩ := hg
  obtain ⟨X, hX, eX, -⟩ := zof (x := x) (n := 20) (by decide) ⟨h1, by omega⟩
  obtain ⟨Y, hY, eY, -⟩ := zof (x := y) (n := 16) (by decide) ⟨h3, by omega⟩
  exact ⟨X, Y, hX, hY, eX, eY, by rw [eX, eY, zcel], by omega⟩
theorem q137n (hg : ¬ zgr x y) : zcall 137 [vR (some 19), vI x, vI y] h = some (some (vI (-1002)), h) := by
  rw [e137, cI_k q127, if_neg hg, if_pos rfl]
theorem q137y (H : MS h) (hg : zgr x y) : zcall 137 [vR (some 19), vI x, vI y] h = some (some (vI (zi h 19 25)), zui h 19 25 (20 * y + x)) := by
  rw [e137, cI_k q127, if_pos hg, if_neg (by decide), Mi_halt H, Mp_halt H]
/-- what the reference answers of a cell -/
def mCell (h : zH) (c : Nat) : Int32 := if zi h 21 c < 100 then zi h 21 c else if zi h 33 (zi h 21 c - 100).toNatClampNeg = 0 then zi h 21 c else zi h 21 c + 100
theorem q126n (hg : ¬ zgr x y) : zcall 126 [vR (some 19), vI x, vI y] h = some (some (vI (-1002)), h) := by
  rw [e126, cI_k q127, if_neg hg, if_pos rfl]
theorem z100 (t : Nat) : nI (100 + t) - 100 = nI t := by
  rw [show (100 : Int32) = nI 100 from rfl, pk_sub (by omega), show 100 + t - 100 = t by omega]
theorem q126y (H : MS h) (hg : zgr x y) (hc : ∀ c, c < 320 → zi h 21 c < 100 ∨ ∃ t, t < 12 ∧ zi h 21 c = nI (100 + t)) : zcall 126 [vR (some 19), vI x, vI y] h = some (some (vI (mCell h (20 * y + x).toNatClampNeg)), h) := by
  obtain ⟨X, Y, hX, hY, eX, eY, e1, e2⟩ := zgr_of hg
  rw [e126, cI_k q127, if_pos hg, if_neg (by decide), Mr_cells H, e1, Ma_cells H e2, nI_clamp (by omega)]
  unfold mCell
  rcases hc _ e2 with hk | ⟨t, ht, ek⟩
  · rw [if_pos hk, if_pos hk]
  · by_cases hk : zi h 21 (20 * Y + X) < 100
    · rw [if_pos hk, if_pos hk]
    · rw [if_neg hk, if_neg hk, Mr_vacated H, ek, z100, Ma_vacated H ht, nI_clamp (by omega)]
      split <;> rfl
theorem q146 (H : MS h) : zcall 146 [vR (some 19), vI x] h = if 0 ≤ x.toInt ∧ x.toInt ≤ 100 then some (some (vI (zi h 19 26)), zui h 19 26 x) else some (some (vI (-1002)), h) := by
  rw [e146, cI_k (q113 _ _ _ _)]
  simp only [z64, show (0 : Int64).toInt = 0 by decide, show (100 : Int64).toInt = 100 by decide]
  by_cases hx : 0 ≤ x.toInt ∧ x.toInt ≤ 100
  · rw [if_pos hx, if_neg (by decide), if_pos hx, Mi_rate H, Mp_rate H]
  · rw [if_neg hx, if_pos rfl, if_neg hx]
/-- a new person -/
def mPer (h : zH) (p : Nat) (x : Int32) : zH := zui (zui (zui h 34 p x) 35 p (-1)) 19 18 (nI (p + 1))
theorem q138 (H : MS h) (e2 : zi h 19 18 = nI p) (hp : p ≤ 20) : zcall 138 [vR (some 19), vI x] h = if 0 ≤ x.toInt ∧ x.toInt ≤ 1000000 then (if p = 20 then some (some (vI (-1004)), h) else some (some (vI (nI p)), mPer h p x)) else some (some (vI (-1002)), h) := by
  rw [e138, cI_k (q113 _ _ _ _)]
  simp only [z64, show (0 : Int64).toInt = 0 by decide, show (1000000 : Int64).toInt = 1000000 by decide]
  by_cases hx : 0 ≤ x.toInt ∧ x.toInt ≤ 1000000
  · rw [if_pos hx, if_neg (by decide), if_pos hx, Mi_persons H, e2]
    by_cases h20 : p = 20
    · subst h20
      rw [if_pos z20.symm, if_pos rfl]
    · rw [if_neg (fun q => h20 ((nI_eq (by omega) (by decide)).mp (q.trans z20))), if_neg h20, Mr_money H, Mi_persons H, e2, Mt_money H (by omega)]
      have H1 : MS (zui h 34 p x) := H
      rw [Mr_home H1, Mi_persons H1, zi_ua (by decide), e2, Mt_home H1 (by omega)]
      have H2 : MS (zui (zui h 34 p x) 35 p (-1)) := H
      rw [Mi_persons H2, zi_ua (by decide), zi_ua (by decide), e2, Mp_persons H2, nI_1]
      have H3 : MS (zui (zui (zui h 34 p x) 35 p (-1)) 19 18 (nI (p + 1))) := H
      rw [Mi_persons H3, zi_us, nI_pred]
      rfl
  · rw [if_neg hx, if_pos rfl, if_neg hx]
theorem q139 (H : MS h) (e2 : zi h 19 18 = nI p) (hp : p ≤ 20) : zcall 139 [vR (some 19), vI x, vI y] h = if 0 ≤ x.toInt ∧ x.toInt < p then (if (-1000000 ≤ y.toInt ∧ y.toInt ≤ 1000000) ∧ 0 ≤ (zi h 34 x.toInt.toNat + y).toInt ∧ (zi h 34 x.toInt.toNat + y).toInt ≤ 1000000 then some (some (vI (zi h 34 x.toInt.toNat + y)), zui h 34 x.toInt.toNat (zi h 34 x.toInt.toNat + y)) else some (some (vI (-1002)), h)) else some (some (vI (-1001)), h) := by
  rw [e139, M_v H, cI_k (q140 H e2 hp)]
  by_cases hx : 0 ≤ x.toInt ∧ x.toInt < p
  · rw [if_pos hx, if_neg (by decide), if_pos hx, cI_k (q113 _ _ _ _)]
    obtain ⟨q, hq, eq, eq2⟩ := zof (x := x) (n := p) (by omega) hx
    rw [eq2, Int.toNat_natCast, eq]
    simp only [z64, show (0 : Int64).toInt = 0 by decide, show (1000000 : Int64).toInt = 1000000 by decide, show (-1000000 : Int64).toInt = -1000000 by decide]
    by_cases hy : -1000000 ≤ y.toInt ∧ y.toInt ≤ 1000000
    · rw [if_pos hy, if_neg (by decide), Mr_money H, Ma_money H (by omega), cI_k (q113 _ _ _ _)]
      simp only [z64, show (0 : Int64).toInt = 0 by decide, show (1000000 : Int64).toInt = 1000000 by decide]
      by_cases hm : 0 ≤ (zi h 34 q + y).toInt ∧ (zi h 34 q + y).toInt ≤ 1000000
      · rw [if_pos hm, if_neg (by decide), if_pos ⟨hy, hm⟩, Mr_money H, Ma_money H (by omega), Mt_money H (by omega)]
        have H1 : MS (zui h 34 q (zi h 34 q + y)) := H
        rw [Mr_money H1, Ma_money H1 (by omega), zi_us]
      · rw [if_neg hm, if_pos rfl, if_neg (fun q => hm q.2)]
    · rw [if_neg hy, if_pos rfl, if_neg (fun q => hy q.1)]
  · rw [if_neg hx, if_pos rfl, if_neg hx]
/-- lot l goes to x: who lived there goes, a change is told -/
def mHom (h : zH) (r x : Int32) : zH := if r < 0 then h else if r = x then h else zui h 35 r.toNatClampNeg (-1)
def mBec1 (h : zH) (c l : Nat) (x : Int32) : zH := zui (zui (zui (zui (zui (zui h 24 l x) 31 l (zi h 19 24)) 39 c (nI l)) 40 c (zi h 19 24)) 41 c x) 19 31 (nI (c + 1))
def mBec (h : zH) (c p l : Nat) (x : Int32) : zH := mBec1 (mHom h (mRes h (nI l) p) x) c l x
theorem MS_bec {c l : Nat} : MS (mBec1 h c l x) = MS h := rfl
theorem MS_hom (H : MS h) {r : Int32} : MS (mHom h r x) := by
  unfold mHom
  repeat' split
  all_goals exact H
theorem w143 (H : MS h) {c l : Nat} {r : Int32} (e : zi h 19 31 = nI c) (hc : c < 4000) (hl : l < 40) : zev 143 22 [some (vR (some 19)), some (vI (nI l)), some (vI x), some (vI r)] [] h = some (none, mBec1 h c l x) := by
  rw [b143_22, Mr_owners H, Mt_owners H hl]
  have H1 : MS (zui h 24 l x) := H
  rw [Mr_gotDay H1, Mi_now H1, zi_ua (by decide), Mt_gotDay H1 hl]
  have H2 : MS (zui (zui h 24 l x) 31 l (zi h 19 24)) := H
  rw [Mr_changeLot H2, Mi_changes H2, zi_ua (by decide), zi_ua (by decide), e, Mt_changeLot H2 hc]
  have H3 : MS (zui (zui (zui h 24 l x) 31 l (zi h 19 24)) 39 c (nI l)) := H
  rw [Mr_changeDay H3, Mi_changes H3, zi_ua (by decide), zi_ua (by decide), zi_ua (by decide), e, Mi_now H3, zi_ua (by decide), zi_ua (by decide), zi_ua (by decide), Mt_changeDay H3 hc]
  have H4 : MS (zui (zui (zui (zui h 24 l x) 31 l (zi h 19 24)) 39 c (nI l)) 40 c (zi h 19 24)) := H
  rw [Mr_changeOwner H4, Mi_changes H4, zi_ua (by decide), zi_ua (by decide), zi_ua (by decide), zi_ua (by decide), e, Mt_changeOwner H4 hc]
  have H5 : MS (zui (zui (zui (zui (zui h 24 l x) 31 l (zi h 19 24)) 39 c (nI l)) 40 c (zi h 19 24)) 41 c x) := H
  rw [Mi_changes H5, zi_ua (by decide), zi_ua (by decide), zi_ua (by decide), zi_ua (by decide), zi_ua (by decide), e, Mp_changes H5, nI_1]
  rfl
theorem zi_hom {r : Int32} {a k : Nat} (ha : a ≠ 35) : zi (mHom h r x) a k = zi h a k := by
  unfold mHom
  repeat' split
  all_goals first | rfl | exact zi_ua ha
/-- the last one found is one of them -/
theorem mRes_of (h : zH) (x : Int32) (n : Nat) : mRes h x n = -1 ∧ (∀ q, q < n → zi h 35 q ≠ x) ∨ ∃ q, q < n ∧ mRes h x n = nI q ∧ zi h 35 q = x := by
  induction n with
  | zero => exact Or.inl ⟨rfl, fun q hq => absurd hq (by omega)⟩
  | succ n ih =>
    have e : mRes h x (n + 1) = if zi h 35 n = x then nI n else mRes h x n := by
      unfold mRes
      rw [List.range'_1_concat, List.foldl_append]
      simp
    rw [e]
    split
    · rename_i hx
      exact Or.inr ⟨n, by omega, rfl, hx⟩
    · rename_i hx
      rcases ih with ⟨h1, h2⟩ | ⟨q, h1, h2, h3⟩
      · refine Or.inl ⟨h1, fun q hq => ?_⟩
        by_cases hqn : q = n
        · subst hqn; exact hx
        · exact h2 q (by omega)
      · exact Or.inr ⟨q, by omega, h2, h3⟩
theorem q143 (H : MS h) {c l : Nat} (e2 : zi h 19 18 = nI p) (hp : p ≤ 20) (e : zi h 19 31 = nI c) (hc : c < 4000) (hl : l < 40) : zcall 143 [vR (some 19), vI (nI l), vI x] h = some (none, mBec h c p l x) := by
  rw [e143, M_v H, cI_k (q134 H e2 hp)]
  have He : ∀ r, zi (mHom h r x) 19 31 = nI c := fun r => (zi_hom (by decide)).trans e
  unfold mBec
  by_cases hr : mRes h (nI l) p < 0
  · rw [if_pos hr, w143 H e hc hl]
    simp only [mHom, hr, if_true]
  · rw [if_neg hr]
    by_cases hx : mRes h (nI l) p = x
    · rw [if_pos hx, w143 H e hc hl]
      simp only [mHom, hr, if_false, hx, if_true]
      split <;> rfl
    · rw [if_neg hx]
      rcases mRes_of h (nI l) p with ⟨h1, -⟩ | ⟨q, h1, h2, -⟩
      · exact absurd (by rw [h1]; decide) hr
      · have H1 : MS (zui h 35 q (-1)) := H
        rw [h2, Mr_home H, Mt_home H (by omega), w143 H1 ((zi_ua (by decide)).trans e) hc hl]
        rw [h2] at hr hx
        simp only [mHom, hr, if_false, hx, nI_clamp (show q < 2 ^ 31 by omega)]
/-- lot l goes back -/
def mBack (h : zH) (c p l : Nat) : zH := zui (zui (zui (mBec h c p l (-1)) 28 l 0) 30 l 0) 32 l (-1)
theorem q150 (H : MS h) {c l : Nat} (e2 : zi h 19 18 = nI p) (hp : p ≤ 20) (e : zi h 19 31 = nI c) (hc : c < 4000) (hl : l < 40) : zcall 150 [vR (some 19), vI (nI l)] h = some (none, mBack h c p l) := by
  have H1 : MS (mBec h c p l (-1)) := by unfold mBec; rw [MS_bec]; exact MS_hom H
  rw [e150, M_v H, cV_k (q143 H e2 hp e hc hl), Mr_partsLeft H1, Mt_partsLeft H1 hl]
  have H2 : MS (zui (mBec h c p l (-1)) 28 l 0) := by rw [MS_ui]; exact H1
  rw [Mr_yearsOut H2, Mt_yearsOut H2 hl]
  have H3 : MS (zui (zui (mBec h c p l (-1)) 28 l 0) 30 l 0) := by rw [MS_ui, MS_ui]; exact H1
  rw [Mr_condition H3, Mt_condition H3 hl, mBack]
end ZQO
