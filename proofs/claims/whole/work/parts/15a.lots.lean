/-! the class's lots -/
def zed (h : zH) : Nat := (zr h 16 1).getD 0
/-- where lot l lies -/
def zla (h : zH) (l : Nat) : Nat := (zr h (zed h) l).getD 0
/-- n lots, well laid -/
def LW (h : zH) (n : Nat) : Prop := CS h ∧ n ≤ 40 ∧ (∃ cap, zLi h 16 (zed h) n cap) ∧ (zed h = 7 ∨ 45 ≤ zed h) ∧ (∀ l, l < n → zr h (zed h) l = some (zla h l) ∧ 45 ≤ zla h l ∧ zla h l < zn h ∧ zk h (zla h l) = (2, 17)) ∧ ∀ l j, l < n → j < n → zla h l = zla h j → l = j
section ZLW
variable {h : zH} {n l k a : Nat} {x y : Int32} {α : Type}
theorem zLi_ui {ed m cap b : Nat} (L : zLi h b ed m cap) (ha : (zk h a).1 ≠ 0) : zLi (zui h a k x) b ed m cap := by
  obtain ⟨l1, l2, l3, l4, l5, l6⟩ := L
  refine ⟨l1, l2, l3, l4, ?_, l6⟩
  rw [zi_ua]
  · exact l5
  · intro q
    rw [← q, l3] at ha
    exact ha rfl
theorem LW_ui (W : LW h n) (ha : (zk h a).1 ≠ 0) : LW (zui h a k x) n := by
  obtain ⟨w1, w2, ⟨cap, w3⟩, w4, w5, w6⟩ := W
  exact ⟨w1, w2, ⟨cap, zLi_ui w3 ha⟩, w4, w5, w6⟩
theorem LW_lot (W : LW h n) (hl : l < n) : LW (zui h (zla h l) k x) n := LW_ui W (by rw [(W.2.2.2.2.1 l hl).2.2.2]; decide)
theorem Lv16 (W : LW h n) {f : Option α} : zvr h (some 16) 0 f = f := by
  obtain ⟨-, -, ⟨cap, w⟩, -⟩ := W
  exact vr_k w.1 w.2.1 w.2.2.1
theorem Lsz (W : LW h n) {f : Int32 → zH → Option α} : zcI 14 [vR (some 16)] h f = f (nI n) h := by
  obtain ⟨-, -, ⟨cap, w⟩, -⟩ := W
  exact cI_k (q14 w)
theorem Lget (W : LW h n) (hl : l < n) {f : Option Nat → zH → Option α} : zcR 51 [vR (some 16), vI (nI l)] h f = f (some (zla h l)) h := by
  obtain ⟨-, -, ⟨cap, w⟩, -, w5, -⟩ := W
  rw [cR_k (q51 w hl), (w5 l hl).1]
theorem Lca (W : LW h n) (hl : l < n) {f : Option α} : zca h 2 (some (zla h l)) f = f := by
  obtain ⟨-, w1, w2, w3⟩ := W.2.2.2.2.1 l hl
  unfold zca
  exact if_pos ⟨by omega, w2, by rw [w3]⟩
theorem Lv (W : LW h n) (hl : l < n) {f : Option α} : zvr h (some (zla h l)) 2 f = f := by
  obtain ⟨-, w1, w2, w3⟩ := W.2.2.2.2.1 l hl
  exact vr_k (by omega) w2 w3
theorem Lgi (W : LW h n) (hl : l < n) (hk : k < 17) {f : Int32 → Option α} : zgI h (some (zla h l)) 2 k f = f (zi h (zla h l) k) := by
  obtain ⟨-, w1, w2, w3⟩ := W.2.2.2.2.1 l hl
  exact gI_k (by omega) w2 w3 hk
theorem Lgr (W : LW h n) (hl : l < n) (hk : k < 17) {f : Option Nat → Option α} : zgR h (some (zla h l)) 2 k f = f (zr h (zla h l) k) := by
  obtain ⟨-, w1, w2, w3⟩ := W.2.2.2.2.1 l hl
  exact gR_k (by omega) w2 w3 hk
theorem Lpi (W : LW h n) (hl : l < n) (hk : k < 17) {f : zH → Option α} : zpI h (some (zla h l)) 2 k x f = f (zui h (zla h l) k x) := by
  obtain ⟨-, w1, w2, w3⟩ := W.2.2.2.2.1 l hl
  exact pI_k (by omega) w2 w3 hk
theorem Lpz (W : LW h n) (hl : l < n) (hk : k < 17) (hx : x = 0 ∨ x = 1) {f : zH → Option α} : zpZ h (some (zla h l)) 2 k x f = f (zui h (zla h l) k x) := by
  obtain ⟨-, w1, w2, w3⟩ := W.2.2.2.2.1 l hl
  exact pZ_k (by omega) w2 w3 hk hx
/-- the lot of a number, or none -/
theorem q50y (W : LW h n) (hl : l < n) : zcall 50 [vR (some 13), vI (nI l)] h = some (some (vR (some (zla h l))), h) := by
  have hn := W.2.1
  rw [e50, if_neg (nI_nn (by omega)), Cr13_2 W.1, Lv16 W, Lsz W, if_pos (nI_lt hl (by omega)), Cr13_2 W.1, Lv16 W, Lget W hl, Lca W hl]
theorem q50n (W : LW h n) (hx : ¬ (0 ≤ x.toInt ∧ x.toInt < n)) : zcall 50 [vR (some 13), vI x] h = some (some (vR none), h) := by
  have hn := W.2.1
  rw [e50, Cr13_2 W.1, Lv16 W, Lsz W]
  by_cases h1 : x < 0
  · rw [if_pos h1]
  · rw [if_neg h1, if_neg]
    intro q
    rw [Int32.lt_iff_toInt_lt, nI_toInt (by omega)] at q
    rw [Int32.lt_iff_toInt_lt, Int32.toInt_zero] at h1
    omega
/-- its area -/
def cArea (h : zH) (l : Nat) : Int32 := 2 * zi h (zla h l) 2 * zi h (zla h l) 3 + zi h (zla h l) 5
theorem q53 (W : LW h n) (hl : l < n) : zcall 53 [vR (some (zla h l))] h = some (some (vI (cArea h l)), h) := by
  rw [e53, Lgi W hl (by decide), Lgi W hl (by decide), Lgi W hl (by decide)]
  rfl
def cLiv (h : zH) (l : Nat) : Bool := decide (¬ zi h (zla h l) 10 = 0)
theorem w107 (W : LW h n) : ∀ (k i c : Nat), i + k = n → zev 107 4 [some (vR (some 13)), some (vI (nI c)), some (vI (nI i))] [] h = some (some (vI (nI (c + (List.range' i k).countP (cLiv h)))), h) := by
  have hn := W.2.1
  intro k
  induction k with
  | zero =>
    intro i c hi
    rw [b107_4, Cr13_2 W.1, Lv16 W, Lsz W, if_neg (nI_nlt (by omega) (by omega))]
    rfl
  | succ k ih =>
    intro i c hi
    rw [b107_4, Cr13_2 W.1, Lv16 W, Lsz W, if_pos (nI_lt (by omega) (by omega)), Cr13_2 W.1, Lv16 W, Lget W (by omega), Lca W (by omega), Lgi W (by omega) (by decide), nI_1, nI_1, Int32.add_zero, List.range'_succ, List.countP_cons]
    split
    · rename_i hx
      rw [ih (i + 1) _ (by omega)]
      simp [cLiv, hx]
    · rename_i hx
      rw [ih (i + 1) _ (by omega)]
      simp only [cLiv, hx, not_false_eq_true, decide_true, if_true]
      rw [show c + 1 + List.countP (cLiv h) (List.range' (i + 1) k) = c + (List.countP (cLiv h) (List.range' (i + 1) k) + 1) by omega]
theorem q107 (W : LW h n) : zcall 107 [vR (some 13)] h = some (some (vI (nI ((List.range' 0 n).countP (cLiv h)))), h) := by
  rw [e107, z00, w107 W n 0 0 (by omega), Nat.zero_add]
def cOwn (h : zH) (x : Int32) (l : Nat) : Bool := decide (zi h (zla h l) 7 = x)
theorem w104 (W : LW h n) : ∀ (k i c : Nat), i + k = n → zev 104 4 [some (vR (some 13)), some (vI x), some (vI (nI c)), some (vI (nI i))] [] h = some (some (vI (nI (c + (List.range' i k).countP (cOwn h x)))), h) := by
  have hn := W.2.1
  intro k
  induction k with
  | zero =>
    intro i c hi
    rw [b104_4, Cr13_2 W.1, Lv16 W, Lsz W, if_neg (nI_nlt (by omega) (by omega))]
    rfl
  | succ k ih =>
    intro i c hi
    rw [b104_4, Cr13_2 W.1, Lv16 W, Lsz W, if_pos (nI_lt (by omega) (by omega)), Cr13_2 W.1, Lv16 W, Lget W (by omega), Lca W (by omega), Lgi W (by omega) (by decide), nI_1, nI_1, Int32.add_zero, List.range'_succ, List.countP_cons]
    split
    · rename_i hx
      rw [ih (i + 1) _ (by omega)]
      simp only [cOwn, hx, decide_true, if_true]
      rw [show c + 1 + List.countP (cOwn h x) (List.range' (i + 1) k) = c + (List.countP (cOwn h x) (List.range' (i + 1) k) + 1) by omega]
    · rename_i hx
      rw [ih (i + 1) _ (by omega)]
      simp [cOwn, hx]
theorem q104 (W : LW h n) : zcall 104 [vR (some 13), vI x] h = some (some (vI (nI ((List.range' 0 n).countP (cOwn h x)))), h) := by
  rw [e104, z00, w104 W n 0 0 (by omega), Nat.zero_add]
def cDebt (h : zH) (x : Int32) (s : Int32) (l : Nat) : Int32 := if zi h (zla h l) 7 = x then s + zi h (zla h l) 11 else s + 0
theorem w105 (W : LW h n) : ∀ (k i : Nat) (s : Int32) (u : Option zV), i + k = n → zev 105 4 [some (vR (some 13)), some (vI x), some (vI s), some (vI (nI i)), u] [] h = some (some (vI ((List.range' i k).foldl (cDebt h x) s)), h) := by
  have hn := W.2.1
  intro k
  induction k with
  | zero =>
    intro i s u hi
    rw [b105_4, Cr13_2 W.1, Lv16 W, Lsz W, if_neg (nI_nlt (by omega) (by omega))]
    rfl
  | succ k ih =>
    intro i s u hi
    rw [b105_4, Cr13_2 W.1, Lv16 W, Lsz W, if_pos (nI_lt (by omega) (by omega)), Cr13_2 W.1, Lv16 W, Lget W (by omega), Lca W (by omega), Lgi W (by omega) (by decide), Lgi W (by omega) (by decide), nI_1, List.range'_succ, List.foldl_cons]
    split
    · rename_i hx
      rw [ih (i + 1) _ _ (by omega)]
      simp only [cDebt, hx, if_true]
    · rename_i hx
      rw [ih (i + 1) _ _ (by omega)]
      simp only [cDebt, hx, if_false]
theorem q105 (W : LW h n) : zcall 105 [vR (some 13), vI x] h = some (some (vI ((List.range' 0 n).foldl (cDebt h x) 0)), h) := by
  rw [e105]
  have := w105 (x := x) W n 0 0 none (by omega)
  rw [nI_0] at this
  exact this
theorem w108 (W : LW h n) : ∀ (k i : Nat) (s : Int32), i + k = n → zev 108 4 [some (vR (some 13)), some (vI s), some (vI (nI i))] [] h = some (some (vI ((List.range' i k).foldl (fun s l => s + cArea h l) s)), h) := by
  have hn := W.2.1
  intro k
  induction k with
  | zero =>
    intro i s hi
    rw [b108_4, Cr13_2 W.1, Lv16 W, Lsz W, if_neg (nI_nlt (by omega) (by omega))]
    rfl
  | succ k ih =>
    intro i s hi
    rw [b108_4, Cr13_2 W.1, Lv16 W, Lsz W, if_pos (nI_lt (by omega) (by omega)), Cr13_2 W.1, Lv16 W, Lget W (by omega), Lca W (by omega), Lv W (by omega), cI_k (q53 W (by omega)), nI_1, List.range'_succ, List.foldl_cons]
    exact ih (i + 1) _ (by omega)
theorem q108 (W : LW h n) : zcall 108 [vR (some 13)] h = some (some (vI ((List.range' 0 n).foldl (fun s l => s + cArea h l) 0)), h) := by
  rw [e108]
  have := w108 W n 0 0 (by omega)
  rw [nI_0] at this
  exact this
/-- where x lives: the first lot that he owns and lives on -/
def cHome (h : zH) (x : Int32) (l : Nat) : Bool := decide (¬ zi h (zla h l) 10 = 0 ∧ zi h (zla h l) 7 = x)
theorem w98 (W : LW h n) : ∀ (k i : Nat) (u : Option zV), i + k = n → zev 98 2 [some (vR (some 13)), some (vI x), some (vI (nI i)), u] [] h = some (some (vI (match (List.range' i k).find? (cHome h x) with | some l => nI l | none => -1)), h) := by
  have hn := W.2.1
  intro k
  induction k with
  | zero =>
    intro i u hi
    rw [b98_2, Cr13_2 W.1, Lv16 W, Lsz W, if_neg (nI_nlt (by omega) (by omega))]
    rfl
  | succ k ih =>
    intro i u hi
    rw [b98_2, Cr13_2 W.1, Lv16 W, Lsz W, if_pos (nI_lt (by omega) (by omega)), Cr13_2 W.1, Lv16 W, Lget W (by omega), Lca W (by omega), Lgi W (by omega) (by decide), Lgi W (by omega) (by decide), nI_1, List.range'_succ, List.find?_cons]
    split
    · rename_i hx
      rw [ih (i + 1) _ (by omega)]
      simp [cHome, hx]
    · rename_i hx
      split
      · rename_i hy
        simp [cHome, hx, hy]
      · rename_i hy
        rw [ih (i + 1) _ (by omega)]
        simp [cHome, hy]
end ZLW
