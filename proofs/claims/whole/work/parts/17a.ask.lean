-- deps: 15a.lots 16a.rel 16b.step 16c.title 16d.cong 16e.title 16f.pass
section ZAK
variable {h h' hc hm hb m m' : zH} {n p s c c' t t' l j k a q : Nat} {x y z v : Int32}
theorem J_place : JG 47 125 [] := by
  intro hc hm n p s c t r ht
  obtain ⟨w, rm, rk, -⟩ := id r
  refine J_no r ht (q47 w.1) ?_
  rw [q125 rm, ← rk.2.2.2.2.2.2.2.2.2.2.2.2.2.2.2.2]
theorem RG_hc {g v : Nat → Int32} (G : RG hc g v n s) (hs : s ≤ 12) (hn : n ≤ 40) : ∀ c, c < 320 → g c < 100 ∨ ∃ t, t < 12 ∧ g c = nI (100 + t) := by
  intro c h
  rcases G.2.1 c h with ⟨e, -⟩ | ⟨l, hl, e, -⟩ | ⟨u, hu, e, -⟩
  · rw [e]; exact Or.inl (by decide)
  · rw [e]; exact Or.inl (nI_lt (a := l) (b := 100) (by omega) (by decide))
  · exact Or.inr ⟨u, by omega, e⟩
theorem J_cell : JG 48 126 [vI x, vI y] := by
  intro hc hm n p s c t r ht
  obtain ⟨w, rm, rk, rx, rmo, rl, rd, rh, rg, rb, bs, rt, ro⟩ := id r
  obtain ⟨k1, k2, k3, k4, k5, k6, k7, -⟩ := id rk
  have hn := w.2.1
  by_cases hg : zgr x y
  · have h1 := q48y w.1 hg
    have h2 := q126y rm hg (RG_hc rg k7 hn)
    obtain ⟨d, e1, e2, e3⟩ := zgr_of2 hg
    rw [e3, nI_clamp (by omega)] at h1 h2
    refine J_no r ht h1 ?_
    rw [h2]
    congr 3
    unfold mCell
    rcases rg.2.1 d e2 with ⟨e, e'⟩ | ⟨l, hl, e, e'⟩ | ⟨u, hu, e, e'⟩
    · rw [e, e', if_pos (by decide)]
    · rw [e, e', if_pos (show nI l < (100 : Int32) from nI_lt (a := l) (b := 100) (by omega) (by decide))]
    · rw [e, e', if_neg (show ¬ nI (100 + u) < (100 : Int32) from nI_nlt (a := 100 + u) (b := 100) (by omega) (by omega)), z100, nI_clamp (by omega)]
      split
      · rfl
      · rw [show (100 : Int32) = nI 100 from rfl, nI_add]
        congr 2
        omega
  · exact J_no r ht (q48n hg) (q126n hg)
theorem cP_cg {f g : Nat → Bool} : ∀ n, (∀ j, j < n → f j = g j) → (List.range' 0 n).countP f = (List.range' 0 n).countP g := by
  intro n
  induction n with
  | zero => intro _; rfl
  | succ n ih =>
    intro hf
    rw [List.range'_1_concat, List.countP_append, List.countP_append, ih (fun j hj => hf j (by omega))]
    simp [hf n (by omega)]
theorem fo_cg {f g : Int32 → Nat → Int32} (s : Int32) : ∀ n, (∀ j, j < n → ∀ s, f s j = g s j) → (List.range' 0 n).foldl f s = (List.range' 0 n).foldl g s := by
  intro n
  induction n with
  | zero => intro _; rfl
  | succ n ih =>
    intro hf
    rw [List.range'_1_concat, List.foldl_append, List.foldl_append, ih (fun j hj => hf j (by omega))]
    simp [hf n (by omega)]
theorem own_cP (rl : RL hc hm n p) : (List.range' 0 n).countP (cOwn hc x) = (List.range' 0 n).countP (mOwn hm x) := cP_cg n (fun j hj => by
  unfold cOwn mOwn
  rw [show zi hc (zla hc j) 7 = zi hm 24 j from (rl j hj).1])
theorem owed_eq (rd : RD hc hm n) (hl : l < n) : cf hc l 11 = mOwed hm l := by
  obtain ⟨d, d1, d2, d3, d4, d5⟩ := rd l hl
  unfold mOwed
  by_cases e : d = 0
  · rw [d4 e, d3, e, nI_0, if_pos rfl]
  · obtain ⟨e1, e2, e3⟩ := d5 (by omega)
    rw [e3, d3, if_neg (nI_ne0 (by omega) (by omega))]
    have : nI (d - 1) = nI d - 1 := by rw [show (1 : Int32) = nI 1 from rfl, pk_sub (by omega)]
    rw [this]
theorem debt_fo (rl : RL hc hm n p) (rd : RD hc hm n) : (List.range' 0 n).foldl (cDebt hc x) 0 = (List.range' 0 n).foldl (mDebt hm x) 0 := fo_cg 0 n (fun j hj s => by
  unfold cDebt mDebt
  rw [show zi hc (zla hc j) 7 = zi hm 24 j from (rl j hj).1, show zi hc (zla hc j) 11 = mOwed hm j from owed_eq rd hj])
theorem home_eq (w : LW hc n) (rl : RL hc hm n p) (rh : RH hc hm n p) (hp : p ≤ 20) (hq : q < p) : (match (List.range' 0 n).find? (cHome hc (nI q)) with | some l => nI l | none => -1) = zi hm 35 q := by
  have hn := w.2.1
  have key : ∀ j, j < n → cHome hc (nI q) j = true → zi hm 35 q = nI j := by
    intro j hj e
    unfold cHome at e
    simp only [decide_eq_true_eq] at e
    rcases rh.2 j hj with g | ⟨g, i, hi, g1, g2⟩
    · exact absurd g e.1
    · have : i = q := (nI_eq (by omega) (by omega)).mp (g1.symm.trans ((rl j hj).1.symm.trans e.2))
      rw [← this]; exact g2
  cases hf : (List.range' 0 n).find? (cHome hc (nI q)) with
  | some j =>
    have h1 := List.find?_some hf
    have h2 := List.mem_of_find?_eq_some hf
    rw [List.mem_range'_1] at h2
    simp only
    exact (key j (by omega) h1).symm
  | none =>
    simp only
    rw [List.find?_eq_none] at hf
    rcases rh.1 q hq with g | ⟨l, hl, g1, g2, g3⟩
    · exact g.symm
    · exfalso
      refine hf l (by rw [List.mem_range'_1]; omega) ?_
      unfold cHome
      simp only [decide_eq_true_eq]
      have e1 : zi hc (zla hc l) 10 = 1 := g2
      have e2 : zi hc (zla hc l) 7 = nI q := ((rl l hl).1).trans g3
      exact ⟨by rw [e1]; decide, e2⟩
theorem q98 (W : LW h n) : zcall 98 [vR (some 13), vI x] h = some (some (vI (match (List.range' 0 n).find? (cHome h x) with | some l => nI l | none => -1)), h) := by
  rw [e98, z00]
  exact w98 W n 0 none (by omega)
theorem J_told : JG 103 154 [vI x, vI y] := by
  intro hc hm n p s c t r ht
  obtain ⟨w, rm, rk, rx, rmo, rl, rd, rh, rg, rb, bs, rt, ro⟩ := id r
  obtain ⟨k1, k2, k3, k4, -⟩ := id rk
  have hn := w.2.1
  refine J_no r ht ?_ (q154 rm k1 hn k3 k4)
  rw [e103, Cr8_1 w.1, Cr12_1 w.1, Cv17 w.1, cI_k (q68 w.1 k2 k4)]
  by_cases hx : 0 ≤ x.toInt ∧ x.toInt < p
  · obtain ⟨q, hq, rfl, eq2⟩ := zof (x := x) (n := p) (by omega) hx
    rw [if_pos hx, if_neg (by decide), if_pos hx, Cr8_1 w.1, Cr12_1 w.1, Cv17 w.1, cI_k (q69 w.1 k2 k4), if_pos hx, Cr8_1 w.1, Cr12_0 w.1, Cv13 w.1, cI_k (q104 w), Cr8_1 w.1, Cr12_0 w.1, Cv13 w.1, cI_k (q98 w), Cr8_1 w.1, Cr12_0 w.1, Cv13 w.1, cI_k (q105 w), home_eq w rl rh k4 hq, own_cP rl, debt_fo rl rd, eq2, Int.toNat_natCast, rmo q hq]
    unfold mTold
    repeat' split
    all_goals rfl
  · rw [if_neg hx, if_pos rfl, if_neg hx]
/-- the first title of day y or before -/
def pick (y : Int32) : List (Int32 × Int32) → Int32
  | [] => -1
  | e :: t => if y < e.2 then pick y t else e.1
theorem pick_c (y : Int32) (e : Int32 × Int32) (t : List (Int32 × Int32)) : pick y (e :: t) = if y < e.2 then pick y t else e.1 := rfl
theorem tit_pick (h : zH) (l : Nat) (y : Int32) : ∀ c, (List.range' 0 c).foldl (mTit h (nI l) y) (-1) = pick y (mT h l c)
  | 0 => by
    show (-1 : Int32) = if y < -1 then -1 else -1
    split <;> rfl
  | c + 1 => by
    rw [List.range'_1_concat, List.foldl_append, tit_pick h l y c]
    simp only [List.foldl_cons, List.foldl_nil, Nat.zero_add]
    unfold mTit
    conv => rhs; unfold mT
    by_cases e : zi h 39 c = nI l
    · rw [if_pos e, pick_c]
      by_cases g : y < zi h 40 c
      · rw [if_neg (fun q => q.2 g), if_pos g]
      · rw [if_pos ⟨e, g⟩, if_neg g]
    · rw [if_neg e, if_neg (fun q => e q.1)]
theorem w102 {u : Option Nat} : ∀ (T : List (Int32 × Int32)) (q : Option Nat), zch h T q → zev 102 18 [some (vR u), some (vI y), some (vR q)] [] h = some (some (vI (pick y T)), h)
  | [], q, e => by
    have e' : q = none := e
    rw [e', b102_18, ul_n]
    rfl
  | e :: T, q, ⟨a, a1, a2, a3, a4, a5, a6, a7⟩ => by
    rw [a1, b102_18, ul_s, gI_k (by omega) a3 a4 (by decide), a6, gR_k (by omega) a3 a4 (by decide), gI_k (by omega) a3 a4 (by decide), a5, w102 T _ a7, pick_c]
    split <;> rfl
theorem J_title : JG 101 153 [vI x, vI y] := by
  intro hc hm n p s c t r ht
  obtain ⟨w, rm, rk, rx, rmo, rl, rd, rh, rg, rb, bs, rt, ro⟩ := id r
  obtain ⟨k1, k2, k3, k4, k5, k6, k7, k8, k9, ⟨d, k10, k10a, k10b⟩, -⟩ := id rk
  have hn := w.2.1
  have hc1 := R_c r
  refine J_no r ht ?_ (q153 rm k1 hn k9 (by omega))
  by_cases hx : 0 ≤ x.toInt ∧ x.toInt < n
  · obtain ⟨l, hl, rfl, -⟩ := zof (x := x) (n := n) (by omega) hx
    obtain ⟨T, t1, t2⟩ := rt.1 l hl
    have h102 : zcall 102 [vR (some (zla hc l)), vI y] hc = some (some (vI (pick y (mT hm l c))), hc) := by
      rw [e102, Lgi w hl (by decide), Lgr w hl (by decide), Lgi w hl (by decide), w102 T _ t2, t1, pick_c]
      show (if y < cf hc l 8 then _ else _) = _
      split <;> rfl
    rw [if_pos hx, tit_pick, e101, Cr8_1 w.1, Cr12_0 w.1, Cv13 w.1, cR_k (q50y w hl), ul_s, Cr8_1 w.1, Ci12_2 w.1, Lv w hl, cI_k h102, k10a, k10b, nI_toInt (by omega)]
    simp only [Int32.lt_iff_toInt_lt, Int32.toInt_zero, nI_toInt (show d < 2 ^ 31 by omega)]
    by_cases g1 : y.toInt < 0
    · rw [if_pos g1, if_neg (by omega)]
    · rw [if_neg g1]
      by_cases g2 : (d : Int) < y.toInt
      · rw [if_pos g2, if_neg (by omega)]
      · rw [if_neg g2, if_pos (by omega)]
  · rw [if_neg hx, e101, Cr8_1 w.1, Cr12_0 w.1, Cv13 w.1, cR_k (q50n w hx), ul_n]
/-- as many here as there -/
theorem inj_le {A : Nat → Bool} {f : Nat → Nat} {p : Nat} : ∀ (n : Nat) (B : Nat → Bool), (∀ l, l < n → A l = true → f l < p ∧ B (f l) = true) → (∀ l j, l < n → j < n → A l = true → A j = true → f l = f j → l = j) → (List.range' 0 n).countP A ≤ (List.range' 0 p).countP B := by
  intro n
  induction n with
  | zero => intro B _ _; exact Nat.zero_le _
  | succ n ih =>
    intro B h1 h2
    rw [List.range'_1_concat, List.countP_append]
    by_cases e : A n = true
    · obtain ⟨g1, g2⟩ := h1 n (by omega) e
      have g3 := cP_up B (fun i => B i && decide (i ≠ f n)) (f n) p g1 (fun i _ hi => by simp [hi])
      have g4 := ih (fun i => B i && decide (i ≠ f n)) (fun l hl ha => by
        obtain ⟨u1, u2⟩ := h1 l (by omega) ha
        refine ⟨u1, ?_⟩
        have : f l ≠ f n := fun q => absurd (h2 l n (by omega) (by omega) ha e q) (by omega)
        simp [u2, this]) (fun l j hl hj => h2 l j (by omega) (by omega))
      simp [g2] at g3
      simp [e]
      simp at g4
      omega
    · have := ih B (fun l hl => h1 l (by omega)) (fun l j hl hj => h2 l j (by omega) (by omega))
      simp [e]
      exact this
theorem bij_eq {A B : Nat → Bool} {f g : Nat → Nat} (h1 : ∀ l, l < n → A l = true → f l < p ∧ B (f l) = true ∧ g (f l) = l) (h2 : ∀ q, q < p → B q = true → g q < n ∧ A (g q) = true ∧ f (g q) = q) : (List.range' 0 n).countP A = (List.range' 0 p).countP B := by
  apply Nat.le_antisymm
  · exact inj_le n B (fun l hl ha => ⟨(h1 l hl ha).1, (h1 l hl ha).2.1⟩) (fun l j hl hj a1 a2 e => by rw [← (h1 l hl a1).2.2, ← (h1 j hj a2).2.2, e])
  · exact inj_le p A (fun l hl ha => ⟨(h2 l hl ha).1, (h2 l hl ha).2.1⟩) (fun l j hl hj a1 a2 e => by rw [← (h2 l hl a1).2.2, ← (h2 j hj a2).2.2, e])
/-- who lives where -/
theorem live_cP (w : LW hc n) (rl : RL hc hm n p) (rh : RH hc hm n p) (hp : p ≤ 20) (P : Int32 → Bool) : (List.range' 0 n).countP (fun l => cLiv hc l && P (cf hc l 7)) = (List.range' 0 p).countP (fun q => mHas hm q && P (nI q)) := by
  have hn := w.2.1
  refine bij_eq (f := fun l => (cf hc l 7).toNatClampNeg) (g := fun q => (zi hm 35 q).toNatClampNeg) (fun l hl ha => ?_) (fun q hq hb => ?_)
  · simp only [Bool.and_eq_true] at ha
    rcases rh.2 l hl with g | ⟨g, i, hi, g1, g2⟩
    · exfalso
      have h1 := ha.1
      unfold cLiv at h1
      simp only [decide_eq_true_eq] at h1
      exact h1 g
    · have e : cf hc l 7 = nI i := (rl l hl).1.trans g1
      have ei : (cf hc l 7).toNatClampNeg = i := by rw [e]; exact nI_clamp (by omega)
      refine ⟨by rw [ei]; exact hi, ?_, ?_⟩
      · show (mHas hm _ && P _) = true
        rw [ei, ← e, ha.2, Bool.and_true]
        unfold mHas
        rw [g2]
        simp [nI_nn (show l < 2 ^ 31 by omega)]
      · show (zi hm 35 (cf hc l 7).toNatClampNeg).toNatClampNeg = l
        rw [ei, g2, nI_clamp (by omega)]
  · simp only [Bool.and_eq_true] at hb
    rcases rh.1 q hq with g | ⟨l, hl, g1, g2, g3⟩
    · exfalso
      have h1 := hb.1
      unfold mHas at h1
      rw [g] at h1
      exact absurd h1 (by decide)
    · have e : cf hc l 7 = nI q := (rl l hl).1.trans g3
      have el : (zi hm 35 q).toNatClampNeg = l := by rw [g1]; exact nI_clamp (by omega)
      refine ⟨by rw [el]; exact hl, ?_, ?_⟩
      · show (cLiv hc _ && P _) = true
        rw [el, e, hb.2, Bool.and_true]
        unfold cLiv
        rw [show zi hc (zla hc l) 10 = 1 from g2]
        decide
      · show (cf hc (zi hm 35 q).toNatClampNeg 7).toNatClampNeg = q
        rw [el, e, nI_clamp (by omega)]
theorem live_eq (w : LW hc n) (rl : RL hc hm n p) (rh : RH hc hm n p) (hp : p ≤ 20) : (List.range' 0 n).countP (cLiv hc) = (List.range' 0 p).countP (mHas hm) := by
  have := live_cP w rl rh hp (fun _ => true)
  simpa using this
theorem J_count : JG 106 156 [vI x] := by
  intro hc hm n p s c t r ht
  obtain ⟨w, rm, rk, rx, rmo, rl, rd, rh, rg, rb, bs, rt, ro⟩ := id r
  obtain ⟨k1, k2, k3, k4, k5, k6, k7, k8, k9, ⟨d, k10, k10a, k10b⟩, k11, k12, k13, k14, k15, ⟨e, k16, k17, k18⟩, k19⟩ := id rk
  obtain ⟨u, u1, u2, u3, -⟩ := id rx
  have hn := w.2.1
  refine J_no r ht ?_ (q156 rm k1 hn k3 k4)
  rw [e106]
  simp only [Cr8_1 w.1, Cr8_0 w.1, Cr12_0 w.1, Cr12_1 w.1, Cr13_2 w.1, Lv16 w, Lsz w, Ci13_3 w.1, Ci17_1 w.1, Ci12_2 w.1, Cv13 w.1, cI_k (q107 w), cI_k (q104 w), Ci12_4 w.1, Ci12_5 w.1, Ci12_6 w.1, Ci12_7 w.1, Ci9_2 w.1, Ci12_8 w.1, cI_k (q108 w), Ci13_4 w.1]
  have ea : (List.range' 0 n).foldl (fun s l => s + cArea hc l) 0 = (List.range' 0 n).foldl (mArea hm) 0 := fo_cg 0 n (fun j hj s => by
    unfold mArea
    rw [(rl j hj).2.2.2.2.2.2.2.1])
  rw [ea, live_eq w rl rh k4, own_cP rl, k2, k5, k8, k10a, k12, k13, k14, k15, k17, u2]
  unfold mCnt
  rw [k1, k3, k6, k9, k10b, k18, u3]
  repeat refine zfi ?_
  rfl
end ZAK
