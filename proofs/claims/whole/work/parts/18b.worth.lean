/-- a lot's rectangle, in the class and on the grass -/
def rct (hc : zH) (g : Nat → Int32) (l X Y W H : Nat) : Prop := cf hc l 0 = nI X ∧ cf hc l 1 = nI Y ∧ cf hc l 2 = nI W ∧ cf hc l 3 = nI H ∧ 1 ≤ W ∧ 1 ≤ H ∧ X + W ≤ 20 ∧ Y + H ≤ 16 ∧ ∀ x y, x < 20 → y < 16 → (g (20 * y + x) = nI l ↔ X ≤ x ∧ x < X + W ∧ Y ≤ y ∧ y < Y + H)
section ZWQ
variable {hc hm h : zH} {g v : Nat → Int32} {n p s c t l k X Y W H X2 Y2 W2 H2 : Nat} {x y : Int32}
theorem rects (G : RG hc g v n s) : ∃ f : Nat → Nat × Nat × Nat × Nat, ∀ l, l < n → rct hc g l (f l).1 (f l).2.1 (f l).2.2.1 (f l).2.2.2 := by
  have key : ∀ l, ∃ q : Nat × Nat × Nat × Nat, l < n → rct hc g l q.1 q.2.1 q.2.2.1 q.2.2.2 := fun l => by
    by_cases hl : l < n
    · obtain ⟨X, Y, W, H, q⟩ := G.1 l hl
      exact ⟨(X, Y, W, H), fun _ => q⟩
    · exact ⟨(0, 0, 0, 0), fun q => absurd q hl⟩
  exact Classical.skolem.mp key
theorem rct_rec (r : rct hc g l X Y W H) : rec hc l X Y W H := by
  obtain ⟨r1, r2, r3, r4, r5, r6, r7, r8, -⟩ := r
  exact ⟨r1, r2, r3, r4, by omega, by omega, by omega, by omega⟩
theorem near_iff (r : rct hc g l X Y W H) (r2 : rct hc g k X2 Y2 W2 H2) (hl : l < 40) (hk : k < 40) (hne : k ≠ l) : (∃ c, c < 320 ∧ g c = nI l ∧ ∃ sd, sd < 4 ∧ bsd g c sd = nI k) ↔ bes X Y W H X2 Y2 W2 H2 := by
  obtain ⟨-, -, -, -, a5, a6, a7, a8, A⟩ := r
  obtain ⟨-, -, -, -, b5, b6, b7, b8, B⟩ := r2
  have D : ∀ x y, x < 20 → y < 16 → ¬ ((X ≤ x ∧ x < X + W ∧ Y ≤ y ∧ y < Y + H) ∧ (X2 ≤ x ∧ x < X2 + W2 ∧ Y2 ≤ y ∧ y < Y2 + H2)) := fun x y hx hy q => by
    have e1 := (A x y hx hy).mpr q.1
    have e2 := (B x y hx hy).mpr q.2
    exact hne ((nI_eq (by omega) (by omega)).mp (e2.symm.trans e1))
  constructor
  · rintro ⟨c, hc, e, sd, hs, e2⟩
    have ec : c = 20 * (c / 20) + c % 20 := by omega
    generalize hy : c / 20 = y at ec
    generalize hx : c % 20 = x at ec
    have hx2 : x < 20 := by omega
    have hy2 : y < 16 := by omega
    rw [ec] at e e2
    have q1 := (A x y hx2 hy2).mp e
    have d1 := D x y hx2 hy2
    have hcase : sd = 0 ∨ sd = 1 ∨ sd = 2 ∨ sd = 3 := by omega
    rcases hcase with rfl | rfl | rfl | rfl
    · rw [bsd_0 hx2] at e2
      split at e2
      · exact absurd e2.symm (nI_m1 (by omega))
      · have q2 := (B (x - 1) y (by omega) hy2).mp e2
        have d2 := D (x - 1) y (by omega) hy2
        unfold bes
        omega
    · rw [bsd_1 hx2] at e2
      split at e2
      · exact absurd e2.symm (nI_m1 (by omega))
      · have q2 := (B (x + 1) y (by omega) hy2).mp e2
        have d2 := D (x + 1) y (by omega) hy2
        unfold bes
        omega
    · rw [bsd_2 hx2] at e2
      split at e2
      · exact absurd e2.symm (nI_m1 (by omega))
      · have q2 := (B x (y - 1) hx2 (by omega)).mp e2
        have d2 := D x (y - 1) hx2 (by omega)
        unfold bes
        omega
    · rw [bsd_3 hx2 hy2] at e2
      split at e2
      · exact absurd e2.symm (nI_m1 (by omega))
      · have q2 := (B x (y + 1) hx2 (by omega)).mp e2
        have d2 := D x (y + 1) hx2 (by omega)
        unfold bes
        omega
  · rintro (⟨⟨u1, u2⟩, u3 | u3⟩ | ⟨⟨u1, u2⟩, u3 | u3⟩)
    · refine ⟨20 * (Y + H - 1) + max X X2, by omega, (A _ _ (by omega) (by omega)).mpr (by omega), 3, by decide, ?_⟩
      rw [bsd_3 (by omega) (by omega), if_neg (by omega)]
      exact (B _ _ (by omega) (by omega)).mpr (by omega)
    · refine ⟨20 * Y + max X X2, by omega, (A _ _ (by omega) (by omega)).mpr (by omega), 2, by decide, ?_⟩
      rw [bsd_2 (by omega), if_neg (by omega)]
      exact (B _ _ (by omega) (by omega)).mpr (by omega)
    · refine ⟨20 * max Y Y2 + (X + W - 1), by omega, (A _ _ (by omega) (by omega)).mpr (by omega), 1, by decide, ?_⟩
      rw [bsd_1 (by omega), if_neg (by omega)]
      exact (B _ _ (by omega) (by omega)).mpr (by omega)
    · refine ⟨20 * max Y Y2 + X, by omega, (A _ _ (by omega) (by omega)).mpr (by omega), 0, by decide, ?_⟩
      rw [bsd_0 (by omega), if_neg (by omega)]
      exact (B _ _ (by omega) (by omega)).mpr (by omega)
/-- an open street's cell, here and there -/
theorem cell_open (G : RG hc g v n s) (hn : n ≤ 40) (hs : s ≤ 12) {j : Nat} (hj : j < 320) : (∃ u, u < 12 ∧ g j = nI (100 + u) ∧ v u = 0) ↔ (¬ zi hc 14 j < 100 ∧ zi hc 14 j < 200) := by
  rcases G.2.1 j hj with ⟨e1, e2⟩ | ⟨l, hl, e1, e2⟩ | ⟨u, hu, e1, e2⟩
  · rw [e1, e2]
    constructor
    · rintro ⟨u, hu, e, -⟩
      exact absurd e.symm (nI_m1 (by omega))
    · intro q
      exact absurd (by decide) q.1
  · rw [e1, e2]
    constructor
    · rintro ⟨u, hu, e, -⟩
      have := (nI_eq (by omega) (by omega)).mp e
      omega
    · intro q
      exact absurd (show nI l < (100 : Int32) from nI_lt (a := l) (b := 100) (by omega) (by decide)) q.1
  · rw [e1, e2]
    by_cases ev : v u = 0
    · rw [if_pos ev]
      exact ⟨fun _ => ⟨nI_nlt (a := 100 + u) (b := 100) (by omega) (by omega), nI_lt (a := 100 + u) (b := 200) (by omega) (by decide)⟩, fun _ => ⟨u, by omega, rfl, ev⟩⟩
    · rw [if_neg ev]
      constructor
      · rintro ⟨u', hu', e, e'⟩
        have := (nI_eq (by omega) (by omega)).mp e
        have e3 : u = u' := by omega
        subst e3
        exact absurd e' ev
      · intro q
        exact absurd q.2 (nI_nlt (a := 200 + u) (b := 200) (by omega) (by omega))
theorem street_iff (G : RG hc g v n s) (hn : n ≤ 40) (hs : s ≤ 12) (hl : l < 40) (r : rct hc g l X Y W H) : (∃ c, c < 320 ∧ g c = nI l ∧ ∃ sd, sd < 4 ∧ opS g v c sd) ↔ ∃ y' x', Y ≤ y' ∧ y' < Y + H + 2 ∧ X ≤ x' ∧ x' < X + W + 2 ∧ opn hc X Y W H y' x' := by
  obtain ⟨-, -, -, -, a5, a6, a7, a8, A⟩ := r
  have fin : ∀ x y, x < 20 → y < 16 → (∃ u, u < 12 ∧ g (20 * y + x) = nI (100 + u) ∧ v u = 0) → bes X Y W H x y 1 1 → ∃ y' x', Y ≤ y' ∧ y' < Y + H + 2 ∧ X ≤ x' ∧ x' < X + W + 2 ∧ opn hc X Y W H y' x' := by
    intro x y hx hy ho hb
    have hq := (cell_open G hn hs (j := 20 * y + x) (by omega)).mp ho
    refine ⟨y + 1, x + 1, ?_, ?_, ?_, ?_, by omega, by omega, by omega, by omega, ?_, ?_, ?_⟩
    · unfold bes at hb; omega
    · unfold bes at hb; omega
    · unfold bes at hb; omega
    · unfold bes at hb; omega
    · rw [Nat.add_sub_cancel, Nat.add_sub_cancel]; exact hq.1
    · rw [Nat.add_sub_cancel, Nat.add_sub_cancel]; exact hq.2
    · rw [Nat.add_sub_cancel, Nat.add_sub_cancel]; exact hb
  have no : ∀ x y, x < 20 → y < 16 → (∃ u, u < 12 ∧ g (20 * y + x) = nI (100 + u) ∧ v u = 0) → ¬ (X ≤ x ∧ x < X + W ∧ Y ≤ y ∧ y < Y + H) := by
    rintro x y hx hy ⟨u, hu, e, -⟩ q
    have := (nI_eq (by omega) (by omega)).mp (((A x y hx hy).mpr q).symm.trans e)
    omega
  constructor
  · rintro ⟨c, hc, e, sd, hs, u, hu, e2, e3⟩
    have ec : c = 20 * (c / 20) + c % 20 := by omega
    generalize hy : c / 20 = y at ec
    generalize hx : c % 20 = x at ec
    have hx2 : x < 20 := by omega
    have hy2 : y < 16 := by omega
    rw [ec] at e e2
    have q1 := (A x y hx2 hy2).mp e
    have hcase : sd = 0 ∨ sd = 1 ∨ sd = 2 ∨ sd = 3 := by omega
    rcases hcase with rfl | rfl | rfl | rfl
    · rw [bsd_0 hx2] at e2
      split at e2
      · exact absurd e2.symm (nI_m1 (by omega))
      · have d := no (x - 1) y (by omega) hy2 ⟨u, hu, e2, e3⟩
        exact fin (x - 1) y (by omega) hy2 ⟨u, hu, e2, e3⟩ (by unfold bes; omega)
    · rw [bsd_1 hx2] at e2
      split at e2
      · exact absurd e2.symm (nI_m1 (by omega))
      · have d := no (x + 1) y (by omega) hy2 ⟨u, hu, e2, e3⟩
        exact fin (x + 1) y (by omega) hy2 ⟨u, hu, e2, e3⟩ (by unfold bes; omega)
    · rw [bsd_2 hx2] at e2
      split at e2
      · exact absurd e2.symm (nI_m1 (by omega))
      · have d := no x (y - 1) hx2 (by omega) ⟨u, hu, e2, e3⟩
        exact fin x (y - 1) hx2 (by omega) ⟨u, hu, e2, e3⟩ (by unfold bes; omega)
    · rw [bsd_3 hx2 hy2] at e2
      split at e2
      · exact absurd e2.symm (nI_m1 (by omega))
      · have d := no x (y + 1) hx2 (by omega) ⟨u, hu, e2, e3⟩
        exact fin x (y + 1) hx2 (by omega) ⟨u, hu, e2, e3⟩ (by unfold bes; omega)
  · rintro ⟨y', x', h1, h2, h3, h4, o1, o2, o3, o4, o5, o6, o7⟩
    obtain ⟨u, hu, e2, e3⟩ := (cell_open G hn hs (j := 20 * (y' - 1) + (x' - 1)) (by omega)).mpr ⟨o5, o6⟩
    have d := no (x' - 1) (y' - 1) (by omega) (by omega) ⟨u, hu, e2, e3⟩
    rcases o7 with ⟨⟨u1, u2⟩, u3 | u3⟩ | ⟨⟨u1, u2⟩, u3 | u3⟩
    · refine ⟨20 * (y' - 2) + (x' - 1), by omega, (A _ _ (by omega) (by omega)).mpr (by omega), 3, by decide, u, hu, ?_, e3⟩
      rw [bsd_3 (by omega) (by omega), if_neg (by omega), show y' - 2 + 1 = y' - 1 by omega]
      exact e2
    · refine ⟨20 * y' + (x' - 1), by omega, (A _ _ (by omega) (by omega)).mpr (by omega), 2, by decide, u, hu, ?_, e3⟩
      rw [bsd_2 (by omega), if_neg (by omega)]
      exact e2
    · refine ⟨20 * (y' - 1) + (x' - 2), by omega, (A _ _ (by omega) (by omega)).mpr (by omega), 1, by decide, u, hu, ?_, e3⟩
      rw [bsd_1 (by omega), if_neg (by omega), show x' - 2 + 1 = x' - 1 by omega]
      exact e2
    · refine ⟨20 * (y' - 1) + x', by omega, (A _ _ (by omega) (by omega)).mpr (by omega), 0, by decide, u, hu, ?_, e3⟩
      rw [bsd_0 (by omega), if_neg (by omega)]
      exact e2
theorem dst_i {a b : Nat} (ha : a < 1000) (hb : b < 1000) : (if nI a - nI b < 0 then -(nI a - nI b) else nI a - nI b) = nI (a - b + (b - a)) := by
  by_cases h : a < b
  · rw [if_pos (pk_sneg (by omega) h), Int32.neg_sub, pk_sub (by omega)]
    exact congrArg nI (by omega)
  · have e : nI a - nI b = nI (a - b + (b - a)) := by rw [pk_sub (by omega)]; exact congrArg nI (by omega)
    rw [e, if_neg (nI_nn (by omega))]
theorem q55 : zcall 55 [vI x] h = some (some (vI (if x < 0 then -x else x)), h) := by
  rw [e55]
  split <;> rfl
theorem res_eq (w : LW hc n) (rl : RL hc hm n p) (rh : RH hc hm n p) (hp : p ≤ 20) (hl : l < n) : mRes hm (nI l) p = if cf hc l 10 = 0 then -1 else zi hm 24 l := by
  have hn := w.2.1
  rcases mRes_of hm (nI l) p with ⟨e1, e2⟩ | ⟨q, hq, e1, e2⟩
  · rcases rh.2 l hl with g | ⟨g, i, hi, g1, g2⟩
    · rw [e1, if_pos g]
    · exact absurd g2 (e2 i hi)
  · rcases rh.1 q hq with g | ⟨j, hj, g1, g2, g3⟩
    · exact absurd (e2.symm.trans g) (nI_m1 (by omega))
    · have : l = j := (nI_eq (by omega) (by omega)).mp (e2.symm.trans g1)
      subst this
      rw [e1, g2, if_neg (by decide), g3]
theorem res_liv (w : LW hc n) (rl : RL hc hm n p) (rh : RH hc hm n p) (hp : p ≤ 20) (hl : l < n) : cLiv hc l = decide (¬ mRes hm (nI l) p < 0) := by
  have e0 := res_eq w rl rh hp hl
  unfold cLiv
  rcases rh.2 l hl with g | ⟨g, i, hi, g1, g2⟩
  · rw [e0, if_pos g, show zi hc (zla hc l) 10 = 0 from g]
    decide
  · rw [e0, g, if_neg (by decide), g1, show zi hc (zla hc l) 10 = 1 from g]
    have := nI_nn (i := i) (by omega)
    simp [this]
theorem first_cell (H1 : MS hm) (r : rct hc (zi hm 21) l X Y W H) : zcall 131 [vR (some 19), vI (nI l)] hm = some (some (vI (nI (20 * Y + X))), hm) := by
  obtain ⟨-, -, -, -, a5, a6, a7, a8, A⟩ := r
  rw [e131, z00]
  refine w131 H1 (by omega) ((A X Y (by omega) (by omega)).mpr (by omega)) (fun j hj q => ?_) (20 * Y + X) 0 (by omega)
  have ej : j = 20 * (j / 20) + j % 20 := by omega
  rw [ej] at q
  have := (A (j % 20) (j / 20) (by omega) (by omega)).mp q
  omega
/-- what a lot is worth, here and there -/
theorem worth_eq (r : R hc hm n p s c t) (hl : l < n) : ∃ v, zcall 54 [vR (some 13), vR (some (zla hc l))] hc = some (some (vI v), hc) ∧ zcall 130 [vR (some 19), vI (nI l)] hm = some (some (vI v), hm) := by
  obtain ⟨w, rm, rk, rx, rmo, rl, rd, rh, rg, rb, bs, rt, ro⟩ := id r
  obtain ⟨k1, k2, k3, k4, k5, k6, k7, k8, k9, k10, k11, k12, k13, k14, k15, ⟨e, k16, k17, k18⟩, k19⟩ := id rk
  have hn := w.2.1
  obtain ⟨f, hf⟩ := rects rg
  obtain ⟨r1, r2, r3, r4, r5, r6, r7, r8, r9⟩ := id (hf l hl)
  have hrecs : recs hc n f := fun k hk => rct_rec (hf k hk)
  have V := gval_of rg
  generalize hX : (f l).1 = X at *
  generalize hY : (f l).2.1 = Y at *
  have e1 : nI e - nI e / 20 * 20 = nI (e % 20) := pk_rem (a := e) (d := 20) (by omega) (by decide) (by decide)
  have e2 : nI e / 20 = nI (e / 20) := pk_div (a := e) (d := 20) (by omega) (by decide) (by decide)
  generalize hD : (X - e % 20 + (e % 20 - X)) + (Y - e / 20 + (e / 20 - Y)) = D
  have hD2 : D < 100 := by omega
  -- the reference
  obtain ⟨st, nw, u9, u10, f1, f2, f3, f4⟩ := w130o (a2 := nI (20 * Y + X)) (a3 := nI D) (a4 := 10 * zi hm 23 l + 200 / nI (1 + D)) rm V hn k7 (show l < 40 by omega) 320 0 0 0 none none (by omega) (Or.inl rfl)
  have hb : ∀ k, k < n → (nw.toBitVec.getLsbD k && decide (¬ mRes hm (nI k) p < 0)) = lb hc f l k := by
    intro k hk
    unfold lb
    rw [res_liv w rl rh k4 hk, Bool.and_comm]
    congr 1
    have h4 := f4 k (by omega)
    by_cases ek : k = l
    · subst ek
      have h5 : nw.toBitVec.getLsbD k = false := by
        rw [Bool.eq_false_iff]
        intro q
        rcases h4.mp q with q | ⟨c', -, -, -, sd, -, -, q⟩
        · simp at q
        · exact q rfl
      rw [h5]
      symm
      rw [decide_eq_false_iff_not, hX, hY]
      unfold bes
      omega
    · have h5 := near_iff (hf l hl) (hf k hk) (by omega) (by omega) ek
      rw [Bool.eq_iff_iff, h4, decide_eq_true_eq, ← h5]
      constructor
      · rintro (q | ⟨c', -, q1, q2, sd, q3, q4, -⟩)
        · simp at q
        · exact ⟨c', q1, q2, sd, q3, q4⟩
      · rintro ⟨c', q1, q2, sd, q3, q4⟩
        exact Or.inr ⟨c', by omega, q1, q2, sd, q3, q4, ek⟩
  have hm130 : zcall 130 [vR (some 19), vI (nI l)] hm = some (some (vI (10 * zi hm 23 l + 200 / nI (1 + D) + nI (15 * (List.range' 0 n).countP (lb hc f l)) + (if st = 0 then 0 else 30))), hm) := by
    have e3 : nI (20 * Y + X) - nI (20 * Y + X) / 20 * 20 = nI X := (pk_rem (a := 20 * Y + X) (d := 20) (by omega) (by decide) (by decide)).trans (by rw [show (20 * Y + X) % 20 = X by omega])
    have e4 : nI (20 * Y + X) / 20 = nI Y := (pk_div (a := 20 * Y + X) (d := 20) (by omega) (by decide) (by decide)).trans (by rw [show (20 * Y + X) / 20 = Y by omega])
    have e5 : (1 : Int32) + nI D = nI (1 + D) := nI_add 1 D
    rw [e130, M_v rm, cI_k (first_cell rm (hX ▸ hY ▸ hf l hl)), dv_k (by decide), Mi_halt rm, k18, dv_k (by decide), e3, e1, cI_k q132, dst_i (by omega) (by omega), dv_k (by decide), Mi_halt rm, k18, dv_k (by decide), e4, e2, cI_k q132, dst_i (by omega) (by omega), Mr_halves rm, Ma_halves rm (by omega), nI_add, hD, e5, dv_k (nI_ne0 (by omega) (by omega))]
    rw [nI_0] at f1
    rw [f1]
    refine (w130k rm k1 hn k3 k4 n 0 _ (by omega)).trans ?_
    rw [cP_cg n hb]
  -- the class
  obtain ⟨b, g1, g2⟩ := q58 w hl (rct_rec (hX ▸ hY ▸ hf l hl)) r7 r8
  have hst := street_iff rg hn k7 (show l < 40 by omega) (hX ▸ hY ▸ hf l hl)
  have hbs : (b = 1 ∧ st = 1) ∨ (b = 0 ∧ st = 0) := by
    have h5 : st = 1 ↔ ∃ c, c < 320 ∧ zi hm 21 c = nI l ∧ ∃ sd, sd < 4 ∧ opS (zi hm 21) (zi hm 33) c sd := by
      rw [f3]
      constructor
      · rintro (q | ⟨c', -, q⟩)
        · exact absurd q (by decide)
        · exact ⟨c', q⟩
      · rintro ⟨c', q⟩
        exact Or.inr ⟨c', by omega, q⟩
    rcases g2 with ⟨g2, g3⟩ | ⟨g2, g3⟩
    · exact Or.inl ⟨g2, h5.mpr (hst.mpr g3)⟩
    · refine Or.inr ⟨g2, ?_⟩
      rcases f2 with q | q
      · exact q
      · exact absurd (hst.mp (h5.mp q)) g3
  have hA : cArea hc l = zi hm 23 l := (rl l hl).2.2.2.2.2.2.2.1
  refine ⟨_, ?_, hm130⟩
  have e5 : (1 : Int32) + nI D = nI (1 + D) := nI_add 1 D
  have e6 : (if (1 : Int32) < nI (1 + D) then nI (1 + D) else 1) = nI (1 + D) := by
    by_cases q : D = 0
    · subst q
      rw [if_neg (by decide)]
      rfl
    · rw [if_pos (show (1 : Int32) < nI (1 + D) from nI_lt (a := 1) (b := 1 + D) (by omega) (by omega))]
  rw [e54, Lgi w hl (by decide), Ci13_4 w.1, k17, dv_k (by decide), show zi hc (zla hc l) 0 = nI X from r1, e1, cI_k q55, dst_i (by omega) (by omega), Lgi w hl (by decide), Ci13_4 w.1, k17, dv_k (by decide), show zi hc (zla hc l) 1 = nI Y from r2, e2, cI_k q55, dst_i (by omega) (by omega), Lv w hl, cI_k (q53 w hl), nI_add, hD, e5, cI_k q34, e6, dv_k (nI_ne0 (by omega) (by omega)), Cv13 w.1, cI_k (q56 w hl hrecs), Cv13 w.1, cI_k g1, hA, show (15 : Int32) = nI 15 from rfl, pk_mul]
  rcases hbs with ⟨q1, q2⟩ | ⟨q1, q2⟩
  · rw [q1, q2, if_neg (by decide), if_neg (by decide)]
  · rw [q1, q2, if_pos rfl, if_pos rfl, Int32.add_zero]
theorem zif2 {c : Prop} [Decidable c] {a b : Int32} : (if c then (some (some (vI a), h) : Option (Option zV × zH)) else some (some (vI b), h)) = some (some (vI (if c then a else b)), h) := by
  split <;> rfl
theorem J_lot : JG 49 128 [vI x, vI y] := by
  intro hc hm n p s c t r ht
  obtain ⟨w, rm, rk, rx, rmo, rl, rd, rh, rg, rb, bs, rt, ro⟩ := id r
  obtain ⟨k1, k2, k3, k4, -⟩ := id rk
  have hn := w.2.1
  by_cases hx : 0 ≤ x.toInt ∧ x.toInt < n
  · obtain ⟨l, hl, rfl, -⟩ := zof (x := x) (n := n) (by omega) hx
    obtain ⟨v, v1, v2⟩ := worth_eq r hl
    obtain ⟨X, Y, W, H, q⟩ := rg.1 l hl
    have hf := first_cell (hc := hc) (l := l) rm q
    obtain ⟨l1, l2, l3, l4, l5, l6, l7, l8, l9⟩ := rl l hl
    obtain ⟨d, d1, d2, d3, d4, d5⟩ := rd l hl
    have er := res_eq w rl rh k4 hl
    have eo := owed_eq rd hl
    have e2 := e128 (some 19) (nI l) y hm
    rw [M_v rm, cI_k (q129 rm k1 hn), if_pos hx, if_neg (by decide), Mr_halves rm, Ma_halves rm (by omega), Mr_owners rm, Ma_owners rm (by omega), Mr_isGift rm, Ma_isGift rm (by omega), M_v rm, cI_k v2, M_v rm, cI_k (q134 rm k3 k4), M_v rm, cI_k (q135 rm (by omega)), b128_115, Mr_partsLeft rm, Ma_partsLeft rm (by omega), Mr_dueDay rm, Ma_dueDay rm (by omega), Mr_yearsOut rm, Ma_yearsOut rm (by omega), M_v rm, cI_k hf, Mr_gotDay rm, Ma_gotDay rm (by omega)] at e2
    have e1 := e49 (some 8) (nI l) y hc
    have e8 : cf hc l 1 * 20 + cf hc l 0 = nI (20 * Y + X) := by rw [q.1, q.2.1, zcel2]
    rw [Cr8_1 w.1, Cr12_0 w.1, Cv13 w.1, cR_k (q50y w hl), ul_s, Lv w hl, cI_k (q53 w hl), Lgi w hl (by decide), Lgi w hl (by decide), Cr8_1 w.1, Cr12_0 w.1, Cv13 w.1, cI_k v1, Lgi w hl (by decide), Lgi w hl (by decide), Lgi w hl (by decide), Lgi w hl (by decide), Lgi w hl (by decide), Lgi w hl (by decide), Lgi w hl (by decide), Lgi w hl (by decide), l8] at e1
    simp only [show ∀ k, zi hc (zla hc l) k = cf hc l k from fun _ => rfl, l1, l3, l4, l5, e8, eo] at e1
    have e4 : (if cf hc l 10 = 0 then some (some (vI (-1)), hc) else some (some (vI (zi hm 24 l)), hc)) = (some (some (vI (mRes hm (nI l) p)), hc) : Option (Option zV × zH)) := by
      rw [er]
      split <;> rfl
    have e6 : (if (0 : Int32) < cf hc l 12 then some (some (vI (cf hc l 14)), hc) else some (some (vI (-1)), hc)) = (if (0 : Int32) < zi hm 28 l then some (some (vI (zi hm 29 l)), hc) else some (some (vI (-1)), hc) : Option (Option zV × zH)) := by
      rw [d2, d3]
      by_cases q : d = 0
      · rw [q, if_neg (by decide), if_neg (by decide)]
      · rw [if_pos (show (0 : Int32) < nI d from nI_lt (a := 0) (b := d) (by omega) (by omega)), if_pos (show (0 : Int32) < nI d from nI_lt (a := 0) (b := d) (by omega) (by omega)), (d5 (by omega)).2.1]
    rw [e4, e6] at e1
    unfold mOwed at e1
    simp only [zif2] at e1 e2
    exact J_no r ht e1 e2
  · refine J_no r ht (v := -1001) ?_ ?_
    · rw [e49, Cr8_1 w.1, Cr12_0 w.1, Cv13 w.1, cR_k (q50n w hx), ul_n]
    · rw [e128, M_v rm, cI_k (q129 rm k1 hn), if_neg hx, if_pos rfl]
end ZWQ
