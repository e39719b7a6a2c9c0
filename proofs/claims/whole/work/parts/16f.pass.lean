-- deps: 15a.lots 16a.rel 16b.step 16c.title 16d.cong 16e.title
section ZPS
variable {h h' hc hm hb m m' : zH} {n p s c c' t t' l j k a q : Nat} {x y z v : Int32}
theorem own_neg (e : v = -1 ∨ ∃ q, q < p ∧ v = nI q) (hp : p ≤ 20) : v < 0 ↔ v = -1 := by
  rcases e with e | ⟨q, hq, e⟩
  · rw [e]; decide
  · rw [e]
    constructor
    · intro h1; exact absurd h1 (nI_nn (by omega))
    · intro h1; exact absurd h1 (nI_m1 (by omega))
theorem cf_l (W : LW hc n) (hj : j < n) (hl : l < n) {i : Nat} : cf (zui hc (zla hc l) i x) j k = if j = l ∧ k = i then x else cf hc j k := by
  show zi (zui hc (zla hc l) i x) (zla hc j) k = _
  exact zl_l W hj hl
theorem R_c (r : R hc hm n p s c t) : c + mow hm n ≤ 2 * t ∧ t ≤ 512 := ⟨r.2.2.2.2.2.2.2.2.2.2.2.2.1, r.2.2.2.2.2.2.2.2.2.2.2.2.2.1⟩
theorem R_own (r : R hc hm n p s c t) (hl : l < n) (ho : zi hm 24 l ≠ -1) : c < 1024 := by
  have h1 := R_c r
  have : 0 < mow hm n := by
    unfold mow
    rw [List.countP_pos_iff]
    exact ⟨l, by rw [List.mem_range'_1]; omega, by simp [ho]⟩
  omega
/-- a lot goes back -/
theorem R_back (r : R hc hm n p s c t) (hl : l < n) (ho : zi hm 24 l ≠ -1) : R (cChg (cFor hc l) l (-1) c) (mBack hm c p l) n p s (c + 1) t := by
  obtain ⟨w, rm, rk, rx, rmo, rl, rd, rh, rg, rb, bs, rt, ro⟩ := id r
  have ht := (R_c r).2
  have cb : ∀ j k, j < n → cf (cFor hc l) j k = if j = l ∧ k = 16 then -1 else if j = l ∧ k = 15 then 0 else if j = l ∧ k = 12 then 0 else if j = l ∧ k = 11 then 0 else cf hc j k := fun j k hj => by
    show zi (cFor hc l) (zla hc j) k = _
    unfold cFor
    rw [zl_l w hj hl, zl_l w hj hl, zl_l w hj hl, zl_l w hj hl]
    rfl
  have cb1 : ∀ k, cf (cFor hc l) l k = if k = 16 then -1 else if k = 15 then 0 else if k = 12 then 0 else if k = 11 then 0 else cf hc l k := fun k => by
    rw [cb l k hl]; simp
  have e28 : zi (mBack hm c p l) 28 l = 0 := by
    unfold mBack; rw [zi_ua (by decide), zi_ua (by decide), zi_us]
  have e30 : zi (mBack hm c p l) 30 l = 0 := by
    unfold mBack; rw [zi_ua (by decide), zi_us]
  have e32 : zi (mBack hm c p l) 32 l = -1 := by
    unfold mBack; rw [zi_us]
  refine R_title r hl (Fr_for w hl) (fun j k hj hk => ?_) (fun _ _ => rfl) (fun a ha => ?_) rfl rfl (MF_u (MF_u (MF_u MF_bec (by decide) (by decide)) (by decide) (by decide)) (by decide) (by decide)) (fun a h1 h2 _ _ h28 _ h30 h32 => ?_) (fun a j ha hj => ?_) ?_ (Or.inl e30) ?_ (fun _ => ⟨e30, e28⟩) ⟨0, by omega, ?_, e28, fun _ => ?_, fun h => absurd h (by omega)⟩ (Or.inr (Or.inl ho)) ho (Or.inl rfl) (Or.inr ⟨rfl, rfl⟩) ht
  · rw [cb j k hj]
    rw [if_neg (by omega), if_neg (by omega), if_neg (by omega), if_neg (by omega)]
  · funext i
    unfold cFor
    rw [zl_f w hl ha, zl_f w hl ha, zl_f w hl ha, zl_f w hl ha]
  · unfold mBack
    rw [zi_f (Ne.symm h32), zi_f (Ne.symm h30), zi_f (Ne.symm h28)]
  · unfold mBack
    rw [zi_uk hj, zi_uk hj, zi_uk hj]
    rw [bec_a (by omega) (by omega) (by omega) (by omega) (by omega) (by omega) (by omega)]
  · rw [e30, cb1]; simp
  · rw [e32, cb1]; simp
  · rw [cb1]; simp [nI_0]
  · rw [cb1]; simp
/-- a count goes up in both -/
theorem R_cnt (r : R hc hm n p s c t) (hk : k = 4 ∨ k = 5) : R (zui hc 12 k (zi hc 12 k + 1)) (zui hm 19 (23 + k) (zi hm 19 (23 + k) + 1)) n p s c t := by
  obtain ⟨w, rm, rk, rx, rmo, rl, rd, rh, rg, rb, bs, rt, ro⟩ := id r
  have ht := (R_c r).2
  have F : Fr hc (zui hc 12 k (zi hc 12 k + 1)) := Fx (Fr_rfl w.1) (by decide) w.1
  have N : MF hm (zui hm 19 (23 + k) (zi hm 19 (23 + k) + 1)) := MF_ui (by decide) (by decide)
  obtain ⟨k1, k2, k3, k4, k5, k6, k7, k8, k9, k10, k11, k12, k13, k14, k15, k16, k19⟩ := rk
  refine R_fix r F N (fun l k hl => cf_a w (by decide) hl) (fun _ _ => rfl) (zi_f (by decide)) (zi_f (by decide)) (fun a h1 h2 h3 => zi_f (by omega)) ?_ (RX_cg rx (zi_ua (by decide)) (zi_f (by decide)) (zi_uk (by omega)) (zi_f (by decide))) (RM_cg rmo (zi_f (by decide)) (zi_f (by decide))) (by omega) (by omega) rfl rfl
  rcases hk with e | e
  · subst e
    exact ⟨k1, k2, k3, k4, k5, k6, k7, k8, k9, k10, k11, by rw [zi_us, zi_us, k12], k13, k14, k15, k16, k19⟩
  · subst e
    exact ⟨k1, k2, k3, k4, k5, k6, k7, k8, k9, k10, k11, k12, by rw [zi_us, zi_us, k13], k14, k15, k16, k19⟩
theorem own_x (rl : RL hc hm n p) (hl : l < n) (hq : q < p) : (nI q = -1 ∨ ∃ i, i < p ∧ nI q = nI i) := Or.inr ⟨q, hq, rfl⟩
theorem J_pass : JG 86 144 [vI x, vI y] := by
  intro hc hm n p s c t r ht
  obtain ⟨w, rm, rk, rx, rmo, rl, rd, rh, rg, rb, bs, rt, ro⟩ := id r
  obtain ⟨k1, k2, k3, k4, k5, k6, k7, k8, k9, k10, k11, k12, k13, k14, k15, k16, k19⟩ := id rk
  have hn := w.2.1
  by_cases hx : 0 ≤ x.toInt ∧ x.toInt < n
  · obtain ⟨l, hl, rfl, -⟩ := zof (x := x) (n := n) (by omega) hx
    by_cases hy : 0 ≤ y.toInt ∧ y.toInt < p
    · obtain ⟨l1, l2, l3, l4, l5, l6, l7, l8, l9⟩ := rl l hl
      have ho := own_neg l2 k4
      have e1 : zcall 86 [vR (some 8), vI (nI l), vI y] hc = if zi hm 24 l = -1 then some (some (vI (-1003)), hc) else if zi hm 24 l = y then some (some (vI (-1003)), hc) else (zcV 81 [vR (some 12), vR (some (zla hc l)), vI y] hc fun h12 => some (some (vI 1), h12)) := by
        rw [e86, Cr8_1 w.1, Cr12_0 w.1, Cv13 w.1, cR_k (q50y w hl), ul_s, Cr8_1 w.1, Cr12_1 w.1, Cv17 w.1, cI_k (q68 w.1 k2 k4), if_pos hy, if_neg (by decide), Lgi w hl (by decide), Lgi w hl (by decide), Cr8_1 w.1, Cv12 w.1]
        rw [show zi hc (zla hc l) 7 = zi hm 24 l from l1]
      have e2 : zcall 144 [vR (some 19), vI (nI l), vI y] hm = if zi hm 24 l = -1 then some (some (vI (-1003)), hm) else if zi hm 24 l = y then some (some (vI (-1003)), hm) else some (some (vI 1), mBec hm c p l y) := by
        rw [e144, M_v rm, cI_k (q129 rm k1 hn), if_pos hx, if_neg (by decide), M_v rm, cI_k (q140 rm k3 k4), if_pos hy, if_neg (by decide), Mr_owners rm, Ma_owners rm (by omega), Mr_owners rm, Ma_owners rm (by omega), M_v rm]
        simp only [ho]
        split
        · rfl
        · rename_i g
          rw [cV_k (q143 rm k3 k4 k9 (by have := R_own r hl g; omega) (by omega))]
      by_cases g1 : zi hm 24 l = -1
      · rw [if_pos g1] at e1 e2
        exact J_no r ht e1 e2
      · rw [if_neg g1] at e1 e2
        by_cases g2 : zi hm 24 l = y
        · rw [if_pos g2] at e1 e2
          exact J_no r ht e1 e2
        · rw [if_neg g2] at e1 e2
          obtain ⟨q, hq, rfl, -⟩ := zof (x := y) (n := p) (by omega) hy
          rw [cV_k (q81 w hl k8 (R_own r hl g1) (nI_m1 (by omega)))] at e1
          refine ⟨_, _, _, n, p, s, c + 1, e1, e2, ?_, (Fr_chg w hl).1, MF_bec⟩
          have eb : ∀ a, a = 26 ∨ a = 27 ∨ a = 28 ∨ a = 29 ∨ a = 30 ∨ a = 32 → zi (mBec hm c p l (nI q)) a = zi hm a := fun a ha => bec_a (by omega) (by omega) (by omega) (by omega) (by omega) (by omega) (by omega)
          refine R_title r hl (Fr_rfl w.1) (fun _ _ _ _ => rfl) (fun _ _ => rfl) (fun _ _ => rfl) rfl rfl MF_bec (fun _ _ _ _ _ _ _ _ _ => rfl) (fun a j ha hj => by rw [eb a ha]) (by rw [eb 30 (by decide)]; exact l5) (by rw [eb 30 (by decide)]; exact l6) (by rw [eb 32 (by decide)]; exact l7) (fun e => absurd e (nI_m1 (by omega))) ?_ (Or.inr (Or.inl g1)) g2 (Or.inr ⟨q, hq, rfl⟩) (Or.inl (by omega)) (by omega)
          rw [eb 26 (by decide), eb 27 (by decide), eb 28 (by decide), eb 29 (by decide)]
          exact rd l hl
    · refine J_no r ht (v := -1001) ?_ ?_
      · rw [e86, Cr8_1 w.1, Cr12_0 w.1, Cv13 w.1, cR_k (q50y w hl), ul_s, Cr8_1 w.1, Cr12_1 w.1, Cv17 w.1, cI_k (q68 w.1 k2 k4), if_neg hy, if_pos rfl]
      · rw [e144, M_v rm, cI_k (q129 rm k1 hn), if_pos hx, if_neg (by decide), M_v rm, cI_k (q140 rm k3 k4), if_neg hy, if_pos rfl]
  · refine J_no r ht (v := -1001) ?_ ?_
    · rw [e86, Cr8_1 w.1, Cr12_0 w.1, Cv13 w.1, cR_k (q50n w hx), ul_n]
    · rw [e144, M_v rm, cI_k (q129 rm k1 hn), if_neg hx, if_pos rfl]
theorem J_give : JG 87 145 [vI x, vI y, vI z] := by
  intro hc hm n p s c t r ht
  obtain ⟨w, rm, rk, rx, rmo, rl, rd, rh, rg, rb, bs, rt, ro⟩ := id r
  obtain ⟨k1, k2, k3, k4, k5, k6, k7, k8, k9, ⟨d, k10, k10a, k10b⟩, k11, k12, k13, k14, k15, k16, k19⟩ := id rk
  have hn := w.2.1
  by_cases hx : 0 ≤ x.toInt ∧ x.toInt < n
  · obtain ⟨l, hl, rfl, -⟩ := zof (x := x) (n := n) (by omega) hx
    by_cases hy : 0 ≤ y.toInt ∧ y.toInt < p
    · obtain ⟨l1, l2, l3, l4, l5, l6, l7, l8, l9⟩ := rl l hl
      have ho := own_neg l2 k4
      have hd : (nI d).toInt = d := nI_toInt (by omega)
      have e1 : zcall 87 [vR (some 8), vI (nI l), vI y, vI z] hc = if (d : Int) ≤ z.toInt ∧ z.toInt ≤ 9999 then (if zi hm 25 l = 0 then some (some (vI (-1003)), hc) else if zi hm 24 l = -1 then (zcV 81 [vR (some 12), vR (some (zla hc l)), vI y] (zui hc (zla hc l) 16 z) fun h12 => some (some (vI 1), h12)) else some (some (vI (-1003)), hc)) else some (some (vI (-1002)), hc) := by
        have F1 : Fr hc (zui hc (zla hc l) 16 z) := Fl w (Fr_rfl w.1) hl
        rw [e87, Cr8_1 w.1, Cr12_0 w.1, Cv13 w.1, cR_k (q50y w hl), ul_s, Cr8_1 w.1, Cr12_1 w.1, Cv17 w.1, cI_k (q68 w.1 k2 k4), if_pos hy, if_neg (by decide), Cr8_1 w.1, Ci12_2 w.1, k10a, Lgi w hl (by decide), Lgi w hl (by decide), Lpi w hl (by decide), Cr8_1 F1.2.1, Cv12 F1.2.1, show zi hc (zla hc l) 7 = zi hm 24 l from l1, show zi hc (zla hc l) 4 = zi hm 25 l from l3]
        simp only [Int32.lt_iff_toInt_lt, hd, show (9999 : Int32).toInt = 9999 by decide]
        by_cases g1 : z.toInt < d
        · rw [if_pos g1, if_neg (by omega)]
        · rw [if_neg g1]
          by_cases g2 : 9999 < z.toInt
          · rw [if_pos g2, if_neg (by omega)]
          · rw [if_neg g2, if_pos (show (d : Int) ≤ z.toInt ∧ z.toInt ≤ 9999 by omega)]
      have e2 : zcall 145 [vR (some 19), vI (nI l), vI y, vI z] hm = if (d : Int) ≤ z.toInt ∧ z.toInt ≤ 9999 then (if zi hm 25 l = 0 then some (some (vI (-1003)), hm) else if zi hm 24 l = -1 then (zcV 143 [vR (some 19), vI (nI l), vI y] hm fun h12 => (zgR h12 (some 19) 9 15 fun x13 => (ztI h12 x13 (nI l) z fun h14 => some (some (vI 1), h14)))) else some (some (vI (-1003)), hm)) else some (some (vI (-1002)), hm) := by
        rw [e145, M_v rm, cI_k (q129 rm k1 hn), if_pos hx, if_neg (by decide), M_v rm, cI_k (q140 rm k3 k4), if_pos hy, if_neg (by decide), Mi_now rm, k10b, cI_k (q113 _ _ _ _), Mr_isGift rm, Ma_isGift rm (by omega), Mr_owners rm, Ma_owners rm (by omega), M_v rm]
        simp only [z64, hd, show (9999 : Int64).toInt = 9999 by decide, ho]
        by_cases g1 : (d : Int) ≤ z.toInt ∧ z.toInt ≤ 9999
        · rw [if_pos g1, if_pos g1, if_neg (by decide)]
        · rw [if_neg g1, if_neg g1, if_pos rfl]
      by_cases g0 : (d : Int) ≤ z.toInt ∧ z.toInt ≤ 9999
      · rw [if_pos g0] at e1 e2
        by_cases g1 : zi hm 25 l = 0
        · rw [if_pos g1] at e1 e2
          exact J_no r ht e1 e2
        · rw [if_neg g1] at e1 e2
          by_cases g2 : zi hm 24 l = -1
          · rw [if_pos g2] at e1 e2
            obtain ⟨q, hq, rfl, -⟩ := zof (x := y) (n := p) (by omega) hy
            have hc1 := R_c r
            have F1 : Fr hc (zui hc (zla hc l) 16 z) := Fl w (Fr_rfl w.1) hl
            have w1 := Fr_LW w F1
            have h81 : zcall 81 [vR (some 12), vR (some (zla hc l)), vI (nI q)] (zui hc (zla hc l) 16 z) = _ := q81 w1 hl (by rw [zl_f w hl (by decide)]; exact k8) (by omega) (nI_m1 (by omega))
            rw [cV_k h81] at e1
            have N1 := MF_bec (hm := hm) (c := c) (p := p) (l := l) (x := nI q)
            rw [cV_k (q143 rm k3 k4 k9 (by omega) (by omega)), Mr_condition (MF_ms N1 rm), Mt_condition (MF_ms N1 rm) (by omega)] at e2
            refine ⟨_, _, _, n, p, s, c + 1, e1, e2, ?_, (Fr_tr F1 (Fr_chg w1 hl)).1, MF_u N1 (by decide) (by decide)⟩
            have eb : ∀ a, a = 26 ∨ a = 27 ∨ a = 28 ∨ a = 29 ∨ a = 30 ∨ a = 32 → zi (mBec hm c p l (nI q)) a = zi hm a := fun a ha => bec_a (by omega) (by omega) (by omega) (by omega) (by omega) (by omega) (by omega)
            refine R_title r hl F1 (fun j k hj hk => ?_) (fun _ _ => rfl) (fun a ha => ?_) rfl rfl (MF_u N1 (by decide) (by decide)) (fun a _ _ _ _ _ _ _ h32 => zi_f (Ne.symm h32)) (fun a j ha hj => by rw [zi_uk hj, eb a ha]) ?_ ?_ ?_ (fun e => absurd e (nI_m1 (by omega))) ?_ (Or.inr (Or.inr g1)) (by rw [g2]; exact fun e => nI_m1 (by omega) e.symm) (Or.inr ⟨q, hq, rfl⟩) (Or.inl (by omega)) (by omega)
            · rw [cf_l w hj hl, if_neg (by omega)]
            · funext i; exact zl_f w hl ha
            · rw [cf_l w hl hl, if_neg (by omega), zi_ua (by decide), eb 30 (by decide)]; exact l5
            · rw [zi_ua (by decide), eb 30 (by decide)]; exact l6
            · rw [cf_l w hl hl, if_pos ⟨rfl, rfl⟩, zi_us]
            · rw [cf_l w hl hl, if_neg (by omega), cf_l w hl hl, if_neg (by omega), cf_l w hl hl, if_neg (by omega), cf_l w hl hl, if_neg (by omega), zi_ua (by decide), zi_ua (by decide), zi_ua (by decide), zi_ua (by decide), eb 26 (by decide), eb 27 (by decide), eb 28 (by decide), eb 29 (by decide)]
              exact rd l hl
          · rw [if_neg g2] at e1 e2
            exact J_no r ht e1 e2
      · rw [if_neg g0] at e1 e2
        exact J_no r ht e1 e2
    · refine J_no r ht (v := -1001) ?_ ?_
      · rw [e87, Cr8_1 w.1, Cr12_0 w.1, Cv13 w.1, cR_k (q50y w hl), ul_s, Cr8_1 w.1, Cr12_1 w.1, Cv17 w.1, cI_k (q68 w.1 k2 k4), if_neg hy, if_pos rfl]
      · rw [e145, M_v rm, cI_k (q129 rm k1 hn), if_pos hx, if_neg (by decide), M_v rm, cI_k (q140 rm k3 k4), if_neg hy, if_pos rfl]
  · refine J_no r ht (v := -1001) ?_ ?_
    · rw [e87, Cr8_1 w.1, Cr12_0 w.1, Cv13 w.1, cR_k (q50n w hx), ul_n]
    · rw [e145, M_v rm, cI_k (q129 rm k1 hn), if_neg hx, if_pos rfl]
theorem J_person : JG 65 138 [vI x] := by
  intro hc hm n p s c t r ht
  obtain ⟨w, rm, rk, rx, rmo, rl, rd, rh, rg, rb, bs, rt, ro⟩ := id r
  obtain ⟨k1, k2, k3, k4, k5, k6, k7, k8, k9, k10, k11, k12, k13, k14, k15, k16, k19⟩ := id rk
  have h1 := q65 (x := x) w.1 k2 k4
  have h2 := q138 (x := x) rm k3 k4
  by_cases hx : 0 ≤ x.toInt ∧ x.toInt ≤ 1000000
  · rw [if_pos hx] at h1 h2
    by_cases h20 : p = 20
    · rw [if_pos h20] at h1 h2
      exact J_no r ht h1 h2
    · rw [if_neg h20] at h1 h2
      have F : Fr hc (zui (zui hc 18 p x) 17 1 (nI (p + 1))) := Fx (Fx (Fr_rfl w.1) (by decide) w.1) (by decide) w.1
      have N : MF hm (mPer hm p x) := MF_u (MF_u (MF_u MF_rfl (by decide) (by decide)) (by decide) (by decide)) (by decide) (by decide)
      refine ⟨_, _, _, n, p + 1, s, c, h1, h2, ?_, F.1, N⟩
      have C : ∀ l k, l < n → cf (zui (zui hc 18 p x) 17 1 (nI (p + 1))) l k = cf hc l k := fun l k hl => by
        show zi (zui (zui hc 18 p x) 17 1 (nI (p + 1))) (zla hc l) k = _
        rw [zl_a w hl (by decide), zl_a w hl (by decide)]; rfl
      have ma : ∀ a, 20 ≤ a → a ≠ 34 → a ≠ 35 → zi (mPer hm p x) a = zi hm a := fun a g1 g2 g3 => by
        unfold mPer
        rw [zi_f (by omega), zi_f (by omega), zi_f (by omega)]
      obtain ⟨o1, o2, o3, o4⟩ := ro
      refine ⟨Fr_LW w F, MF_ms N rm, ?_, RX_cg rx (by rw [zi_ua (by decide), zi_ua (by decide)]) (by rw [zi_f (by decide), zi_f (by decide)]) ?_ (ma 20 (by decide) (by decide) (by decide)), ?_, ?_, RD_cg rd C (fun a ha => ma a (by omega) (by omega) (by omega)), ?_, ?_, ?_, BS_cg w F rb bs, RT_cg w F rt (fun l hl => ⟨C l 7 hl, C l 8 hl, rfl⟩) (fun a ha => ma a (by omega) (by omega) (by omega)), ?_, by omega, ?_, ?_⟩
      · exact ⟨k1, zi_us, zi_us, by omega, k5, k6, k7, k8, k9, k10, k11, k12, k13, k14, k15, k16, k19⟩
      · unfold mPer; rw [zi_uk (by decide), zi_ua (by decide), zi_ua (by decide)]
      · intro i hi
        unfold mPer
        rw [zi_ua (by decide), zi_ui, zi_ua (by decide), zi_ua (by decide), zi_ui]
        by_cases e : i = p
        · simp [e]
        · simp only [e, and_false, if_false]
          exact rmo i (by omega)
      · intro l hl
        obtain ⟨l1, l2, l3⟩ := RL_cg rl C (fun a ha => ma a (by omega) (by omega) (by omega)) l hl
        refine ⟨l1, ?_, l3⟩
        rcases l2 with e | ⟨i, hi, e⟩
        · exact Or.inl e
        · exact Or.inr ⟨i, by omega, e⟩
      · refine ⟨fun i hi => ?_, fun l hl => ?_⟩
        · rw [ma 24 (by decide) (by decide) (by decide)]
          unfold mPer
          rw [zi_ua (by decide), zi_ui, zi_ua (by decide)]
          by_cases e : i = p
          · exact Or.inl (if_pos ⟨rfl, e⟩)
          · rw [if_neg (fun g => e g.2)]
            rcases rh.1 i (by omega) with g | ⟨l, hl, g⟩
            · exact Or.inl g
            · exact Or.inr ⟨l, hl, by rw [C l 10 hl]; exact g⟩
        · rw [ma 24 (by decide) (by decide) (by decide), C l 10 hl]
          rcases rh.2 l hl with g | ⟨g, i, hi, g1, g2⟩
          · exact Or.inl g
          · refine Or.inr ⟨g, i, by omega, g1, ?_⟩
            unfold mPer
            rw [zi_ua (by decide), zi_ui, zi_ua (by decide), if_neg (by omega)]; exact g2
      · rw [ma 21 (by decide) (by decide) (by decide), ma 33 (by decide) (by decide) (by decide)]
        exact RG_cg rg (fun l k hl _ => C l k hl) (by rw [zi_f (by decide), zi_f (by decide)]) (by rw [zi_f (by decide), zi_f (by decide)])
      · intro l hl
        obtain ⟨u, u1, u2, u3, u4, u5⟩ := RB_cg w F rb (ma 36 (by decide) (by decide) (by decide)) (ma 37 (by decide) (by decide) (by decide)) (ma 38 (by decide) (by decide) (by decide)) (fun l hl _ e1 e2 => by rw [ma 24 (by decide) (by decide) (by decide), ma 25 (by decide) (by decide) (by decide)]; exact ⟨e1, e2⟩) l hl
        refine ⟨u, u1, u2, u3, fun i hi => ?_, u5⟩
        obtain ⟨q, hq, g⟩ := u4 i hi
        exact ⟨q, by omega, g⟩
      · unfold mow at o1 ⊢
        rw [ma 24 (by decide) (by decide) (by decide)]; omega
      · show zn hc ≤ _
        omega
      · show zs hc ≤ _
        omega
  · rw [if_neg hx] at h1 h2
    exact J_no r ht h1 h2
end ZPS
