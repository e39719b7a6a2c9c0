section ZDC
variable {h h2 h' hc hm hb hc' hm' m' : zH} {n p s c t l j k a b q d : Nat} {x y v : Int32}
def lB (h : zH) (b : Option Nat) : Option Nat := b.map (zla h)
theorem worths (r : R hc hm n p s c t) : ∃ f : Nat → Int32, ∀ l, l < n → zcall 54 [vR (some 13), vR (some (zla hc l))] hc = some (some (vI (f l)), hc) ∧ zcall 130 [vR (some 19), vI (nI l)] hm = some (some (vI (f l)), hm) := by
  have key : ∀ l, ∃ v : Int32, l < n → zcall 54 [vR (some 13), vR (some (zla hc l))] hc = some (some (vI v), hc) ∧ zcall 130 [vR (some 19), vI (nI l)] hm = some (some (vI v), hm) := fun l => by
    by_cases hl : l < n
    · obtain ⟨v, q⟩ := worth_eq r hl
      exact ⟨v, fun _ => q⟩
    · exact ⟨0, fun q => absurd q hl⟩
  exact Classical.skolem.mp key
theorem w99 (r : R hc hm n p s c t) (hq : q < p) (hh : zi hm 35 q = -1) {f : Nat → Int32} (hf : ∀ l, l < n → zcall 54 [vR (some 13), vR (some (zla hc l))] hc = some (some (vI (f l)), hc) ∧ zcall 130 [vR (some 19), vI (nI l)] hm = some (some (vI (f l)), hm)) : ∀ (k i : Nat) (b : Option Nat) (most : Int32) (u5 u6 : Option zV), i + k = n → (∀ j, b = some j → j < n ∧ zi hm 24 j = nI q ∧ most = f j) → ∃ b', (∀ j, b' = some j → j < n ∧ zi hm 24 j = nI q) ∧ zev 99 7 [some (vR (some 13)), some (vI (nI q)), some (vR (lB hc b)), some (vI most), some (vI (nI i)), u5, u6] [] hc = some (some (vR (lB hc b')), hc) ∧ zev 152 14 [some (vR (some 19)), some (vI (nI q)), some (vI (mB b)), some (vI (nI i))] [] hm = zev 152 70 [some (vR (some 19)), some (vI (nI q)), some (vI (mB b')), some (vI (nI n))] [] hm := by
  obtain ⟨w, rm, rk, rx, rmo, rl, rd, rh, rg, rb, bs, rt, ro⟩ := id r
  obtain ⟨k1, k2, k3, k4, -⟩ := id rk
  have hn := w.2.1
  intro k
  induction k with
  | zero =>
    intro i b most u5 u6 hi hb
    have : i = n := by omega
    subst this
    refine ⟨b, fun j e => ⟨(hb j e).1, (hb j e).2.1⟩, ?_, ?_⟩
    · rw [b99_7, Cr13_2 w.1, Lv16 w, Lsz w, if_neg (nI_nlt (by omega) (by omega))]
    · rw [b152_14, Mi_lots rm, k1, if_neg (nI_nlt (by omega) (by omega))]
  | succ k ih =>
    intro i b most u5 u6 hi hb
    have hl : i < n := by omega
    rw [b99_7, Cr13_2 w.1, Lv16 w, Lsz w, if_pos (nI_lt hl (by omega)), Cr13_2 w.1, Lv16 w, Lget w hl, Lca w hl, Lgi w hl (by decide), show zi hc (zla hc i) 7 = zi hm 24 i from (rl i hl).1, Cv13 w.1, cI_k (hf i hl).1, nI_1, b152_14, Mi_lots rm, k1, if_pos (nI_lt hl (by omega)), Mr_home rm, Ma_home rm (by omega), hh, if_pos (show (-1 : Int32) < 0 by decide), Mr_owners rm, Ma_owners rm (by omega), M_v rm, cI_k (hf i hl).2, nI_1]
    by_cases g : zi hm 24 i = nI q
    · rw [if_pos g, if_pos g]
      have nx : ∀ j, (some i : Option Nat) = some j → j < n ∧ zi hm 24 j = nI q ∧ f i = f j := by
        intro j e
        cases e
        exact ⟨hl, g, rfl⟩
      cases b with
      | none =>
        rw [show lB hc none = none from rfl, ul_n, show mB none = -1 from rfl, if_pos (by decide)]
        exact ih (i + 1) (some i) _ _ _ (by omega) nx
      | some j0 =>
        obtain ⟨hj, g1, g2⟩ := hb j0 rfl
        rw [show lB hc (some j0) = some (zla hc j0) from rfl, ul_s, show mB (some j0) = nI j0 from rfl, if_neg (nI_nn (by omega)), M_v rm, cI_k (hf j0 hj).2, g2]
        by_cases g3 : f j0 < f i
        · rw [if_pos g3, if_pos g3]
          exact ih (i + 1) (some i) _ _ _ (by omega) nx
        · rw [if_neg g3, if_neg g3]
          exact ih (i + 1) (some j0) _ _ _ (by omega) (fun j e => by
            cases e
            exact ⟨hj, g1, rfl⟩)
    · rw [if_neg g, if_neg g]
      exact ih (i + 1) b most _ _ (by omega) hb
/-- a person comes to live, or not -/
theorem s97 (r : R hc hm n p s c t) (hq : q < p) (u u' u2 : Option zV) : ∃ hc' hm' v v' v2, zev 97 2 [some (vR (some 12)), some (vI (nI q)), u] [] hc = zev 97 2 [some (vR (some 12)), some (vI (nI (q + 1))), v] [] hc' ∧ zev 152 2 [some (vR (some 19)), some (vI (nI q)), u', u2] [] hm = zev 152 2 [some (vR (some 19)), some (vI (nI (q + 1))), v', v2] [] hm' ∧ ST n p s t hc hm hc' hm' := by
  obtain ⟨w, rm, rk, rx, rmo, rl, rd, rh, rg, rb, bs, rt, ro⟩ := id r
  obtain ⟨k1, k2, k3, k4, k5, k6, k7, k8, k9, k10, k11, k12, k13, k14, k15, k16, k19⟩ := id rk
  have hn := w.2.1
  have h98 := q98 (x := nI q) w
  rw [home_eq w rl rh k4 hq] at h98
  have e1 := b97_2 (some 12) (nI q) u hc
  rw [Cr12_1 w.1, Ci17_1 w.1, k2, if_pos (nI_lt hq (by omega)), Cr12_0 w.1, Cv13 w.1, cI_k h98, Cr12_0 w.1, Cv13 w.1, nI_1] at e1
  have e2 := b152_2 (some 19) (nI q) u' u2 hm
  rw [Mi_persons rm, k3, if_pos (nI_lt hq (by omega))] at e2
  by_cases hh : zi hm 35 q = -1
  · obtain ⟨f, hf⟩ := worths r
    obtain ⟨b, hb, f1, f2⟩ := w99 r hq hh hf n 0 none 0 none none (by omega) (fun j e => by cases e)
    rw [nI_0] at f1 f2
    have h99 : zcall 99 [vR (some 13), vI (nI q)] hc = some (some (vR (lB hc b)), hc) := by
      rw [e99]
      exact f1
    rw [if_pos hh, cR_k h99] at e1
    rw [show mB none = -1 from rfl] at f2
    rw [f2, b152_70, Mr_home rm, Mr_home rm, Ma_home rm (by omega), Mt_home rm (by omega), Mt_home rm (by omega), zui_s, nI_1] at e2
    cases b with
    | none =>
      rw [show lB hc none = none from rfl, ul_n] at e1
      rw [show mB none = -1 from rfl, if_pos (by decide)] at e2
      exact ⟨hc, hm, _, _, _, e1, e2, ST_rfl r⟩
    | some j =>
      obtain ⟨hj, g1⟩ := hb j rfl
      rw [show lB hc (some j) = some (zla hc j) from rfl, ul_s, Lpz w hj (by decide) (Or.inr rfl)] at e1
      rw [show mB (some j) = nI j from rfl, if_neg (nI_nn (by omega))] at e2
      exact ⟨_, _, _, _, _, e1, e2, ⟨c, R_home r hj hq g1 hh⟩, (Fl w (Fr_rfl w.1) hj).1, MF_ui (by decide) (by decide), by rw [zi_ua (by decide)]⟩
  · rw [if_neg hh] at e1
    rcases rh.1 q hq with g | ⟨l, hl, g1, g2, g3⟩
    · exact absurd g hh
    · have e0 : (0 : Int32) < nI n := nI_lt (a := 0) (b := n) (by omega) (by omega)
      rw [b152_14, Mi_lots rm, k1, if_pos e0, Mr_home rm, Ma_home rm (by omega), g1, if_neg (nI_nn (by omega)), b152_70, Mr_home rm, if_pos (by decide), Mr_home rm, Ma_home rm (by omega), Mt_home rm (by omega), zui_s, nI_1] at e2
      exact ⟨hc, hm, _, _, _, e1, e2, ST_rfl r⟩
/-- a lot's condition -/
theorem s100 (r : R hc hm n p s c t) (hl : l < n) (u : Option zV) : ∃ hc' hm' v, zev 100 2 [some (vR (some 12)), some (vI (nI l)), u] [] hc = zev 100 2 [some (vR (some 12)), some (vI (nI (l + 1))), v] [] hc' ∧ zev 148 28 [some (vR (some 19)), some (vI (nI l))] [] hm = zev 148 28 [some (vR (some 19)), some (vI (nI (l + 1)))] [] hm' ∧ ST n p s t hc hm hc' hm' := by
  obtain ⟨w, rm, rk, rx, rmo, rl, rd, rh, rg, rb, bs, rt, ro⟩ := id r
  obtain ⟨k1, k2, k3, k4, k5, k6, k7, k8, k9, ⟨D, k10, k10a, k10b⟩, k11, k12, k13, k14, k15, k16, k19⟩ := id rk
  have hn := w.2.1
  obtain ⟨l1, l2, l3, l4, l5, l6, l7, l8, l9⟩ := rl l hl
  have e1 := b100_2 (some 12) (nI l) u hc
  rw [Cr12_0 w.1, Cr13_2 w.1, Lv16 w, Lsz w, if_pos (nI_lt hl (by omega)), Cr12_0 w.1, Cr13_2 w.1, Lv16 w, Lget w hl, Lca w hl, Lgi w hl (by decide), show zi hc (zla hc l) 16 = zi hm 32 l from l7, Ci12_2 w.1, k10a, nI_1] at e1
  have e2 := b148_28 (some 19) (nI l) hm
  rw [Mi_lots rm, k1, if_pos (nI_lt hl (by omega)), Mr_condition rm, Ma_condition rm (by omega), Mi_now rm, k10b, nI_1] at e2
  by_cases g0 : zi hm 32 l = nI D
  · rw [if_pos g0] at e1 e2
    have C : ∀ i k, i < n → cf (zui hc (zla hc l) 16 (-1)) i k = if i = l ∧ k = 16 then -1 else cf hc i k := fun i k hi => cf_l w hi hl
    have F1 : Fr hc (zui hc (zla hc l) 16 (-1)) := Fl w (Fr_rfl w.1) hl
    have r1 : R (zui hc (zla hc l) 16 (-1)) (zui hm 32 l (-1)) n p s c t := by
      refine R_lot r hl F1 (fun i k hi hk => by rw [C i k hi, if_neg (by omega)]) (fun _ _ => rfl) (fun a ha => funext fun i => zl_f w hl ha) rfl rfl (MF_ui (by decide) (by decide)) (fun a _ _ _ _ _ c4 => zi_f (Ne.symm c4)) (fun a i _ hi => zi_uk hi) (by rw [C l 15 hl, if_neg (by omega), zi_ua (by decide)]; exact l5) (by rw [zi_ua (by decide)]; exact l6) (by rw [C l 16 hl, if_pos ⟨rfl, rfl⟩, zi_us]) (fun e => by rw [zi_ua (by decide), zi_ua (by decide)]; exact l9 e) ?_
      rw [C l 12 hl, if_neg (by omega), C l 11 hl, if_neg (by omega), C l 13 hl, if_neg (by omega), C l 14 hl, if_neg (by omega), zi_ua (by decide), zi_ua (by decide)]
      exact rd l hl
    have rm1 : MS (zui hm 32 l (-1)) := rm
    rw [Lpi w hl (by decide), Fgi w F1 hl (by decide), zi_uk (by decide), show zi hc (zla hc l) 7 = zi hm 24 l from l1, Fgi w F1 hl (by decide), zi_uk (by decide)] at e1
    rw [Mr_condition rm, Mt_condition rm (by omega), Mr_owners rm1, Ma_owners rm1 (by omega), zi_ua (by decide)] at e2
    simp only [own_neg l2 k4] at e2
    by_cases ho : zi hm 24 l = -1
    · rw [if_pos ho] at e1 e2
      exact ⟨_, _, _, e1, e2, ⟨c, r1⟩, F1.1, MF_ui (by decide) (by decide), by rw [zi_ua (by decide)]⟩
    · rw [if_neg ho] at e1 e2
      obtain ⟨q, hq, eo⟩ : ∃ q, q < p ∧ zi hm 24 l = nI q := l2.resolve_left ho
      rw [Mr_home rm1, Mr_owners rm1, Ma_owners rm1 (by omega), zi_ua (by decide), eo, Ma_home rm1 (by omega), zi_ua (by decide)] at e2
      rcases rh.2 l hl with g | ⟨g, i, hi, g1, g2⟩
      · have hne : ¬ zi hm 35 q = nI l := fun e => by
          rcases rh.1 q hq with g3 | ⟨j, hj, g3, g4, -⟩
          · exact nI_m1 (by omega) (e.symm.trans g3)
          · have : l = j := (nI_eq (by omega) (by omega)).mp (e.symm.trans g3)
            subst this
            rw [g] at g4
            exact absurd g4 (by decide)
        have hcb := R_own r hl ho
        have w1 := Fr_LW w F1
        have h81 := q81b (c := c) w1 hl (by rw [zl_f w hl (by decide)]; exact k8) hcb
        rw [Fr_la w F1] at h81
        rw [show zi hc (zla hc l) 10 = 0 from g, if_pos rfl, Cv12 F1.2.1, cV_k h81] at e1
        rw [if_neg hne, M_v rm1, cV_k (q150 rm1 (by rw [zi_ua (by decide)]; exact k3) k4 (by rw [zi_ua (by decide)]; exact k9) (by omega) (by omega))] at e2
        have r2 := R_back r1 hl (by rw [zi_ua (by decide)]; exact ho)
        exact ⟨_, _, _, e1, e2, ⟨_, r2⟩, (Fr_tr F1 (Fr_tr (Fr_for w1 hl) (Fr_chg (Fr_LW w1 (Fr_for w1 hl)) hl))).1, MF_tr (MF_ui (by decide) (by decide)) MF_back, by rw [mBack_19 (by decide), zi_ua (by decide)]⟩
      · have eq : i = q := (nI_eq (by omega) (by omega)).mp (g1.symm.trans eo)
        subst eq
        rw [show zi hc (zla hc l) 10 = 1 from g, if_neg (by decide)] at e1
        rw [if_pos g2] at e2
        exact ⟨_, _, _, e1, e2, ⟨c, r1⟩, F1.1, MF_ui (by decide) (by decide), by rw [zi_ua (by decide)]⟩
  · rw [if_neg g0] at e1 e2
    exact ⟨hc, hm, _, e1, e2, ST_rfl r⟩
theorem w91 : ∀ (k i c : Nat) (hc hm : zH) (u u' : Option zV), i + k = n → R hc hm n p s c t → ∃ hc' hm', zev 91 2 [some (vR (some 12)), some (vI (nI i)), u] [] hc = some (none, hc') ∧ zev 149 2 [some (vR (some 19)), some (vI (nI i)), u'] [] hm = some (none, hm') ∧ ST n p s t hc hm hc' hm' := by
  intro k
  induction k with
  | zero =>
    intro i c hc hm u u' hi r
    obtain ⟨w, rm, rk, -⟩ := id r
    have hn := w.2.1
    refine ⟨hc, hm, ?_, ?_, ST_rfl r⟩
    · rw [b91_2, Cr12_0 w.1, Cr13_2 w.1, Lv16 w, Lsz w, if_neg (nI_nlt (by omega) (by omega))]
    · rw [b149_2, Mi_lots rm, rk.1, if_neg (nI_nlt (by omega) (by omega))]
  | succ k ih =>
    intro i c hc hm u u' hi r
    obtain ⟨h1, m1, v, v', e1, e2, S1⟩ := s91 r (show i < n by omega) u u'
    obtain ⟨c1, r1⟩ := S1.1
    obtain ⟨h2, m2, f1, f2, S2⟩ := ih (i + 1) c1 h1 m1 v v' (by omega) r1
    exact ⟨h2, m2, e1.trans f1, e2.trans f2, ST_tr S1 S2⟩
theorem w95 : ∀ (k i c : Nat) (hc hm : zH) (u u' u2 : Option zV), i + k = n → R hc hm n p s c t → ∃ hc' hm', zev 95 2 [some (vR (some 12)), some (vI (nI i)), u] [] hc = some (none, hc') ∧ zev 151 2 [some (vR (some 19)), some (vI (nI i)), u', u2] [] hm = some (none, hm') ∧ ST n p s t hc hm hc' hm' := by
  intro k
  induction k with
  | zero =>
    intro i c hc hm u u' u2 hi r
    obtain ⟨w, rm, rk, -⟩ := id r
    have hn := w.2.1
    refine ⟨hc, hm, ?_, ?_, ST_rfl r⟩
    · rw [b95_2, Cr12_0 w.1, Cr13_2 w.1, Lv16 w, Lsz w, if_neg (nI_nlt (by omega) (by omega))]
    · rw [b151_2, Mi_lots rm, rk.1, if_neg (nI_nlt (by omega) (by omega))]
  | succ k ih =>
    intro i c hc hm u u' u2 hi r
    obtain ⟨h1, m1, v, v', v2, e1, e2, S1⟩ := s95 r (show i < n by omega) u u' u2
    obtain ⟨c1, r1⟩ := S1.1
    obtain ⟨h2, m2, f1, f2, S2⟩ := ih (i + 1) c1 h1 m1 v v' v2 (by omega) r1
    exact ⟨h2, m2, e1.trans f1, e2.trans f2, ST_tr S1 S2⟩
theorem w97 : ∀ (k i c : Nat) (hc hm : zH) (u u' u2 : Option zV), i + k = p → R hc hm n p s c t → ∃ hc' hm', zev 97 2 [some (vR (some 12)), some (vI (nI i)), u] [] hc = some (none, hc') ∧ zev 152 2 [some (vR (some 19)), some (vI (nI i)), u', u2] [] hm = some (none, hm') ∧ ST n p s t hc hm hc' hm' := by
  intro k
  induction k with
  | zero =>
    intro i c hc hm u u' u2 hi r
    obtain ⟨w, rm, rk, -⟩ := id r
    have hp := rk.2.2.2.1
    refine ⟨hc, hm, ?_, ?_, ST_rfl r⟩
    · rw [b97_2, Cr12_1 w.1, Ci17_1 w.1, rk.2.1, if_neg (nI_nlt (by omega) (by omega))]
    · rw [b152_2, Mi_persons rm, rk.2.2.1, if_neg (nI_nlt (by omega) (by omega))]
  | succ k ih =>
    intro i c hc hm u u' u2 hi r
    obtain ⟨h1, m1, v, v', v2, e1, e2, S1⟩ := s97 r (show i < p by omega) u u' u2
    obtain ⟨c1, r1⟩ := S1.1
    obtain ⟨h2, m2, f1, f2, S2⟩ := ih (i + 1) c1 h1 m1 v v' v2 (by omega) r1
    exact ⟨h2, m2, e1.trans f1, e2.trans f2, ST_tr S1 S2⟩
theorem w100 : ∀ (k i c : Nat) (hc hm : zH) (u : Option zV), i + k = n → R hc hm n p s c t → ∃ hc' hm', zev 100 2 [some (vR (some 12)), some (vI (nI i)), u] [] hc = some (none, hc') ∧ zev 148 28 [some (vR (some 19)), some (vI (nI i))] [] hm = zev 148 28 [some (vR (some 19)), some (vI (nI n))] [] hm' ∧ ST n p s t hc hm hc' hm' := by
  intro k
  induction k with
  | zero =>
    intro i c hc hm u hi r
    obtain ⟨w, rm, rk, -⟩ := id r
    have hn := w.2.1
    refine ⟨hc, hm, ?_, by rw [show i = n by omega], ST_rfl r⟩
    rw [b100_2, Cr12_0 w.1, Cr13_2 w.1, Lv16 w, Lsz w, if_neg (nI_nlt (by omega) (by omega))]
  | succ k ih =>
    intro i c hc hm u hi r
    obtain ⟨h1, m1, v, e1, e2, S1⟩ := s100 r (show i < n by omega) u
    obtain ⟨c1, r1⟩ := S1.1
    obtain ⟨h2, m2, f1, f2, S2⟩ := ih (i + 1) c1 h1 m1 v (by omega) r1
    exact ⟨h2, m2, e1.trans f1, e2.trans f2, ST_tr S1 S2⟩
/-- a day ends -/
theorem s90 (r : R hc hm n p s c t) (e : zi hm 19 24 = nI d) (hd : d < 9999) : ∃ hc' hm', zcall 90 [vR (some 12)] hc = some (none, hc') ∧ zcall 148 [vR (some 19)] hm = some (none, hm') ∧ (∃ c', R hc' hm' n p s c' t) ∧ FO hc hc' ∧ MF hm hm' ∧ zi hm' 19 24 = nI (d + 1) := by
  obtain ⟨w, rm, rk, -⟩ := id r
  -- the parts
  obtain ⟨h1, m1, e1, e2, S1⟩ := w91 n 0 c hc hm none none (by omega) r
  rw [nI_0] at e1 e2
  obtain ⟨⟨c1, r1⟩, F1, N1, d1⟩ := S1
  obtain ⟨w1, rm1, rk1, -⟩ := id r1
  have hnow : zi m1 19 24 = nI d := d1.trans e
  obtain ⟨hnc, -⟩ := R_now r1 hnow hd
  -- conditions, and a day more
  have fin : ∀ (h2 m2 : zH) (c2 : Nat), R h2 m2 n p s c2 t → zi m2 19 24 = nI d → ∃ h5 m5, zcall 100 [vR (some 12)] h2 = some (none, h5) ∧ zev 148 28 [some (vR (some 19)), some (vI 0)] [] m2 = some (none, zui m5 19 24 (nI (d + 1))) ∧ zi h5 12 2 = nI d ∧ CS h5 ∧ (∃ c', R (zui h5 12 2 (nI (d + 1))) (zui m5 19 24 (nI (d + 1))) n p s c' t) ∧ FO h2 h5 ∧ MF m2 m5 := by
    intro h2 m2 c2 r2 e0
    obtain ⟨h5, m5, f1, f2, S5⟩ := w100 n 0 c2 h2 m2 none (by omega) r2
    rw [nI_0] at f1 f2
    obtain ⟨⟨c5, r5⟩, F5, N5, d5⟩ := S5
    obtain ⟨w5, rm5, rk5, -⟩ := id r5
    have hn := w5.2.1
    have e5 : zi m5 19 24 = nI d := d5.trans e0
    obtain ⟨y1, y2⟩ := R_now r5 e5 hd
    refine ⟨h5, m5, by rw [e100]; exact f1, ?_, y1, w5.1, ⟨c5, y2⟩, F5, N5⟩
    rw [f2, b148_28, Mi_lots rm5, rk5.1, if_neg (nI_nlt (by omega) (by omega)), Mi_now rm5, e5, Mp_now rm5, nI_1]
  have g1 : zcall 91 [vR (some 12)] hc = some (none, h1) := by rw [e91]; exact e1
  have g2 : zcall 149 [vR (some 19)] hm = some (none, m1) := by rw [e149]; exact e2
  rw [e90, Cv12 w.1, cV_k g1, Ci12_2 w1.1, hnc, dv_k (by decide), e148, M_v rm, cV_k g2, Mi_now rm1, hnow, dv_k (by decide)]
  by_cases gy : nI d - nI d / 365 * 365 = 364
  · rw [if_pos gy, if_pos gy]
    obtain ⟨h2, m2, e3, e4, S2⟩ := w95 n 0 c1 h1 m1 none none none (by omega) r1
    rw [nI_0] at e3 e4
    obtain ⟨⟨c2, r2⟩, F2, N2, d2⟩ := S2
    obtain ⟨w2, rm2, rk2, -⟩ := id r2
    obtain ⟨h3, m3, e5, e6, S3⟩ := w97 p 0 c2 h2 m2 none none none (by omega) r2
    rw [nI_0] at e5 e6
    obtain ⟨⟨c3, r3⟩, F3, N3, d3⟩ := S3
    obtain ⟨w3, rm3, rk3, -⟩ := id r3
    obtain ⟨h5, m5, f1, f2, f3, f4, f5, f6, f7⟩ := fin h3 m3 c3 r3 (d3.trans (d2.trans hnow))
    have g3 : zcall 95 [vR (some 12)] h1 = some (none, h2) := by rw [e95]; exact e3
    have g4 : zcall 151 [vR (some 19)] m1 = some (none, m2) := by rw [e151]; exact e4
    have g5 : zcall 97 [vR (some 12)] h2 = some (none, h3) := by rw [e97]; exact e5
    have g6 : zcall 152 [vR (some 19)] m2 = some (none, m3) := by rw [e152]; exact e6
    rw [Cv12 w1.1, cV_k g3, Cv12 w2.1, cV_k g5, Cv12 w3.1, cV_k f1, Ci12_2 f4, f3, Cp12_2 f4, nI_1, M_v rm1, cV_k g4, M_v rm2, cV_k g6, f2]
    exact ⟨_, _, rfl, rfl, f5, FO_tr F1 (FO_tr F2 (FO_tr F3 (FO_tr f6 (FO_ui (by decide))))), MF_u (MF_tr N1 (MF_tr N2 (MF_tr N3 f7))) (by decide) (by decide), zi_us⟩
  · rw [if_neg gy, if_neg gy]
    obtain ⟨h5, m5, f1, f2, f3, f4, f5, f6, f7⟩ := fin h1 m1 c1 r1 hnow
    rw [Cv12 w1.1, cV_k f1, Ci12_2 f4, f3, Cp12_2 f4, nI_1, f2]
    exact ⟨_, _, rfl, rfl, f5, FO_tr F1 (FO_tr f6 (FO_ui (by decide))), MF_u (MF_tr N1 f7) (by decide) (by decide), zi_us⟩
theorem w89 {N : Nat} (hN : N ≤ 1000) : ∀ (k i c d : Nat) (hc hm : zH), i + k = N → d + k ≤ 9999 → zi hm 19 24 = nI d → R hc hm n p s c t → ∃ v hc' hm' c', zev 89 36 [some (vR (some 8)), some (vI (nI N)), some (vI (nI i))] [] hc = some (some (vI v), hc') ∧ zev 147 34 [some (vR (some 19)), some (vI (nI N)), some (vI (nI i))] [] hm = some (some (vI v), hm') ∧ R hc' hm' n p s c' t ∧ FO hc hc' ∧ MF hm hm' := by
  intro k
  induction k with
  | zero =>
    intro i c d hc hm hi hd e r
    obtain ⟨w, rm, rk, -⟩ := id r
    obtain ⟨k1, k2, k3, k4, k5, k6, k7, k8, k9, ⟨D, k10, k10a, k10b⟩, -⟩ := rk
    refine ⟨nI D, hc, hm, c, ?_, ?_, r, FO_rfl, MF_rfl⟩
    · rw [b89_36, if_neg (nI_nlt (by omega) (by omega)), Cr8_1 w.1, Ci12_2 w.1, k10a]
    · rw [b147_34, if_neg (nI_nlt (by omega) (by omega)), Mi_now rm, k10b]
  | succ k ih =>
    intro i c d hc hm hi hd e r
    obtain ⟨w, rm, rk, -⟩ := id r
    obtain ⟨h1, m1, e1, e2, ⟨c1, r1⟩, F1, N1, d1⟩ := s90 r e (by omega)
    obtain ⟨v, h2, m2, c2, f1, f2, f3, f4, f5⟩ := ih (i + 1) c1 (d + 1) h1 m1 (by omega) (by omega) d1 r1
    refine ⟨v, h2, m2, c2, ?_, ?_, f3, FO_tr F1 f4, MF_tr N1 f5⟩
    · rw [b89_36, if_pos (nI_lt (by omega) (by omega)), Cr8_1 w.1, Cv12 w.1, cV_k e1, nI_1]
      exact f1
    · rw [b147_34, if_pos (nI_lt (by omega) (by omega)), M_v rm, cV_k e2, nI_1]
      exact f2
theorem J_days : JG 89 147 [vI x] := by
  intro hc hm n p s c t r ht
  obtain ⟨w, rm, rk, -⟩ := id r
  obtain ⟨k1, k2, k3, k4, k5, k6, k7, k8, k9, ⟨D, k10, k10a, k10b⟩, -⟩ := id rk
  have e1 := e89 (some 8) x hc
  have e2 := e147 (some 19) x hm
  rw [cI_k (q113 _ _ _ _)] at e2
  simp only [z64, show (0 : Int64).toInt = 0 by decide, show (1000 : Int64).toInt = 1000 by decide] at e2
  by_cases hx : 0 ≤ x.toInt ∧ x.toInt ≤ 1000
  · obtain ⟨N, hN, rfl, -⟩ := zof (x := x) (n := 1001) (by decide) ⟨hx.1, by omega⟩
    rw [if_pos hx, if_neg (by decide), Mi_now rm, k10b, nI_add] at e2
    rw [if_neg (nI_nn (by omega)), if_neg (show ¬ (1000 : Int32) < nI N from nI_nlt (a := 1000) (b := N) (by omega) (by decide)), Cr8_1 w.1, Ci12_2 w.1, k10a, nI_add] at e1
    by_cases g : D + N ≤ 9999
    · have g' : ¬ (9999 : Int32) < nI (D + N) := nI_nlt (a := 9999) (b := D + N) g (by decide)
      rw [if_neg g'] at e1 e2
      obtain ⟨v, h2, m2, c2, f1, f2, f3, f4, f5⟩ := w89 (show N ≤ 1000 by omega) N 0 c D hc hm (by omega) (by omega) k10b r
      rw [nI_0] at f1 f2
      exact ⟨v, h2, m2, n, p, s, c2, e1.trans f1, e2.trans f2, R_t f3 (by omega) (by omega), f4, f5⟩
    · have g' : (9999 : Int32) < nI (D + N) := nI_lt (a := 9999) (b := D + N) (by omega) (by omega)
      rw [if_pos g'] at e1 e2
      exact J_no r ht e1 e2
  · rw [if_neg hx, if_pos rfl] at e2
    refine J_no r ht ?_ e2
    rw [e1]
    simp only [Int32.lt_iff_toInt_lt, Int32.toInt_zero, show (1000 : Int32).toInt = 1000 by decide]
    by_cases g : x.toInt < 0
    · rw [if_pos g]
    · rw [if_neg g, if_pos (by omega)]
end ZDC
