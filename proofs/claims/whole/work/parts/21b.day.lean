section ZDB
variable {h h2 h' hc hm hb hc' hm' m' : zH} {n p s c t l j k a b q d : Nat} {x y v : Int32}
theorem q93 (w : LW h n) (F : Fr h h2) (hl : l < n) : zcall 93 [vR (some (zla h l))] h2 = some (some (vI (if zi h2 (zla h l) 12 = 1 then zi h2 (zla h l) 11 else zi h2 (zla h l) 13)), h2) := by
  rw [e93, Fgi w F hl (by decide), Fgi w F hl (by decide), Fgi w F hl (by decide)]
  split <;> rfl
theorem owe_step (e : Nat) (P L : Int32) : nI (e + 1) * P + L - P = nI e * P + L := by
  rw [nI_succ, Int32.add_mul, Int32.one_mul, Int32.add_assoc, Int32.add_comm P L, ← Int32.add_assoc, Int32.add_sub_cancel]
/-- a part that is due -/
theorem s91 (r : R hc hm n p s c t) (hl : l < n) (u u' : Option zV) : ∃ hc' hm' v v', zev 91 2 [some (vR (some 12)), some (vI (nI l)), u] [] hc = zev 91 2 [some (vR (some 12)), some (vI (nI (l + 1))), v] [] hc' ∧ zev 149 2 [some (vR (some 19)), some (vI (nI l)), u'] [] hm = zev 149 2 [some (vR (some 19)), some (vI (nI (l + 1))), v'] [] hm' ∧ ST n p s t hc hm hc' hm' := by
  obtain ⟨w, rm, rk, rx, rmo, rl, rd, rh, rg, rb, bs, rt, ro⟩ := id r
  obtain ⟨k1, k2, k3, k4, k5, k6, k7, k8, k9, ⟨D, k10, k10a, k10b⟩, k11, k12, k13, k14, k15, k16, k19⟩ := id rk
  have hn := w.2.1
  obtain ⟨d, d1, d2, d3, d4, d5⟩ := rd l hl
  obtain ⟨l1, l2, l3, l4, l5, l6, l7, l8, l9⟩ := rl l hl
  have e1 := b91_2 (some 12) (nI l) u hc
  rw [Cr12_0 w.1, Cr13_2 w.1, Lv16 w, Lsz w, if_pos (nI_lt hl (by omega)), Cr12_0 w.1, Cr13_2 w.1, Lv16 w, Lget w hl, Lca w hl, Lgi w hl (by decide), show zi hc (zla hc l) 12 = nI d from d2, nI_1] at e1
  have e2 := b149_2 (some 19) (nI l) u' hm
  rw [Mi_lots rm, k1, if_pos (nI_lt hl (by omega)), Mr_partsLeft rm, Ma_partsLeft rm (by omega), d3, nI_1] at e2
  by_cases g0 : d = 0
  · subst g0
    rw [if_neg (by decide)] at e1 e2
    exact ⟨hc, hm, _, _, e1, e2, ST_rfl r⟩
  · have hd : (0 : Int32) < nI d := nI_lt (a := 0) (b := d) (by omega) (by omega)
    obtain ⟨p1, p2, p3⟩ := d5 (by omega)
    rw [if_pos hd, Lgi w hl (by decide), Ci12_2 w.1, k10a, show zi hc (zla hc l) 14 = zi hm 29 l from p2] at e1
    rw [if_pos hd, Mi_now rm, k10b, Mr_dueDay rm, Ma_dueDay rm (by omega)] at e2
    by_cases g1 : nI D < zi hm 29 l
    · rw [if_pos g1] at e1 e2
      exact ⟨hc, hm, _, _, e1, e2, ST_rfl r⟩
    · rw [if_neg g1] at e1 e2
      have ho : zi hm 24 l ≠ -1 := fun q => by
        have := (l9 q).2
        rw [d3] at this
        exact nI_ne0 (by omega) (by omega) this
      obtain ⟨q, hq, eo⟩ : ∃ q, q < p ∧ zi hm 24 l = nI q := l2.resolve_left ho
      obtain ⟨S, hS⟩ : ∃ S, S = if d = 1 then zi hm 27 l else zi hm 26 l := ⟨_, rfl⟩
      have eS : (if zi hc (zla hc l) 12 = 1 then zi hc (zla hc l) 11 else zi hc (zla hc l) 13) = S := by
        rw [show zi hc (zla hc l) 12 = nI d from d2, show zi hc (zla hc l) 11 = _ from p3, show zi hc (zla hc l) 13 = _ from p1, hS]
        by_cases g : d = 1
        · subst g
          rw [if_pos (by decide), if_pos rfl, show nI (1 - 1) = 0 from rfl, Int32.zero_mul, Int32.zero_add]
        · rw [if_neg (show ¬ nI d = (1 : Int32) from fun q => g ((nI_eq (a := d) (b := 1) (by omega) (by decide)).mp q)), if_neg g]
      have h93 : zcall 93 [vR (some (zla hc l))] hc = some (some (vI S), hc) := by
        rw [q93 w (Fr_rfl w.1) hl, eS]
      have e3 : ∀ u', (if (1 : Int32) < nI d then zev 149 57 [some (vR (some 19)), some (vI (nI l)), u'] [vI (zi hm 26 l)] hm else zev 149 57 [some (vR (some 19)), some (vI (nI l)), u'] [vI (zi hm 27 l)] hm) = zev 149 57 [some (vR (some 19)), some (vI (nI l)), u'] [vI S] hm := fun u' => by
        rw [hS]
        by_cases g : d = 1
        · subst g
          rw [if_neg (by decide), if_pos rfl]
        · rw [if_pos (show (1 : Int32) < nI d from nI_lt (a := 1) (b := d) (by omega) (by omega)), if_neg g]
      rw [Mr_partsLeft rm, Ma_partsLeft rm (by omega), d3, Mr_part rm, Ma_part rm (by omega), Mr_lastPart rm, Ma_lastPart rm (by omega), e3, b149_57, Mr_money rm, Mr_owners rm, Ma_owners rm (by omega), eo, Ma_money rm (by omega), Mi_now rm, k10b, Mr_dueDay rm, Ma_dueDay rm (by omega), Mr_money rm, Mr_owners rm, Ma_owners rm (by omega), eo, Ma_money rm (by omega), nI_1] at e2
      have h79 := q79 (y := S) w.1 k2 k4 hq
      rw [rmo q hq] at h79
      have e7 : zi hc (zla hc l) 7 = nI q := l1.trans eo
      have e14 : zi hc (zla hc l) 14 = zi hm 29 l := p2
      rw [Cv12 w.1] at e1
      by_cases g2 : zi hm 34 q < S
      · rw [if_pos g2] at e2 h79
        by_cases g3 : nI D < zi hm 29 l + 30
        · have h92 : zcall 92 [vR (some 12), vR (some (zla hc l))] hc = some (none, hc) := by
            rw [e92, Lv w hl, cI_k h93, Cr12_1 w.1, Lgi w hl (by decide), e7, Cv17 w.1, cI_k h79, if_pos rfl, Ci12_2 w.1, k10a, Lgi w hl (by decide), e14, if_pos g3]
          rw [cV_k h92] at e1
          rw [if_pos g3] at e2
          exact ⟨hc, hm, _, _, e1, e2, ST_rfl r⟩
        · have hcb := R_own r hl ho
          have F10 : Fr hc (zui hc 12 4 (zi hc 12 4 + 1)) := Fx (Fr_rfl w.1) (by decide) w.1
          have w10 := Fr_LW w F10
          have h81 := q81b (c := c) w10 hl (by rw [zi_uk (by decide)]; exact k8) hcb
          rw [Fr_la w F10] at h81
          have h92 : zcall 92 [vR (some 12), vR (some (zla hc l))] hc = some (none, cChg (cFor (zui hc 12 4 (zi hc 12 4 + 1)) l) l (-1) c) := by
            rw [e92, Lv w hl, cI_k h93, Cr12_1 w.1, Lgi w hl (by decide), e7, Cv17 w.1, cI_k h79, if_pos rfl, Ci12_2 w.1, k10a, Lgi w hl (by decide), e14, if_neg g3, Ci12_4 w.1, Cp12_4 w.1, Cv12 F10.2.1, cV_k h81]
          rw [cV_k h92] at e1
          have rmb : MS (mBack hm c p l) := MF_ms MF_back rm
          rw [if_neg g3, M_v rm, cV_k (q150 rm k3 k4 k9 (by omega) (by omega)), Mi_forfeits rmb, mBack_19 (by decide), Mp_forfeits rmb] at e2
          have r2 : R _ (mBack (zui hm 19 27 (zi hm 19 27 + 1)) c p l) n p s (c + 1) t := R_back (R_cnt r (Or.inl rfl)) hl (by rw [zi_ua (by decide)]; exact ho)
          rw [mBack_u (by decide)] at r2
          exact ⟨_, _, _, _, e1, e2, ⟨_, r2⟩, (Fr_tr F10 (Fr_tr (Fr_for w10 hl) (Fr_chg (Fr_LW w10 (Fr_for w10 hl)) hl))).1, MF_u MF_back (by decide) (by decide), by rw [zi_uk (by decide), mBack_19 (by decide)]⟩
      · rw [if_neg g2] at e2 h79
        have r1 := R_pay (v := zi hm 34 q - S) r hq (Or.inl rfl) S rfl
        have H5 : CS (zui hc 18 q (zi hm 34 q - S)) := w.1
        generalize hh13 : zui (zui hc 18 q (zi hm 34 q - S)) 12 6 (zi hc 12 6 + S) = h13 at r1
        have F13 : Fr hc h13 := by
          rw [← hh13]
          exact Fx (Fx (Fr_rfl w.1) (by decide) w.1) (by decide) w.1
        have c13 : ∀ i k, i < n → zi h13 (zla hc i) k = zi hc (zla hc i) k := fun i k hi => by
          rw [← hh13, zl_a w hi (by decide), zl_a w hi (by decide)]
        have n13 : ∀ i, zla h13 i = zla hc i := Fr_la w F13
        have w13 := Fr_LW w F13
        generalize hhb : zui (zui (zui h13 (zla hc l) 11 (zi hc (zla hc l) 11 - S)) (zla hc l) 12 (nI d - 1)) (zla hc l) 14 (zi hm 29 l + 100) = hb
        have G1 : Fr hc (zui h13 (zla hc l) 11 (zi hc (zla hc l) 11 - S)) := Fl w F13 hl
        have G2 : Fr hc (zui (zui h13 (zla hc l) 11 (zi hc (zla hc l) 11 - S)) (zla hc l) 12 (nI d - 1)) := Fl w G1 hl
        have Gb : Fr h13 hb := by
          rw [← hhb, ← n13]
          exact Fl w13 (Fl w13 (Fl w13 (Fr_rfl w13.1) hl) hl) hl
        have h93b : zcall 93 [vR (some (zla hc l))] h13 = some (some (vI S), h13) := by
          rw [q93 w F13 hl, c13 l 12 hl, c13 l 11 hl, c13 l 13 hl, eS]
        have h94 : zcall 94 [vR (some (zla hc l))] h13 = some (none, hb) := by
          rw [e94, Fgi w F13 hl (by decide), Flv w F13 hl, cI_k h93b, Fpi w F13 hl (by decide), c13 l 11 hl, Fgi w G1 hl (by decide), zi_uk (by decide), c13 l 12 hl, show zi hc (zla hc l) 12 = nI d from d2, Fpi w G1 hl (by decide), Fgi w G2 hl (by decide), zi_uk (by decide), zi_uk (by decide), c13 l 14 hl, e14, Fpi w G2 hl (by decide), hhb]
        have h92 : zcall 92 [vR (some 12), vR (some (zla hc l))] hc = some (none, hb) := by
          rw [e92, Lv w hl, cI_k h93, Cr12_1 w.1, Lgi w hl (by decide), e7, Cv17 w.1, cI_k h79, if_neg (by decide), Ci12_6 H5, zi_ua (by decide), Cp12_6 H5, hh13, Flv w F13 hl, cV_k h94]
        rw [cV_k h92] at e1
        have ra1 : MS (zui hm 34 q (zi hm 34 q - S)) := rm
        have ra2 : MS (zui (zui hm 34 q (zi hm 34 q - S)) 19 29 (zi hm 19 29 + S)) := rm
        have ra3 : MS (zui (zui (zui hm 34 q (zi hm 34 q - S)) 19 29 (zi hm 19 29 + S)) 28 l (nI d - 1)) := rm
        rw [Mt_money rm (by omega), Mi_got ra1, zi_ua (by decide), Mp_got ra1, Mr_partsLeft ra2, Ma_partsLeft ra2 (by omega), zi_ua (by decide), zi_ua (by decide), d3, Mt_partsLeft ra2 (by omega), Mr_dueDay ra3, Ma_dueDay ra3 (by omega), zi_ua (by decide), zi_ua (by decide), zi_ua (by decide), Mt_dueDay ra3 (by omega)] at e2
        refine ⟨_, _, _, _, e1, e2, ⟨c, ?_⟩, FO_tr F13.1 Gb.1, MF_u (MF_u (MF_u (MF_ui (by decide) (by decide)) (by decide) (by decide)) (by decide) (by decide)) (by decide) (by decide), by rw [zi_ua (by decide), zi_ua (by decide), zi_uk (by decide), zi_ua (by decide)]⟩
        rw [show (23 + 6 : Nat) = 29 from rfl, k14] at r1
        have cb : ∀ i k, i < n → cf hb i k = if i = l ∧ k = 14 then zi hm 29 l + 100 else if i = l ∧ k = 12 then nI d - 1 else if i = l ∧ k = 11 then cf hc l 11 - S else cf hc i k := fun i k hi => by
          show zi hb (zla hb i) k = _
          rw [Fr_la w13 Gb, n13, ← hhb, zl_l w hi hl, zl_l w hi hl, zl_l w hi hl, c13 i k hi]
          rfl
        have cbl : ∀ k, cf hb l k = if k = 14 then zi hm 29 l + 100 else if k = 12 then nI d - 1 else if k = 11 then cf hc l 11 - S else cf hc l k := fun k => by
          rw [cb l k hl]
          simp
        have c13' : ∀ i k, i < n → cf h13 i k = cf hc i k := fun i k hi => by
          show zi h13 (zla h13 i) k = zi hc (zla hc i) k
          rw [n13, c13 i k hi]
        have em1 : nI d - 1 = nI (d - 1) := by rw [show (1 : Int32) = nI 1 from rfl, pk_sub (by omega)]
        refine R_lot r1 hl Gb (fun i k hi hk => ?_) (fun i hi => ?_) (fun a ha => ?_) (by rw [← hhb]; rfl) (by rw [← hhb]; rfl) (MF_u (MF_ui (by decide) (by decide)) (by decide) (by decide)) (fun a b1 b2 c1 c2 c3 c4 => by rw [zi_f (Ne.symm c2), zi_f (Ne.symm c1)]) (fun a i ha hi => by rw [zi_uk hi, zi_uk hi]) ?_ ?_ ?_ (fun e => absurd e ?_) ⟨d - 1, by omega, ?_, ?_, fun g => ?_, fun g => ⟨?_, ?_, ?_⟩⟩
        · rw [cb i k hi, if_neg (by omega), if_neg (by omega), if_neg (by omega), c13' i k hi]
        · rw [← hhb]; rfl
        · rw [← hhb]
          funext i
          rw [zl_f w hl ha, zl_f w hl ha, zl_f w hl ha]
        · rw [cbl, zi_ua (by decide), zi_ua (by decide), zi_ua (by decide), zi_ua (by decide)]
          exact l5
        · rw [zi_ua (by decide), zi_ua (by decide), zi_ua (by decide), zi_ua (by decide)]
          exact l6
        · rw [cbl, zi_ua (by decide), zi_ua (by decide), zi_ua (by decide), zi_ua (by decide)]
          exact l7
        · rw [zi_ua (by decide), zi_ua (by decide)]
          exact ho
        · rw [cbl, ← em1]
          rfl
        · rw [zi_ua (by decide), zi_us, em1]
        · have : d = 1 := by omega
          subst this
          rw [cbl, hS, p3, if_pos rfl]
          show nI (1 - 1) * zi hm 26 l + zi hm 27 l - zi hm 27 l = 0
          rw [show nI (1 - 1) = 0 from rfl, Int32.zero_mul, Int32.zero_add, Int32.sub_self]
        · rw [cbl, zi_ua (by decide), zi_ua (by decide)]
          exact p1
        · rw [cbl, zi_us]
          rfl
        · rw [cbl]
          refine Eq.trans (show _ = cf hc l 11 - S from rfl) ?_
          rw [zi_ua (by decide), zi_ua (by decide), zi_ua (by decide), zi_ua (by decide), hS, if_neg (by omega), p3]
          have := owe_step (d - 1 - 1) (zi hm 26 l) (zi hm 27 l)
          rw [show d - 1 - 1 + 1 = d - 1 by omega] at this
          exact this
/-- a lot's tax -/
theorem s95 (r : R hc hm n p s c t) (hl : l < n) (u u' u2 : Option zV) : ∃ hc' hm' v v' v2, zev 95 2 [some (vR (some 12)), some (vI (nI l)), u] [] hc = zev 95 2 [some (vR (some 12)), some (vI (nI (l + 1))), v] [] hc' ∧ zev 151 2 [some (vR (some 19)), some (vI (nI l)), u', u2] [] hm = zev 151 2 [some (vR (some 19)), some (vI (nI (l + 1))), v', v2] [] hm' ∧ ST n p s t hc hm hc' hm' := by
  obtain ⟨w, rm, rk, rx, rmo, rl, rd, rh, rg, rb, bs, rt, ro⟩ := id r
  obtain ⟨k1, k2, k3, k4, k5, k6, k7, k8, k9, k10, k11, k12, k13, k14, k15, k16, k19⟩ := id rk
  have hn := w.2.1
  obtain ⟨l1, l2, l3, l4, l5, l6, l7, l8, l9⟩ := rl l hl
  have e1 := b95_2 (some 12) (nI l) u hc
  rw [Cr12_0 w.1, Cr13_2 w.1, Lv16 w, Lsz w, if_pos (nI_lt hl (by omega)), Cr12_0 w.1, Cr13_2 w.1, Lv16 w, Lget w hl, Lca w hl, Lgi w hl (by decide), show zi hc (zla hc l) 7 = zi hm 24 l from l1, nI_1] at e1
  have e2 := b151_2 (some 19) (nI l) u' u2 hm
  rw [Mi_lots rm, k1, if_pos (nI_lt hl (by omega)), Mr_owners rm, Ma_owners rm (by omega), nI_1] at e2
  simp only [own_neg l2 k4] at e2
  by_cases ho : zi hm 24 l = -1
  · rw [if_pos ho] at e1 e2
    exact ⟨hc, hm, _, _, _, e1, e2, ST_rfl r⟩
  · rw [if_neg ho] at e1 e2
    obtain ⟨q, hq, eo⟩ : ∃ q, q < p ∧ zi hm 24 l = nI q := l2.resolve_left ho
    obtain ⟨v, v1, v2⟩ := worth_eq r hl
    rw [Cv12 w.1] at e1
    rw [M_v rm, cI_k v2, Mi_rate rm, dv_k (by decide), Mr_money rm, eo, Ma_money rm (by omega), Int32.mul_comm v] at e2
    generalize hT : zi hm 19 26 * v / 100 = T at e2
    have h79 := q79 (y := T) w.1 k2 k4 hq
    rw [rmo q hq] at h79
    have e7 : zi hc (zla hc l) 7 = nI q := l1.trans eo
    by_cases g2 : zi hm 34 q < T
    · rw [if_pos g2] at e2 h79
      have F10 : Fr hc (zui hc (zla hc l) 15 (zi hm 30 l + 1)) := Fl w (Fr_rfl w.1) hl
      have ra1 : MS (zui hm 30 l (zi hm 30 l + 1)) := rm
      rw [Mr_yearsOut rm, Ma_yearsOut rm (by omega), Mt_yearsOut rm (by omega), Mr_yearsOut ra1, Ma_yearsOut ra1 (by omega), zi_us] at e2
      rcases l6 with g3 | g3
      · have h96 : zcall 96 [vR (some 12), vR (some (zla hc l))] hc = some (none, zui hc (zla hc l) 15 (zi hm 30 l + 1)) := by
          rw [e96, Ci12_3 w.1, k11, Cr12_0 w.1, Cv13 w.1, cI_k v1, dv_k (by decide), hT, Cr12_1 w.1, Lgi w hl (by decide), e7, Cv17 w.1, cI_k h79, if_pos rfl, Lgi w hl (by decide), show zi hc (zla hc l) 15 = zi hm 30 l from l5, Lpi w hl (by decide), Fgi w F10 hl (by decide), zi_us, g3, if_pos (by decide)]
        rw [cV_k h96, g3] at e1
        rw [g3, if_neg (by decide)] at e2
        refine ⟨_, _, _, _, _, e1, e2, ⟨c, ?_⟩, ?_, MF_ui (by decide) (by decide), by rw [zi_ua (by decide)]⟩
        · have C : ∀ i k, i < n → cf (zui hc (zla hc l) 15 (0 + 1)) i k = if i = l ∧ k = 15 then 0 + 1 else cf hc i k := fun i k hi => cf_l w hi hl
          refine R_lot r hl (Fl w (Fr_rfl w.1) hl) (fun i k hi hk => by rw [C i k hi, if_neg (by omega)]) (fun _ _ => rfl) (fun a ha => funext fun i => zl_f w hl ha) rfl rfl (MF_ui (by decide) (by decide)) (fun a _ _ _ _ c3 _ => zi_f (Ne.symm c3)) (fun a i _ hi => zi_uk hi) (by rw [C l 15 hl, if_pos ⟨rfl, rfl⟩, zi_us]) (by rw [zi_us]; exact Or.inr (by decide)) (by rw [C l 16 hl, if_neg (by omega), zi_ua (by decide)]; exact l7) (fun e => absurd e ho) ?_
          rw [C l 12 hl, if_neg (by omega), C l 11 hl, if_neg (by omega), C l 13 hl, if_neg (by omega), C l 14 hl, if_neg (by omega), zi_ua (by decide), zi_ua (by decide)]
          exact rd l hl
        · rw [g3] at F10
          exact F10.1
      · have hcb := R_own r hl ho
        rw [g3] at F10
        have F13 : Fr hc (zui (zui hc (zla hc l) 15 (1 + 1)) 12 5 (zi hc 12 5 + 1)) := Fx F10 (by decide) w.1
        have w13 := Fr_LW w F13
        have h81 := q81b (c := c) w13 hl (by rw [zi_uk (by decide), zl_f w hl (by decide)]; exact k8) hcb
        rw [Fr_la w F13] at h81
        have h96 : zcall 96 [vR (some 12), vR (some (zla hc l))] hc = some (none, cChg (cFor (zui (zui hc (zla hc l) 15 (1 + 1)) 12 5 (zi hc 12 5 + 1)) l) l (-1) c) := by
          rw [e96, Ci12_3 w.1, k11, Cr12_0 w.1, Cv13 w.1, cI_k v1, dv_k (by decide), hT, Cr12_1 w.1, Lgi w hl (by decide), e7, Cv17 w.1, cI_k h79, if_pos rfl, Lgi w hl (by decide), show zi hc (zla hc l) 15 = zi hm 30 l from l5, Lpi w hl (by decide), g3, Fgi w F10 hl (by decide), zi_us, if_neg (by decide), Ci12_5 F10.2.1, zl_f w hl (by decide), Cp12_5 F10.2.1, Cv12 F13.2.1, cV_k h81]
        have eH : cFor (zui (zui hc (zla hc l) 15 (1 + 1)) 12 5 (zi hc 12 5 + 1)) l = cFor (zui hc 12 5 (zi hc 12 5 + 1)) l := by
          rw [zui_c (fun q => by have := (LW_la w hl).1; omega)]
          exact cFor_15
        rw [cV_k h96, eH] at e1
        rw [g3] at ra1
        have ra2 : MS (mBack (zui hm 30 l (1 + 1)) c p l) := MF_ms MF_back ra1
        rw [g3, if_pos (by decide), M_v ra1, cV_k (q150 ra1 (by rw [zi_ua (by decide)]; exact k3) k4 (by rw [zi_ua (by decide)]; exact k9) (by omega) (by omega)), mBack_30] at e2
        have ra3 : MS (mBack hm c p l) := MF_ms MF_back rm
        rw [Mi_taken ra3, mBack_19 (by decide), Mp_taken ra3] at e2
        have r2 : R _ (mBack (zui hm 19 28 (zi hm 19 28 + 1)) c p l) n p s (c + 1) t := R_back (R_cnt r (Or.inr rfl)) hl (by rw [zi_ua (by decide)]; exact ho)
        rw [mBack_u (by decide)] at r2
        have F0 : Fr hc (zui hc 12 5 (zi hc 12 5 + 1)) := Fx (Fr_rfl w.1) (by decide) w.1
        have w0 := Fr_LW w F0
        exact ⟨_, _, _, _, _, e1, e2, ⟨_, r2⟩, (Fr_tr F0 (Fr_tr (Fr_for w0 hl) (Fr_chg (Fr_LW w0 (Fr_for w0 hl)) hl))).1, MF_u MF_back (by decide) (by decide), by rw [zi_uk (by decide), mBack_19 (by decide)]⟩
    · rw [if_neg g2] at e2 h79
      have r1 := R_pay (v := zi hm 34 q - T) r hq (Or.inr rfl) T rfl
      have H5 : CS (zui hc 18 q (zi hm 34 q - T)) := w.1
      generalize hh13 : zui (zui hc 18 q (zi hm 34 q - T)) 12 7 (zi hc 12 7 + T) = h13 at r1
      have F13 : Fr hc h13 := by
        rw [← hh13]
        exact Fx (Fx (Fr_rfl w.1) (by decide) w.1) (by decide) w.1
      have w13 := Fr_LW w F13
      have n13 : ∀ i, zla h13 i = zla hc i := Fr_la w F13
      have c13 : ∀ i k, i < n → cf h13 i k = cf hc i k := fun i k hi => by
        show zi h13 (zla h13 i) k = zi hc (zla hc i) k
        rw [n13, ← hh13, zl_a w hi (by decide), zl_a w hi (by decide)]
      have h96 : zcall 96 [vR (some 12), vR (some (zla hc l))] hc = some (none, zui h13 (zla h13 l) 15 0) := by
        rw [e96, Ci12_3 w.1, k11, Cr12_0 w.1, Cv13 w.1, cI_k v1, dv_k (by decide), hT, Cr12_1 w.1, Lgi w hl (by decide), e7, Cv17 w.1, cI_k h79, if_neg (by decide), Ci12_7 H5, zi_ua (by decide), Cp12_7 H5, hh13, ← n13, Lpi w13 hl (by decide)]
      rw [cV_k h96] at e1
      have ra1 : MS (zui hm 34 q (zi hm 34 q - T)) := rm
      have ra2 : MS (zui (zui hm 34 q (zi hm 34 q - T)) 19 30 (zi hm 19 30 + T)) := rm
      rw [Mr_money rm, Ma_money rm (by omega), Mt_money rm (by omega), Mi_taxes ra1, zi_ua (by decide), Mp_taxes ra1, Mr_yearsOut ra2, Mt_yearsOut ra2 (by omega)] at e2
      have Gb : Fr h13 (zui h13 (zla h13 l) 15 0) := Fl w13 (Fr_rfl w13.1) hl
      refine ⟨_, _, _, _, _, e1, e2, ⟨c, ?_⟩, FO_tr F13.1 Gb.1, MF_u (MF_u (MF_ui (by decide) (by decide)) (by decide) (by decide)) (by decide) (by decide), by rw [zi_ua (by decide), zi_uk (by decide), zi_ua (by decide)]⟩
      rw [show (23 + 7 : Nat) = 30 from rfl, k15] at r1
      have C : ∀ i k, i < n → cf (zui h13 (zla h13 l) 15 0) i k = if i = l ∧ k = 15 then 0 else cf h13 i k := fun i k hi => cf_l w13 hi hl
      refine R_lot r1 hl Gb (fun i k hi hk => by rw [C i k hi, if_neg (by omega)]) (fun _ _ => rfl) (fun a ha => funext fun i => zl_f w13 hl ha) rfl rfl (MF_ui (by decide) (by decide)) (fun a _ _ _ _ c3 _ => zi_f (Ne.symm c3)) (fun a i _ hi => zi_uk hi) (by rw [C l 15 hl, if_pos ⟨rfl, rfl⟩, zi_us]) (by rw [zi_us]; exact Or.inl rfl) (by rw [C l 16 hl, if_neg (by omega), c13 l 16 hl, zi_ua (by decide), zi_ua (by decide), zi_ua (by decide)]; exact l7) (fun e => absurd e (by rw [zi_ua (by decide), zi_ua (by decide)]; exact ho)) ?_
      rw [C l 12 hl, if_neg (by omega), C l 11 hl, if_neg (by omega), C l 13 hl, if_neg (by omega), C l 14 hl, if_neg (by omega), c13 l 12 hl, c13 l 11 hl, c13 l 13 hl, c13 l 14 hl, zi_ua (show (28 : Nat) ≠ 30 by decide), zi_ua (show (29 : Nat) ≠ 30 by decide), zi_ua (show (28 : Nat) ≠ 19 by decide), zi_ua (show (28 : Nat) ≠ 34 by decide), zi_ua (show (29 : Nat) ≠ 19 by decide), zi_ua (show (29 : Nat) ≠ 34 by decide), zi_ua (show (26 : Nat) ≠ 19 by decide), zi_ua (show (26 : Nat) ≠ 34 by decide), zi_ua (show (27 : Nat) ≠ 19 by decide), zi_ua (show (27 : Nat) ≠ 34 by decide)]
      exact rd l hl
end ZDB
